/-! 75.test -/
section
/-! ===== the reference: TEST is read ===== -/
def zm_pe (e : List Int) : Prop := ∀ (r : List Int) (n : Int), 0 ≤ n → zm_ph r (n + 1) → zm_ph (e ++ r) n
theorem zm_pe1 {v : Int} (hv : 0 ≤ v) : zm_pe [v] := by
  intro r n _ h
  show if 0 ≤ v then zm_ph r (n + 1) else if v = -1 then 1 ≤ n ∧ zm_ph r n else 2 ≤ n ∧ zm_ph r (n - 1)
  rw [if_pos hv]
  exact h
theorem zm_pe_n {e : List Int} (he : zm_pe e) : zm_pe (e ++ [-1]) := by
  intro r n hn h
  rw [List.append_assoc]
  refine he _ n hn ?_
  show if (0 : Int) ≤ -1 then zm_ph r (n + 1 + 1) else if (-1 : Int) = -1 then 1 ≤ n + 1 ∧ zm_ph r (n + 1) else 2 ≤ n + 1 ∧ zm_ph r (n + 1 - 1)
  rw [if_neg (by decide), if_pos rfl]
  exact ⟨by omega, h⟩
theorem zm_pe_b {e1 e2 : List Int} (h1 : zm_pe e1) (h2 : zm_pe e2) {v : Int} (hv : v < -1) : zm_pe (e1 ++ (e2 ++ [v])) := by
  intro r n hn h
  rw [List.append_assoc, List.append_assoc]
  refine h1 _ n hn (h2 _ (n + 1) (by omega) ?_)
  show if (0 : Int) ≤ v then zm_ph r (n + 1 + 1 + 1) else if v = -1 then 1 ≤ n + 1 + 1 ∧ zm_ph r (n + 1 + 1) else 2 ≤ n + 1 + 1 ∧ zm_ph r (n + 1 + 1 - 1)
  rw [if_neg (by omega), if_neg (by omega), show n + 1 + 1 - 1 = n + 1 by omega]
  exact ⟨by omega, h⟩
theorem zm_pe_ph {e : List Int} (h : zm_pe e) : zm_ph e 0 := by
  have := h [] 0 (by decide) rfl
  rw [List.append_nil] at this
  exact this
/-- the words of others, as far as they count -/
def zm_t7 : List Int64 := [12251, 2774, 453701, 423672, 358062, 204, 276647, 244366229642, 7055815802, 1627639, 7020464, 8873042]
def zm_t8 : List Int64 := [10492274, 208022, 423, 1111, 10631]
def zm_t9 : List Int64 := [5146, 381245, 223456, 375062, 279252, 247516]
def zm_KT (h : zv_H) : Prop := (∀ j : Nat, j < 12 → zv_J h 367 j = zm_t7.getD j 0) ∧ (∀ j : Nat, j < 5 → zv_J h 368 j = zm_t8.getD j 0) ∧ ∀ j : Nat, j < 6 → zv_J h 369 j = zm_t9.getD j 0
def zm_K (h : zv_H) : Prop := zv_J h 368 2 = 423 ∧ zv_J h 368 3 = 1111 ∧ zv_J h 368 4 = 10631 ∧ zm_KT h
theorem zm_K_F {A B : List Nat} {h h' : zv_H} (k : zm_K h) (f : zm_F A B h h') : zm_K h' := by
  obtain ⟨k1, k2, k3, k4, k5, k6⟩ := k
  exact ⟨(zm_F_j f 368 2).trans k1, (zm_F_j f 368 3).trans k2, (zm_F_j f 368 4).trans k3, fun j hj => (zm_F_j f 367 j).trans (k4 j hj), fun j hj => (zm_F_j f 368 j).trans (k5 j hj), fun j hj => (zm_F_j f 369 j).trans (k6 j hj)⟩
theorem zm_cd_em {c c' : Nat → Int} {v : Int} (h4 : 0 ≤ c 4) (e4 : c' 4 = c 4 + 1) (ev : c' (8 + (c 4).toNat) = v) (ek : ∀ k : Nat, 8 ≤ k → k < 8 + (c 4).toNat → c' k = c k) : zm_cd c' = zm_cd c ++ [v] := by
  unfold zm_cd
  rw [e4, show (c 4 + 1).toNat = (c 4).toNat + 1 by omega, List.range_succ, List.map_append, List.map_singleton, ev]
  congr 1
  refine List.map_congr_left ?_
  intro k hk
  have := List.mem_range.mp hk
  exact ek _ (by omega) (by omega)
theorem zm_emits {h : zv_H} (hM : zm_M h) (d : Nat) (v : Int) (hw : 0 ≤ zv_I h 347 30) (h4 : zv_I h 347 30 = 0 → 0 ≤ zv_I h 348 4 ∧ zv_I h 348 4 ≤ 391) : ∃ h', C9_emits (d + 1) 347 v h = some h' ∧ zm_F [348] [] h h' ∧ (∀ k : Nat, k ≠ 4 → ¬ (8 ≤ k ∧ k < 408) → zv_I h' 348 k = zv_I h 348 k) ∧ (zv_I h 347 30 = 0 → zm_cd (zv_I h' 348) = zm_cd (zv_I h 348) ++ [v] ∧ zv_I h' 348 4 = zv_I h 348 4 + 1) := by
  have main : ∃ h', E9_emits d 347 v h = some (none, h') ∧ zm_F [348] [] h h' ∧ (∀ k : Nat, k ≠ 4 → ¬ (8 ≤ k ∧ k < 408) → zv_I h' 348 k = zv_I h 348 k) ∧ (zv_I h 347 30 = 0 → zm_cd (zv_I h' 348) = zm_cd (zv_I h 348) ++ [v] ∧ zv_I h' 348 4 = zv_I h 348 4 + 1) := by
    rw [qE9_emits, zm_e (zm_gI hM 30)]
    by_cases c1 : zv_I h 347 30 ≤ 0
    · have h4' := h4 (by omega)
      have r4 : zv_I h 348 (Int.toNat 4) = zv_I h 348 4 := rfl
      rw [if_pos c1, zm_e (zm_f0 hM), zm_e (zm_f0 hM), zm_e (zm_aI hM zm_l348 rfl (by decide) (by decide)), r4, zm_w (x := 8 + zv_I h 348 4) (by omega), zm_e (zm_wI hM zm_l348 rfl (by omega) (by omega) _)]
      have f1 : zm_F [348] [] h (zv_sI h 348 (8 + zv_I h 348 4).toNat v) := zm_F_I (zm_F_r _ _ h) rfl _ _
      have e1 : zv_I (zv_sI h 348 (8 + zv_I h 348 4).toNat v) 348 = zm_u (zv_I h 348) (8 + zv_I h 348 4).toNat v := zm_ss _ _ _ _
      generalize zv_sI h 348 (8 + zv_I h 348 4).toNat v = h1 at f1 e1
      have hM1 := zm_F_M f1 hM
      have r5 : zv_I h1 348 (Int.toNat 4) = zv_I h 348 4 := by rw [e1, zm_u_o _ _ (by show ¬ 4 = _; omega)]; rfl
      rw [zm_e (zm_f0 hM1), zm_e (zm_aI hM1 zm_l348 rfl (by decide) (by decide)), r5, zm_w (by omega), zm_e (zm_wI hM1 zm_l348 rfl (by decide) (by decide) _)]
      have e2 : zv_I (zv_sI h1 348 (Int.toNat 4) (zv_I h 348 4 + 1)) 348 = zm_u (zm_u (zv_I h 348) (8 + zv_I h 348 4).toNat v) 4 (zv_I h 348 4 + 1) := by
        rw [zm_ss, e1]
        rfl
      refine ⟨_, rfl, zm_F_I f1 rfl _ _, fun k k4 k8 => ?_, fun _ => ⟨?_, ?_⟩⟩
      · rw [e2, zm_u_o _ _ k4, zm_u_o _ _ (by omega)]
      · rw [e2]
        refine zm_cd_em h4'.1 (zm_u_s _ _ _) ?_ (fun k k0 k1 => ?_)
        · rw [zm_u_o _ _ (by omega), show 8 + (zv_I h 348 4).toNat = (8 + zv_I h 348 4).toNat by omega, zm_u_s]
        · rw [zm_u_o _ _ (by omega), zm_u_o _ _ (by omega)]
      · rw [e2, zm_u_s]
    · rw [if_neg c1]
      exact ⟨h, rfl, zm_F_r _ _ h, fun _ _ _ => rfl, fun q => absurd q (by omega)⟩
  obtain ⟨h', e, q⟩ := main
  exact ⟨h', lC9_emits (zm_ob hM) e, q⟩
def zm_Pq (h : zv_H) : Prop := (zm_M h ∧ zm_RI h ∧ zm_K h) ∧ zv_I h 347 30 = 0 ∧ 0 ≤ zv_I h 348 4 ∧ 2 * zv_I h 348 4 ≤ zv_I h 347 32
def zm_Q (h h' : zv_H) : Prop := zm_F [348] [30, 31, 32, 33, 34, 35, 37, 38] h h' ∧ zv_I h' 347 37 = zv_I h 347 37 ∧ zm_RI h' ∧ 0 ≤ zv_I h' 347 30 ∧ (∀ k : Nat, k ≠ 4 → ¬ (8 ≤ k ∧ k < 408) → zv_I h' 348 k = zv_I h 348 k) ∧ (zv_I h' 347 30 = 0 → ∃ e, zm_pe e ∧ zm_cd (zv_I h' 348) = zm_cd (zv_I h 348) ++ e ∧ zv_I h 348 4 + 1 ≤ zv_I h' 348 4 ∧ 2 * (zv_I h' 348 4 - zv_I h 348 4) + zv_I h 347 32 ≤ zv_I h' 347 32)
theorem zm_Q_P {h h' : zv_H} (p : zm_Pq h) (q : zm_Q h h') (hw : zv_I h' 347 30 = 0) : zm_Pq h' := by
  obtain ⟨⟨p1, p2, p3⟩, p4, p5, p6⟩ := p
  obtain ⟨q1, q2, q3, q4, q5, q6⟩ := q
  obtain ⟨e, e1, e2, e3, e4⟩ := q6 hw
  exact ⟨⟨zm_F_M q1 p1, q3, zm_K_F p3 q1⟩, hw, by omega, by omega⟩
/-- behind a reading, with so many bytes left behind -/
theorem zm_P_rd {h h' : zv_H} (p : zm_Pq h) (f : zm_rF h h') (r : zm_RI h') (hx : zv_I h 347 32 ≤ zv_I h' 347 32) : zm_Pq h' := by
  obtain ⟨⟨p1, p2, p3⟩, p4, p5, p6⟩ := p
  refine ⟨⟨zm_F_M f p1, r, zm_K_F p3 f⟩, (zm_F_g f 30).trans p4, ?_, ?_⟩
  · rw [zm_F_a f 348]
    exact p5
  · rw [zm_F_a f 348]
    omega
/-- a loop of operands: or, and -/
theorem zm_two (D : Nat) {op w : Int} {j : Nat} (key : Int64) (hkey : key = 423 ∨ key = 1111) (hJ : ∀ h : zv_H, zm_K h → zv_J h 368 j = key) (hj : w = (j : Int)) (hop : op < -1) (L : zv_H → zv_O) (S : zv_H → Option zv_H) (hL : ∀ h : zv_H, L h = (zv_gR h 347 9 40).bind fun v1 => (C9_which (D + 6) 347 v1 h).bind fun q2 => if q2.1 = w then (C9_reads (D + 6) 347 q2.2).bind fun g3 => (S g3).bind fun g4 => (C9_emits (D + 6) 347 op g4).bind fun g5 => L g5 else some (none, q2.2)) (deep : Int) (hS : ∀ h : zv_H, zm_Pq h → zv_I h 347 37 = deep → zm_R (S h) (zm_Q h)) {h : zv_H} (p : zm_Pq h) (hd : zv_I h 347 37 = deep) : ∀ (m : Nat) (h1 : zv_H), zm_Q h h1 → (zv_I h1 347 30 = 0 → 701 - zv_I h1 347 32 ≤ m) → zm_R (L h1) (zm_V (zm_Q h))
  | m, h1, q, hm => by
    have hM1 := zm_F_M q.1 p.1.1
    obtain ⟨v, ev, qv⟩ := zm_which hM1 (D + 5) zm_l368 rfl (by decide)
    rw [hL, zm_e (zm_f40 hM1), zm_e ev]
    dsimp only
    refine zm_if (fun hv => ?_) (fun _ => zm_iV q)
    rcases qv with z | ⟨z1, z2, z3, z4⟩
    · rw [z] at hv
      omega
    · have p1 := zm_Q_P p q z3
      obtain ⟨q1, q2, q3, q4, q5, q6⟩ := id q
      have K1 := p1.1.2.2
      have r1 := q3.2.1
      have hk : zv_J h1 347 38 = key := by
        rw [← z4, hv, hj]
        exact hJ h1 K1
      have hnx : zv_I h1 347 32 + 2 ≤ zv_I h1 347 33 := by
        have h9 := q3.2.2.2.2 z2
        by_cases c : zv_I h1 347 33 = zv_I h1 347 32 + 1
        · have h10 := h9 c
          rw [hk] at h10
          rcases hkey with z | z
          · exact absurd z h10.1
          · exact absurd z h10.2.1
        · omega
      obtain ⟨h2, e2, f2, r2, p2x, z30⟩ := zm_rd (D + 1) hM1 q3 (by rw [z2]; decide)
      have P2 := zm_P_rd p1 f2 r2 (by omega)
      have d2 : zv_I h2 347 37 = deep := (zm_F_g f2 37).trans (q2.trans hd)
      obtain ⟨h3, e3, Q3⟩ := hS h2 P2 d2
      obtain ⟨s1, s2, s3, s4, s5, s6⟩ := id Q3
      have hM3 := zm_F_M s1 P2.1.1
      have P2b := P2.2.2
      have r3 := s3.2.1
      have r1b := q3.1
      obtain ⟨h4, e4, f4, k4, t4⟩ := zm_emits hM3 (D + 5) op s4 (fun z => by
        obtain ⟨e, x1, x2, x3, x4⟩ := s6 z
        omega)
      have c21 : zv_I h2 348 = zv_I h1 348 := zm_F_a f2 348
      have f04 : zm_F [348] [30, 31, 32, 33, 34, 35, 37, 38] h h4 := zm_F_t q1 (zm_F_t (zm_F_s f2 rfl rfl) (zm_F_t s1 (zm_F_s f4 rfl rfl)))
      have w4 : zv_I h4 347 30 = zv_I h3 347 30 := zm_F_g f4 30
      have a4 : zv_I h4 347 32 = zv_I h3 347 32 := zm_F_g f4 32
      have Q4 : zm_Q h h4 := by
        refine ⟨f04, ?_, zm_RI_F s3 f4, by rw [w4]; exact s4, fun k k0 k1 => ?_, fun hz => ?_⟩
        · rw [zm_F_g f4 37, s2, d2, hd]
        · rw [k4 k k0 k1, s5 k k0 k1, c21, q5 k k0 k1]
        · rw [w4] at hz
          obtain ⟨e, x1, x2, x3, x4⟩ := s6 hz
          obtain ⟨y1, y2⟩ := t4 hz
          obtain ⟨e0, u1, u2, u3, u4⟩ := q6 z3
          refine ⟨e0 ++ (e ++ [op]), zm_pe_b u1 x1 hop, ?_, ?_, ?_⟩
          · rw [y1, x2, c21, u2, List.append_assoc, List.append_assoc]
          · rw [y2]
            rw [c21] at x3
            omega
          · rw [y2, a4]
            rw [c21] at x4
            omega
      rw [zm_e e2, zm_e e3, zm_e e4]
      have hm' : 701 - zv_I h1 347 32 ≤ m := hm z3
      cases m with
      | zero => exact absurd hm' (by omega)
      | succ m =>
        refine zm_two D key hkey hJ hj hop L S hL deep hS p hd m h4 Q4 (fun hz => ?_)
        rw [w4] at hz
        obtain ⟨e, x1, x2, x3, x4⟩ := s6 hz
        rw [a4]
        omega
theorem zm_Q0 (D : Nat) {deep : Int} (hf : ∀ h : zv_H, zm_Pq h → zv_I h 347 37 = deep → zm_R (C9_fact (D + 6) 347 h) (zm_Q h)) : ∀ h : zv_H, zm_Pq h → zv_I h 347 37 = deep → zm_R (C9_side (D + 7) 347 h) (zm_Q h) := by
  intro h p hd
  refine zm_cV (lC9_side (zm_ob p.1.1)) ?_
  obtain ⟨h1, e1, Q1⟩ := hf h p hd
  rw [qE9_side, zm_e e1]
  refine zm_two D 1111 (Or.inr rfl) (fun h k => k.2.1) rfl (by decide) (fun h => L9_side_4 (D + 6) 347 h) (fun h => C9_fact (D + 6) 347 h) (fun h => qL9_side_4 (D + 6) 347 h) deep hf p hd 701 h1 Q1 (fun _ => ?_)
  have := Q1.2.2.1.2.1
  omega
theorem zm_Q1 (D : Nat) {deep : Int} (hf : ∀ h : zv_H, zm_Pq h → zv_I h 347 37 = deep → zm_R (C9_side (D + 6) 347 h) (zm_Q h)) : ∀ h : zv_H, zm_Pq h → zv_I h 347 37 = deep → zm_R (C9_test (D + 7) 347 h) (zm_Q h) := by
  intro h p hd
  refine zm_cV (lC9_test (zm_ob p.1.1)) ?_
  obtain ⟨h1, e1, Q1⟩ := hf h p hd
  rw [qE9_test, zm_e e1]
  refine zm_two D 423 (Or.inl rfl) (fun h k => k.1) rfl (by decide) (fun h => L9_test_4 (D + 6) 347 h) (fun h => C9_side (D + 6) 347 h) (fun h => qL9_test_4 (D + 6) 347 h) deep hf p hd 701 h1 Q1 (fun _ => ?_)
  have := Q1.2.2.1.2.1
  omega
end
/-! 76.fact -/
section
theorem zm_Q_bad {h h' : zv_H} {A B : List Nat} (f : zm_F A B h h') (hA : (A.all fun r => [348].contains r) = true) (hB : (B.all fun r => [30, 31, 32, 33, 34, 35, 37, 38].contains r) = true) (h37 : zv_I h' 347 37 = zv_I h 347 37) (r : zm_RI h') (hw : 0 ≤ zv_I h' 347 30) (hk : ∀ k : Nat, k ≠ 4 → ¬ (8 ≤ k ∧ k < 408) → zv_I h' 348 k = zv_I h 348 k) (hz : zv_I h' 347 30 ≠ 0) : zm_Q h h' := ⟨zm_F_s f hA hB, h37, r, hw, hk, fun q => absurd q hz⟩
theorem zm_fact117 (D : Nat) {h : zv_H} (p : zm_Pq h) : zm_R (L9_fact_117 (D + 6) 347 h) (zm_V (zm_Q h)) := by
  obtain ⟨⟨hM, r, K⟩, hw, h4, h42⟩ := id p
  have hr := r.2.1
  have hr1 := r.1
  obtain ⟨v, ev, qv⟩ := zm_which hM (D + 5) zm_l369 rfl (by decide)
  have l136 : ∀ b : Int, (b ≠ 0 → 0 ≤ v) → zm_R (L9_fact_136 (D + 6) 347 v 347 b h) (zm_V (zm_Q h)) := by
    intro b hb
    obtain ⟨h1, e1, f1, w1, k1⟩ := zm_must hM (D + 5) b 2 (by decide) (by omega)
    have hM1 := zm_F_M f1 hM
    rw [qL9_fact_136, zm_e e1, zm_e (zm_gI hM1 30)]
    refine zm_if (fun c1 => ?_) (fun c1 => zm_iV (zm_Q_bad f1 rfl rfl (zm_F_g f1 37) (zm_RI_F r f1) w1 (fun k _ _ => by rw [zm_F_a f1 348]) (by omega)))
    have c2 : zv_I h1 347 30 = 0 := by omega
    obtain ⟨b0, eh⟩ := k1 c2
    subst eh
    have v0 := hb b0
    rcases qv with z | ⟨z1, z2, z3, z4⟩
    · rw [z] at v0
      exact absurd v0 (by decide)
    · obtain ⟨h2, e2, f2, r2, p2, w2⟩ := zm_rd (D + 1) hM r (by rw [z2]; decide)
      have hM2 := zm_F_M f2 hM
      have P2 := zm_P_rd p f2 r2 (by omega)
      have w20 : zv_I h2 347 30 = 0 := P2.2.1
      -- once the relation is known
      have l192 : ∀ how : Int, (how = -1 ∨ ((0 ≤ how ∧ how ≤ 2) ∧ zv_I h2 347 34 = 3)) → zm_R (L9_fact_192 (D + 6) 347 v how h2) (zm_V (zm_Q h1)) := by
        intro how hh
        have l203 : ∀ b2 : Int, (b2 ≠ 0 → 0 ≤ how) → zm_R (L9_fact_203 (D + 6) 347 v how 347 b2 h2) (zm_V (zm_Q h1)) := by
          intro b2 hb2
          obtain ⟨h3, e3, f3, w3, k3⟩ := zm_must hM2 (D + 5) b2 2 (by decide) (by omega)
          have hM3 := zm_F_M f3 hM2
          have r3 := zm_RI_F r2 f3
          -- number and code
          have l218 : ∀ h5 : zv_H, zm_F [] [30, 31, 32, 33, 34, 35, 38] h2 h5 → zm_RI h5 → 0 ≤ zv_I h5 347 30 → (zv_I h5 347 30 = 0 → 0 ≤ how ∧ how ≤ 2 ∧ zv_I h2 347 32 + 1 ≤ zv_I h5 347 32) → zm_R (L9_fact_218 (D + 6) 347 v how h5) (zm_V (zm_Q h1)) := by
            intro h5 f5 r5 w5 k5
            have hM5 := zm_F_M f5 hM2
            obtain ⟨n, h6, e6, f6, ok6, n0, n1⟩ := zm_takesNumber hM5 D r5 w5
            obtain ⟨r6, w6, x6⟩ := ok6
            have hM6 := zm_F_M f6 hM5
            have c6 : zv_I h6 348 = zv_I h1 348 := (zm_F_a f6 348).trans ((zm_F_a f5 348).trans (zm_F_a f2 348))
            have hr6 := r6.2.1
            obtain ⟨h7, e7, f7, k7, t7⟩ := zm_emits hM6 (D + 5) (zv_w (zv_w (v + zv_w (6 * how)) + zv_w (18 * n))) w6 (fun _ => by rw [c6]; omega)
            rw [qL9_fact_218, zm_e e6]
            dsimp only
            rw [zm_e e7]
            have f17 : zm_F [348] [30, 31, 32, 33, 34, 35, 37, 38] h1 h7 := zm_F_t (zm_F_s f2 rfl rfl) (zm_F_t (zm_F_s f5 rfl rfl) (zm_F_t (zm_F_s f6 rfl rfl) (zm_F_s f7 rfl rfl)))
            refine zm_iV ⟨f17, ?_, zm_RI_F r6 f7, ?_, fun k k0 k1 => ?_, fun hz => ?_⟩
            · rw [zm_F_g f7 37, zm_F_g f6 37, zm_F_g f5 37, zm_F_g f2 37]
            · rw [zm_F_g f7 30]
              exact w6
            · rw [k7 k k0 k1, c6]
            · rw [zm_F_g f7 30] at hz
              obtain ⟨y1, y2⟩ := t7 hz
              obtain ⟨x7, x8⟩ := x6 hz
              obtain ⟨g0, g1, g2⟩ := k5 x7
              have hz1 := z1.2
              refine ⟨[zv_w (zv_w (v + zv_w (6 * how)) + zv_w (18 * n))], zm_pe1 ?_, by rw [y1, c6], by rw [y2, c6]; omega, ?_⟩
              · rw [zm_w (x := 6 * how) (by omega), zm_w (x := v + 6 * how) (by omega), zm_w (x := 18 * n) (by omega), zm_w (by omega)]
                omega
              · rw [y2, c6, zm_F_g f7 32]
                omega
          rw [qL9_fact_203, zm_e e3, zm_e (zm_gI hM3 30)]
          refine zm_if (fun c3 => ?_) (fun c3 => l218 h3 (zm_F_s f3 rfl rfl) r3 w3 (fun q => absurd q c3))
          obtain ⟨b20, eh3⟩ := k3 c3
          subst eh3
          have g0 := hb2 b20
          rcases hh with z | ⟨g1, g2⟩
          · rw [z] at g0
            exact absurd g0 (by decide)
          · obtain ⟨h5, e5, f5, r5, p5, w5⟩ := zm_rd (D + 1) hM2 r2 (by rw [g2]; decide)
            rw [zm_e e5]
            have hr2 := r2.2.1
            exact l218 h5 (zm_F_s f5 rfl rfl) r5 (by rw [w5]; exact w3) (fun _ => ⟨g0, g1.2, by omega⟩)
        rw [qL9_fact_192]
        refine zm_if (fun _ => l203 0 (fun q => absurd rfl q)) (fun c => l203 1 (fun _ => by omega))
      rw [zm_e e2]
      obtain ⟨s1, es1, q1⟩ := zm_isSign hM2 (D + 5) r2 60
      obtain ⟨s2, es2, q2⟩ := zm_isSign hM2 (D + 5) r2 61
      obtain ⟨s3, es3, q3⟩ := zm_isSign hM2 (D + 5) r2 62
      rw [zm_e es1]
      dsimp only
      refine zm_if (fun _ => ?_) (fun c => l192 0 (Or.inr ⟨by decide, ?_⟩))
      · rw [zm_e es2]
        dsimp only
        refine zm_if (fun _ => ?_) (fun c => l192 1 (Or.inr ⟨by decide, ?_⟩))
        · rw [zm_e es3]
          dsimp only
          refine zm_if (fun _ => l192 (-1) (Or.inl rfl)) (fun c => l192 2 (Or.inr ⟨by decide, ?_⟩))
          rcases q3 with z | z
          · exact absurd z c
          · exact z.2.2
        · rcases q2 with z | z
          · exact absurd z c
          · exact z.2.2
      · rcases q1 with z | z
        · exact absurd z c
        · exact z.2.2
  rw [qL9_fact_117, zm_e (zm_f41 hM), zm_e ev]
  dsimp only
  exact zm_if (fun _ => l136 0 (fun q => absurd rfl q)) (fun c => l136 1 (fun _ => by omega))
theorem zm_fact : ∀ (j D : Nat), 3 * j ≤ D → j ≤ 6 → ∀ h : zv_H, zm_Pq h → zv_I h 347 37 = 6 - (j : Int) → zm_R (C9_fact (D + 7) 347 h) (zm_Q h)
  | j, D, hD, hj6, h, p, hd => by
    obtain ⟨⟨hM, r, K⟩, hw, h4, h42⟩ := id p
    have hr := r.2.1
    have hr1 := r.1
    refine zm_cV (lC9_fact (zm_ob hM)) ?_
    obtain ⟨v, ev, qv⟩ := zm_which hM (D + 5) zm_l368 rfl (by decide)
    -- not, or a bracket: one level down
    have l38 : ∀ b : Int, zv_I h 347 34 ≠ 0 → (b ≠ 0 → zv_I h 347 32 + 2 ≤ zv_I h 347 33) → zm_R (L9_fact_38 (D + 6) 347 b h) (zm_V (zm_Q h)) := by
      intro b hs hb
      have l53 : ∀ g : Int, (g ≠ 0 → zv_I h 347 37 < 6) → zm_R (L9_fact_53 (D + 6) 347 b 347 g h) (zm_V (zm_Q h)) := by
        intro g hg
        obtain ⟨h1, e1, f1, w1, k1⟩ := zm_must hM (D + 5) g 6 (by decide) (by omega)
        have hM1 := zm_F_M f1 hM
        rw [qL9_fact_53, zm_e e1, zm_e (zm_gI hM1 30)]
        refine zm_if (fun c1 => ?_) (fun c1 => zm_iV (zm_Q_bad f1 rfl rfl (zm_F_g f1 37) (zm_RI_F r f1) w1 (fun k _ _ => by rw [zm_F_a f1 348]) (by omega)))
        have c2 : zv_I h1 347 30 = 0 := by omega
        obtain ⟨b0, eh⟩ := k1 c2
        subst eh
        have hd6 := hg b0
        cases j with
        | zero => exact absurd hd6 (by omega)
        | succ j =>
          obtain ⟨D0, rfl⟩ : ∃ D0, D = D0 + 3 := ⟨D - 3, by omega⟩
          rw [zm_e (zm_gI hM 37), zm_w (by omega), zm_e (zm_pI hM 37 _)]
          have f2 : zm_F [] [37] h1 (zv_sI h1 347 37 (zv_I h1 347 37 + 1)) := zm_F_f (zm_F_r _ _ h1) rfl _
          have d2 : zv_I (zv_sI h1 347 37 (zv_I h1 347 37 + 1)) 347 37 = zv_I h1 347 37 + 1 := by rw [zm_sgI, if_pos rfl]
          generalize zv_sI h1 347 37 (zv_I h1 347 37 + 1) = h2 at f2 d2
          have hM2 := zm_F_M f2 hM
          have r2 := zm_RI_F r f2
          obtain ⟨h3, e3, f3, r3, p3, w3⟩ := zm_rd (D0 + 4) hM2 r2 (by rw [zm_F_g f2 34]; exact hs)
          have x23 : zv_I h2 347 33 = zv_I h1 347 33 := zm_F_g f2 33
          have x22 : zv_I h2 347 32 = zv_I h1 347 32 := zm_F_g f2 32
          have P2 : zm_Pq h2 := ⟨⟨hM2, r2, zm_K_F K f2⟩, (zm_F_g f2 30).trans c2, by rw [zm_F_a f2 348]; exact h4, by rw [zm_F_a f2 348, x22]; exact h42⟩
          have P3 := zm_P_rd P2 f3 r3 (by omega)
          have d3 : zv_I h3 347 37 = 6 - (j : Int) := by
            rw [zm_F_g f3 37, d2, hd]
            omega
          have c3 : zv_I h3 348 = zv_I h1 348 := (zm_F_a f3 348).trans (zm_F_a f2 348)
          have F3 : zm_F [348] [30, 31, 32, 33, 34, 35, 37, 38] h1 h3 := zm_F_t (zm_F_s f2 rfl rfl) (zm_F_s f3 rfl rfl)
          rw [zm_e e3]
          -- up again
          have up : ∀ h5 : zv_H, zm_F [348] [30, 31, 32, 33, 34, 35, 37, 38] h1 h5 → zv_I h5 347 37 = zv_I h3 347 37 → zm_RI h5 → 0 ≤ zv_I h5 347 30 → (∀ k : Nat, k ≠ 4 → ¬ (8 ≤ k ∧ k < 408) → zv_I h5 348 k = zv_I h1 348 k) → (zv_I h5 347 30 = 0 → ∃ e, zm_pe e ∧ zm_cd (zv_I h5 348) = zm_cd (zv_I h1 348) ++ e ∧ zv_I h1 348 4 + 1 ≤ zv_I h5 348 4 ∧ 2 * (zv_I h5 348 4 - zv_I h1 348 4) + zv_I h1 347 32 ≤ zv_I h5 347 32) → zm_R ((zv_gI h5 347 9 37).bind fun v8 => (zv_pI h5 347 9 37 (zv_w (v8 - 1))).bind fun g9 => (some ((none : Option zv_V), g9) : zv_O)) (zm_V (zm_Q h1)) := by
            intro h5 F5 d5 r5 w5 k5 g5
            have hM5 := zm_F_M F5 hM
            rw [zm_e (zm_gI hM5 37), d5, zm_F_g f3 37, d2, zm_e (zm_pI hM5 37 _), zm_w (by omega)]
            have f6 : zm_F [] [37] h5 (zv_sI h5 347 37 (zv_I h1 347 37 + 1 - 1)) := zm_F_f (zm_F_r _ _ h5) rfl _
            have d6 : zv_I (zv_sI h5 347 37 (zv_I h1 347 37 + 1 - 1)) 347 37 = zv_I h1 347 37 + 1 - 1 := by rw [zm_sgI, if_pos rfl]
            generalize zv_sI h5 347 37 (zv_I h1 347 37 + 1 - 1) = h6 at f6 d6
            refine zm_iV ⟨zm_F_t F5 (zm_F_s f6 rfl rfl), by rw [d6]; omega, zm_RI_F r5 f6, by rw [zm_F_g f6 30]; exact w5, fun k k0 k1 => by rw [zm_F_a f6 348]; exact k5 k k0 k1, fun hz => ?_⟩
            rw [zm_F_g f6 30] at hz
            rw [zm_F_a f6 348, zm_F_g f6 32]
            exact g5 hz
          refine zm_if (fun cb => ?_) (fun cb => ?_)
          · -- a bracket
            have tst := zm_Q1 (D0 + 2) (deep := 6 - (j : Int)) (zm_Q0 (D0 + 1) (zm_fact j D0 (by omega) (by omega)))
            obtain ⟨h4', e4, Q4⟩ := tst h3 P3 d3
            obtain ⟨s1, s2, s3, s4, s5, s6⟩ := Q4
            have hM4 := zm_F_M s1 P3.1.1
            obtain ⟨h5, e5, f5, ok5⟩ := zm_takes hM4 (D0 + 3) s3 s4 93
            obtain ⟨r5, w5, x5⟩ := ok5
            rw [zm_e e4, zm_e e5]
            refine up h5 (zm_F_t F3 (zm_F_t s1 (zm_F_s f5 rfl rfl))) ((zm_F_g f5 37).trans s2) r5 w5 (fun k k0 k1 => by rw [zm_F_a f5 348, s5 k k0 k1, c3]) (fun hz => ?_)
            obtain ⟨z1, z2⟩ := x5 hz
            obtain ⟨e, y1, y2, y3, y4⟩ := s6 z1
            rw [zm_F_a f5 348]
            rw [c3] at y2 y3 y4
            exact ⟨e, y1, y2, y3, by omega⟩
          · -- not
            have hn2 := hb cb
            obtain ⟨h4', e4, Q4⟩ := zm_fact j (D0 + 2) (by omega) (by omega) h3 P3 d3
            obtain ⟨s1, s2, s3, s4, s5, s6⟩ := Q4
            have hM4 := zm_F_M s1 P3.1.1
            have hr4 := s3.2.1
            have P3b := P3.2.2
            obtain ⟨h5, e5, f5, k5, t5⟩ := zm_emits hM4 (D0 + 8) (-1) s4 (fun z => by
              obtain ⟨e, x1, x2, x3, x4⟩ := s6 z
              have := s3.1
              omega)
            rw [zm_e e4, zm_e e5]
            refine up h5 (zm_F_t F3 (zm_F_t s1 (zm_F_s f5 rfl rfl))) ((zm_F_g f5 37).trans s2) (zm_RI_F s3 f5) (by rw [zm_F_g f5 30]; exact s4) (fun k k0 k1 => by rw [k5 k k0 k1, s5 k k0 k1, c3]) (fun hz => ?_)
            rw [zm_F_g f5 30] at hz
            obtain ⟨e, y1, y2, y3, y4⟩ := s6 hz
            obtain ⟨u1, u2⟩ := t5 hz
            rw [c3] at y2 y3 y4
            rw [u2, zm_F_g f5 32]
            refine ⟨e ++ [-1], zm_pe_n y1, by rw [u1, y2, List.append_assoc], by omega, by omega⟩
      rw [qL9_fact_38, zm_e (zm_gI hM 37)]
      exact zm_if (fun c => l53 1 (fun _ => c)) (fun _ => l53 0 (fun q => absurd rfl q))
    have l17 : ∀ b : Int, (b ≠ 0 → zv_I h 347 34 = 1 ∧ zv_I h 347 32 + 2 ≤ zv_I h 347 33) → zm_R (L9_fact_17 (D + 6) 347 b h) (zm_V (zm_Q h)) := by
      intro b hb
      rw [qL9_fact_17, zm_e (zm_gI hM 30), if_pos hw]
      refine zm_if (fun c1 => ?_) (fun c1 => ?_)
      · obtain ⟨s, es, qs⟩ := zm_isSign hM (D + 5) r 91
        rw [zm_e es]
        dsimp only
        refine zm_if (fun _ => zm_fact117 D p) (fun c2 => ?_)
        rcases qs with z | z
        · exact absurd z c2
        · exact l38 b (by rw [z.2.2]; decide) (fun q => absurd c1 q)
      · have := hb c1
        exact l38 b (by rw [this.1]; decide) (fun _ => this.2)
    rw [qE9_fact, zm_e (zm_f40 hM), zm_e ev]
    dsimp only
    refine zm_if (fun c => l17 1 (fun _ => ?_)) (fun _ => l17 0 (fun q => absurd rfl q))
    rcases qv with z | ⟨z1, z2, z3, z4⟩
    · rw [z] at c
      exact absurd c (by decide)
    · refine ⟨z2, ?_⟩
      have h9 := r.2.2.2.2 z2
      by_cases cx : zv_I h 347 33 = zv_I h 347 32 + 1
      · have h10 := (h9 cx).2.2
        rw [c] at z4
        rw [← z4] at h10
        exact absurd K.2.2.1 h10
      · omega
theorem zm_test (D : Nat) {h : zv_H} (p : zm_Pq h) (hd : zv_I h 347 37 = 0) : zm_R (C9_test (D + 27) 347 h) (zm_Q h) :=
  zm_Q1 (D + 20) (deep := 6 - ((6 : Nat) : Int)) (zm_Q0 (D + 19) (zm_fact 6 (D + 18) (by omega) (by omega))) h p (by rw [hd]; rfl)
end
/-! 77.line -/
section
/-! ===== the reference: a LINE ===== -/
theorem zm_does {h : zv_H} {c : Nat → Int} (hM : zm_M h) (hc : zv_I h 348 = c) (w : zm_W c) (d : Nat) (k : Int) (hk : k = 0 → 0 ≤ zv_I h 347 19 ∧ zv_I h 347 19 ≤ 12) (h42 : 0 ≤ zv_I h 347 42 ∧ zv_I h 347 42 ≤ 999) : zm_R (C9_does (d + 10) 347 k h) (fun q => zm_F [348, 351, 352, 353, 354, 355, 358, 359, 360, 362, 363, 364, 365] [3, 10, 11, 12, 19, 24] h q.2 ∧ zm_W (zv_I q.2 348)) := by
  refine zm_cI (P := fun _ h' => zm_F [348, 351, 352, 353, 354, 355, 358, 359, 360, 362, 363, 364, 365] [3, 10, 11, 12, 19, 24] h h' ∧ zm_W (zv_I h' 348)) (lC9_does (zm_ob hM)) ?_
  have ret : ∀ {o : Option (Int × zv_H)} {A B : List Nat} {Q : Int × zv_H → Prop}, (A.all fun r => List.contains [348, 351, 352, 353, 354, 355, 358, 359, 360, 362, 363, 364, 365] r) = true → (B.all fun r => List.contains [3, 10, 11, 12, 19, 24] r) = true → zm_R o Q → (∀ q, Q q → zm_F A B h q.2 ∧ zm_W (zv_I q.2 348)) → zm_R (o.bind fun q => (some (some (zv_i q.1), q.2) : zv_O)) (zm_I fun _ h' => zm_F [348, 351, 352, 353, 354, 355, 358, 359, 360, 362, 363, 364, 365] [3, 10, 11, 12, 19, 24] h h' ∧ zm_W (zv_I h' 348)) := by
    intro o A B Q hA hB ⟨q, e, hq⟩ himp
    have := himp q hq
    rw [zm_e e]
    exact zm_iI ⟨zm_F_s this.1 hA hB, this.2⟩
  rw [qE9_does]
  refine zm_if (fun c0 => ?_) (fun _ => zm_if (fun _ => ?_) (fun _ => zm_if (fun _ => ?_) (fun _ => zm_if (fun _ => ?_) (fun _ => zm_if (fun _ => ?_) (fun _ => zm_if (fun _ => ?_) (fun _ => zm_if (fun _ => ?_) (fun _ => zm_if (fun _ => ?_) (fun _ => zm_if (fun _ => ?_) (fun _ => zm_if (fun _ => ?_) (fun _ => zm_if (fun _ => ?_) (fun _ => ?_)))))))))))
  · have h19 := hk c0
    obtain ⟨m, em⟩ : ∃ m : Nat, zv_I h 347 19 = m := ⟨(zv_I h 347 19).toNat, by omega⟩
    rw [zm_e (zm_gI hM 42)]
    exact ret rfl rfl (zm_putNow hM hc w (d + 3) (m := m) (by omega) em _) (fun q hq => ⟨hq.1, hq.2.1⟩)
  · rw [zm_e (zm_gI hM 42), zm_e (zm_gI hM 43)]
    exact ret rfl rfl (zm_cutNow hM hc w (d + 3) _ _ (by omega)) (fun q hq => ⟨hq.1, hq.2.1⟩)
  · rw [zm_e (zm_f0 hM), zm_e (zm_aI hM zm_l348 rfl (by decide) (by decide)), zm_e (zm_gI hM 42), zm_e (zm_wI hM zm_l348 rfl (by decide) (by decide) _)]
    refine zm_iI ⟨zm_F_I (zm_F_r _ _ h) rfl _ _, ?_⟩
    rw [zm_ss, hc]
    have o : ∀ k : Nat, k ≠ 1 → zm_u c (Int.toNat 1) (zv_w (c (Int.toNat 1) + zv_I h 347 42)) k = c k := fun k hk => zm_u_o _ _ hk
    exact zm_W_alt w (fun k h1 _ => o k (by omega)) (by rw [o 0 (by decide)]; exact w.2.1) (by rw [o 3 (by decide)]; exact w.2.2.1) (o 4 (by decide)) (fun k h1 _ => o k (by omega)) (by rw [o 5 (by decide)]; exact w.2.2.2.2.2)
  · exact ret rfl rfl (zm_undoNow hM hc w (d + 6)) (fun q hq => hq)
  · exact ret rfl rfl (zm_redoNow hM hc w (d + 4)) (fun q hq => hq)
  · rw [zm_e (zm_gI hM 42)]
    exact ret rfl rfl (zm_goNow hM hc w (d + 4) _) (fun q hq => hq)
  · exact ret rfl rfl (zm_nameNow hM hc w (d + 6)) (fun q hq => hq)
  · rw [zm_e (zm_gI hM 42)]
    exact ret rfl rfl (zm_turnNow hM hc w (d + 2) (Or.inl rfl) _) (fun q hq => hq)
  · rw [zm_e (zm_gI hM 42)]
    exact ret rfl rfl (zm_turnNow hM hc w (d + 2) (Or.inr rfl) _) (fun q hq => hq)
  · rw [zm_e (zm_gI hM 42)]
    exact ret rfl rfl (zm_carryNow hM hc w d _) (fun q hq => ⟨hq.1, hq.2.1⟩)
  · rw [zm_e (zm_gI hM 42)]
    exact ret rfl rfl (zm_mergeNow hM hc w d _) (fun q hq => ⟨hq.1, hq.2.1⟩)
  · rw [zm_e (zm_gI hM 42)]
    exact ret rfl rfl (zm_pruneNow hM hc w (d + 4) _) (fun q hq => hq)
/-- within a LINE: what has been read changed no state -/
def zm_In (h0 h : zv_H) : Prop := zm_F [348, 351, 352, 353, 354, 355, 358, 359, 360, 362, 363, 364, 365] [3, 10, 11, 12, 19, 24, 30, 31, 32, 33, 34, 35, 38, 42, 43] h0 h ∧ zm_RI h ∧ 0 ≤ zv_I h 347 30 ∧ (zv_I h 347 30 = 0 → zv_I h0 347 32 + 1 ≤ zv_I h 347 32) ∧ zv_I h 348 = zv_I h0 348 ∧ 0 ≤ zv_I h 347 42 ∧ zv_I h 347 42 ≤ 999
/-- behind it -/
def zm_Lo (h0 h : zv_H) : Prop := zm_F [348, 351, 352, 353, 354, 355, 358, 359, 360, 362, 363, 364, 365] [3, 10, 11, 12, 19, 24, 30, 31, 32, 33, 34, 35, 38, 42, 43] h0 h ∧ zm_RI h ∧ 0 ≤ zv_I h 347 30 ∧ (zv_I h 347 30 = 0 → zm_W (zv_I h 348) ∧ zv_I h0 347 32 + 1 ≤ zv_I h 347 32)
theorem zm_In_n {h0 h h' : zv_H} (i : zm_In h0 h) (f : zm_F [] [30, 31, 32, 33, 34, 35, 38] h h') (ok : zm_Ok 1 h h') : zm_In h0 h' := by
  obtain ⟨i1, i2, i3, i4, i5, i6⟩ := i
  obtain ⟨k1, k2, k3⟩ := ok
  refine ⟨zm_F_t i1 (zm_F_s f rfl rfl), k1, k2, fun z => ?_, (zm_F_a f 348).trans i5, by rw [zm_F_g f 42]; exact i6⟩
  obtain ⟨k4, k5⟩ := k3 z
  have := i4 k4
  omega
theorem zm_readsLine {h : zv_H} (hM : zm_M h) (r : zm_RI h) (hw : zv_I h 347 30 = 0) (w : zm_W (zv_I h 348)) (d : Nat) : zm_R (C9_readsLine (d + 11) 347 h) (zm_Lo h) := by
  refine zm_cV (lC9_readsLine (zm_ob hM)) ?_
  obtain ⟨k, ek, qk⟩ := zm_which hM (d + 9) zm_l367 rfl (by decide)
  have hr := r.2.1
  -- behind the word and the numbers
  have l104 : ∀ h1 : zv_H, zm_In h h1 → (k = 0 → zv_I h1 347 30 = 0 → 0 ≤ zv_I h1 347 19 ∧ zv_I h1 347 19 ≤ 12) → zm_R (L9_readsLine_104 (d + 10) 347 k h1) (zm_V (zm_Lo h)) := by
    intro h1 i1 hk0
    obtain ⟨f1, r1, w1, x1, c1, n1⟩ := id i1
    have hM1 := zm_F_M f1 hM
    have l132 : ∀ b : Int, (b ≠ 0 → zv_I h1 347 34 = 3) → zm_R (L9_readsLine_132 (d + 10) 347 k 347 b h1) (zm_V (zm_Lo h)) := by
      intro b hb
      obtain ⟨h2, e2, f2, w2, k2⟩ := zm_must hM1 (d + 9) b 2 (by decide) w1
      have hM2 := zm_F_M f2 hM1
      rw [qL9_readsLine_132, zm_e e2, zm_e (zm_gI hM2 30)]
      refine zm_if (fun z1 => ?_) (fun z1 => zm_iV ⟨zm_F_t f1 (zm_F_s f2 rfl rfl), zm_RI_F r1 f2, w2, fun q => absurd q (by omega)⟩)
      have z2 : zv_I h2 347 30 = 0 := by omega
      obtain ⟨b0, eh⟩ := k2 z2
      subst eh
      have s3 := hb b0
      obtain ⟨⟨v, h3⟩, e3, f3, w3⟩ := zm_does hM1 c1 w d k (fun q => hk0 q z2) n1
      dsimp only at f3 w3
      have hM3 := zm_F_M f3 hM1
      have r3 := zm_RI_F r1 f3
      have y30 : zv_I h3 347 30 = zv_I h2 347 30 := zm_F_g f3 30
      have y32 : zv_I h3 347 32 = zv_I h2 347 32 := zm_F_g f3 32
      have y34 : zv_I h3 347 34 = zv_I h2 347 34 := zm_F_g f3 34
      have hr3 := r3.2.1
      have hx := x1 z2
      rw [zm_e e3]
      dsimp only
      have l158 : ∀ g : Int, zm_R (L9_readsLine_158 (d + 10) 347 347 g h3) (zm_V (zm_Lo h)) := by
        intro g
        obtain ⟨h4, e4, f4, w4, k4⟩ := zm_must hM3 (d + 9) g 7 (by decide) (by omega)
        have hM4 := zm_F_M f4 hM3
        rw [qL9_readsLine_158, zm_e e4, zm_e (zm_gI hM4 30)]
        refine zm_if (fun z4 => ?_) (fun z4 => zm_iV ⟨zm_F_t f1 (zm_F_t (zm_F_s f3 rfl rfl) (zm_F_s f4 rfl rfl)), zm_RI_F r3 f4, w4, fun q => absurd q z4⟩)
        obtain ⟨g0, eh4⟩ := k4 z4
        subst eh4
        obtain ⟨h5, e5, f5, r5, p5, w5⟩ := zm_rd (d + 5) hM3 r3 (by rw [y34, s3]; decide)
        rw [zm_e e5]
        exact zm_iV ⟨zm_F_t f1 (zm_F_t (zm_F_s f3 rfl rfl) (zm_F_s f5 rfl rfl)), r5, by omega, fun _ => ⟨by rw [zm_F_a f5 348]; exact w3, by omega⟩⟩
      exact zm_if (fun _ => l158 0) (fun _ => l158 1)
    have l131 : zm_R (L9_readsLine_131 (d + 10) 347 k 347 h1) (zm_V (zm_Lo h)) := by
      rw [qL9_readsLine_131]
      exact l132 0 (fun q => absurd rfl q)
    rw [qL9_readsLine_104, zm_e (zm_gI hM1 34)]
    refine zm_if (fun s3 => ?_) (fun _ => l131)
    have hr1 := r1.2.1
    have he1 := r1.1
    have hx1 := r1.2.2.1 (by rw [s3]; decide)
    rw [zm_e (zm_f26 hM1), zm_e (zm_gI hM1 32), zm_e (zm_aB hM1 zm_l366 (Or.inr rfl) rfl hr1.1 (by omega))]
    exact zm_if (fun _ => l132 1 (fun _ => s3)) (fun _ => l131)
  have l92 : ∀ h1 : zv_H, zm_In h h1 → (k = 0 → zv_I h1 347 30 = 0 → 0 ≤ zv_I h1 347 19 ∧ zv_I h1 347 19 ≤ 12) → zm_R (L9_readsLine_92 (d + 10) 347 k h1) (zm_V (zm_Lo h)) := by
    intro h1 i1 hk0
    have hM1 := zm_F_M i1.1 hM
    rw [qL9_readsLine_92]
    refine zm_if (fun k6 => ?_) (fun _ => l104 h1 i1 hk0)
    obtain ⟨h2, e2, f2, ok2, m2⟩ := zm_takesWord hM1 (d + 4) i1.2.1 i1.2.2.1 (most := 6) (by decide)
    rw [zm_e e2]
    obtain ⟨i1a, i1b, i1c, i1d, i1e, i1f⟩ := i1
    obtain ⟨o1, o2, o3⟩ := ok2
    refine l104 h2 ⟨zm_F_t i1a (zm_F_s f2 rfl rfl), o1, o2, fun z => ?_, (zm_F_a f2 348).trans i1e, by rw [zm_F_g f2 42]; exact i1f⟩ (fun q => by rw [q] at k6; exact absurd k6 (by decide))
    obtain ⟨z1, z2⟩ := o3 z
    have := i1d z1
    omega
  have l82 : ∀ h1 : zv_H, zm_In h h1 → zm_R (L9_readsLine_82 (d + 10) 347 k h1) (zm_V (zm_Lo h)) := by
    intro h1 i1
    have hM1 := zm_F_M i1.1 hM
    rw [qL9_readsLine_82]
    refine zm_if (fun k0 => ?_) (fun k0 => l92 h1 i1 (fun q => absurd q k0))
    obtain ⟨h2, e2, f2, ok2, m2⟩ := zm_takesWord hM1 (d + 4) i1.2.1 i1.2.2.1 (most := 12) (by decide)
    rw [zm_e e2]
    obtain ⟨i1a, i1b, i1c, i1d, i1e, i1f⟩ := i1
    obtain ⟨o1, o2, o3⟩ := ok2
    refine l92 h2 ⟨zm_F_t i1a (zm_F_s f2 rfl rfl), o1, o2, fun z => ?_, (zm_F_a f2 348).trans i1e, by rw [zm_F_g f2 42]; exact i1f⟩ (fun _ z => m2 z)
    obtain ⟨z1, z2⟩ := o3 z
    have := i1d z1
    omega
  have l69 : ∀ h1 : zv_H, zm_In h h1 → zm_R (L9_readsLine_69 (d + 10) 347 k h1) (zm_V (zm_Lo h)) := by
    intro h1 i1
    have hM1 := zm_F_M i1.1 hM
    rw [qL9_readsLine_69]
    refine zm_if (fun _ => ?_) (fun _ => l82 h1 i1)
    obtain ⟨n, h2, e2, f2, ok2, _⟩ := zm_takesNumber hM1 (d + 4) i1.2.1 i1.2.2.1
    have i2 := zm_In_n i1 f2 ok2
    rw [zm_e e2]
    dsimp only
    rw [zm_e (zm_pI (zm_F_M i2.1 hM) 43 _)]
    have f3 : zm_F [] [43] h2 (zv_sI h2 347 43 n) := zm_F_f (zm_F_r _ _ h2) rfl _
    obtain ⟨a1, a2, a3, a4, a5, a6⟩ := i2
    exact l82 _ ⟨zm_F_t a1 (zm_F_s f3 rfl rfl), zm_RI_F a2 f3, by rw [zm_F_g f3 30]; exact a3, by rw [zm_F_g f3 30, zm_F_g f3 32]; exact a4, (zm_F_a f3 348).trans a5, by rw [zm_F_g f3 42]; exact a6⟩
  have l61 : ∀ h1 : zv_H, zm_In h h1 → zm_R (L9_readsLine_61 (d + 10) 347 k h1) (zm_V (zm_Lo h)) := by
    intro h1 i1
    have hM1 := zm_F_M i1.1 hM
    obtain ⟨n, h2, e2, f2, ok2, n0, n1⟩ := zm_takesNumber hM1 (d + 4) i1.2.1 i1.2.2.1
    have i2 := zm_In_n i1 f2 ok2
    rw [qL9_readsLine_61, zm_e e2]
    dsimp only
    rw [zm_e (zm_pI (zm_F_M i2.1 hM) 42 _)]
    have f3 : zm_F [] [42] h2 (zv_sI h2 347 42 n) := zm_F_f (zm_F_r _ _ h2) rfl _
    have e42 : zv_I (zv_sI h2 347 42 n) 347 42 = n := by rw [zm_sgI, if_pos rfl]
    obtain ⟨a1, a2, a3, a4, a5, a6⟩ := i2
    exact l69 _ ⟨zm_F_t a1 (zm_F_s f3 rfl rfl), zm_RI_F a2 f3, by rw [zm_F_g f3 30]; exact a3, by rw [zm_F_g f3 30, zm_F_g f3 32]; exact a4, (zm_F_a f3 348).trans a5, by rw [e42]; exact ⟨n0, n1⟩⟩
  have l19 : ∀ b : Int, (b ≠ 0 → zv_I h 347 34 = 1) → zm_R (L9_readsLine_19 (d + 10) 347 k 347 b h) (zm_V (zm_Lo h)) := by
    intro b hb
    obtain ⟨h1, e1, f1, w1, k1⟩ := zm_must hM (d + 9) b 2 (by decide) (by omega)
    have hM1 := zm_F_M f1 hM
    rw [qL9_readsLine_19, zm_e e1, zm_e (zm_gI hM1 30)]
    refine zm_if (fun z1 => ?_) (fun z1 => zm_iV ⟨zm_F_s f1 rfl rfl, zm_RI_F r f1, w1, fun q => absurd q (by omega)⟩)
    have z2 : zv_I h1 347 30 = 0 := by omega
    obtain ⟨b0, eh⟩ := k1 z2
    subst eh
    obtain ⟨h2, e2, f2, r2, p2, w2⟩ := zm_rd (d + 5) hM r (by rw [hb b0]; decide)
    have hM2 := zm_F_M f2 hM
    rw [zm_e e2, zm_e (zm_pI hM2 42 _)]
    have f3 : zm_F [] [42] h2 (zv_sI h2 347 42 0) := zm_F_f (zm_F_r _ _ h2) rfl _
    have e42 : zv_I (zv_sI h2 347 42 0) 347 42 = 0 := by rw [zm_sgI, if_pos rfl]
    generalize zv_sI h2 347 42 0 = h3 at f3 e42
    have hM3 := zm_F_M f3 hM2
    rw [zm_e (zm_pI hM3 43 _)]
    have f4 : zm_F [] [43] h3 (zv_sI h3 347 43 0) := zm_F_f (zm_F_r _ _ h3) rfl _
    generalize zv_sI h3 347 43 0 = h4 at f4
    have i4 : zm_In h1 h4 := by
      refine ⟨zm_F_t (zm_F_s f2 rfl rfl) (zm_F_t (zm_F_s f3 rfl rfl) (zm_F_s f4 rfl rfl)), zm_RI_F (zm_RI_F r2 f3) f4, ?_, fun _ => ?_, ?_, ?_⟩
      · rw [zm_F_g f4 30, zm_F_g f3 30, w2]
        exact w1
      · rw [zm_F_g f4 32, zm_F_g f3 32]
        omega
      · rw [zm_F_a f4 348, zm_F_a f3 348, zm_F_a f2 348]
      · rw [zm_F_g f4 42, e42]
        decide
    exact zm_if (fun _ => l61 h4 i4) (fun _ => zm_if (fun _ => l61 h4 i4) (fun _ => zm_if (fun _ => l69 h4 i4) (fun _ => l61 h4 i4)))
  rw [qE9_readsLine, zm_e (zm_f39 hM), zm_e ek]
  dsimp only
  refine zm_if (fun _ => l19 0 (fun q => absurd rfl q)) (fun c => l19 1 (fun _ => ?_))
  rcases qk with z | z
  · rw [z] at c
    exact absurd (by decide) c
  · exact z.2.1
end
/-! 78.load -/
section
/-! ===== the reference: load ===== -/
/-- a start alone, of m letters -/
def zm_O (c : Nat → Int) (m : Int) : Prop := (∀ s : Int, 0 ≤ s → s ≤ 47 → zm_o c s 0 = if s = 0 then 1 else 0) ∧ (zm_o c 0 1 = -1 ∧ zm_o c 0 2 = -1 ∧ zm_o c 0 5 = m ∧ zm_o c 0 8 = 0) ∧ c 0 = 0 ∧ c 3 = 0 ∧ c 5 = 0
theorem zm_W_O {c : Nat → Int} {m : Int} (o : zm_O c m) (h0 : 0 ≤ m ∧ m ≤ 40) (h4 : 0 ≤ c 4 ∧ c 4 ≤ 392) (hp : c 4 = 0 ∨ zm_ph (zm_cd c) 0) : zm_W c := by
  obtain ⟨o1, ⟨o2, o3, o4, o5⟩, o6, o7, o8⟩ := o
  have s0 : zm_st c 0 := ⟨by decide, by rw [o1 0 (by decide) (by decide), if_pos rfl]⟩
  refine ⟨⟨fun s s1 s2 => ?_, ⟨s0, o2, o3, by rw [o4]; exact h0⟩, fun s hs => ?_⟩, by rw [o6]; exact s0, by rw [o7]; decide, h4, hp, by rw [o8]; decide⟩
  · rw [o1 s s1 s2]
    split
    · exact Or.inr rfl
    · exact Or.inl rfl
  · have es : s = 0 := by
      have h1 := hs.2
      rw [o1 s hs.1.1 hs.1.2] at h1
      by_cases q : s = 0
      · exact q
      · rw [if_neg q] at h1
        cases h1
    subst es
    refine ⟨[], ⟨⟨rfl, by decide, by decide⟩, ?_⟩, ⟨List.nodup_cons.mpr ⟨List.not_mem_nil, List.nodup_nil⟩, rfl, fun t ht => by rw [List.mem_singleton.mp ht]; exact s0⟩, fun q => absurd rfl q, fun q => absurd rfl q, fun q => ?_, by rw [o5]; decide, ?_⟩
    · show zm_o c 0 1 < 0
      rw [o2]
      decide
    · rw [o3] at q
      cases q
    · have h1 := List.length_filter_le (zm_sn c [0]) (zm_row c [0])
      have h2 : (zm_row c [0]).length ≤ 40 := by
        rw [zm_row_1, zm_rs_len, o4]
        omega
      omega
theorem zm_clears_l (d : Nat) : ∀ (n i : Nat) (h : zv_H), i + n = 4236 → zm_M h → (∀ k : Nat, k < i → zv_I h 348 k = 0) → ∃ h', L9_clears_2 d 347 i h = L9_clears_2 d 347 4236 h' ∧ zm_F [348] [] h h' ∧ (∀ k : Nat, k < 4236 → zv_I h' 348 k = 0)
  | 0, i, h, hi, _, hk => by
    have e : i = 4236 := by omega
    subst e
    exact ⟨h, rfl, zm_F_r _ _ h, hk⟩
  | n + 1, i, h, hi, hM, hk => by
    rw [qL9_clears_2, if_pos (by omega), zm_e (zm_f0 hM), zm_e (zm_wI hM zm_l348 rfl (by omega) (by omega) _), zm_w (by omega)]
    obtain ⟨h', i1, i2, i3⟩ := zm_clears_l d n (i + 1) (zv_sI h 348 ((i : Int)).toNat 0) (by omega) hM (fun k hk2 => by
      rw [zm_ss]
      by_cases q : k = i
      · rw [q, show ((i : Int)).toNat = i by omega, zm_u_s]
      · rw [zm_u_o _ _ (by omega)]
        exact hk k (by omega))
    exact ⟨h', i1, zm_F_t (zm_F_I (zm_F_r _ _ h) rfl _ _) i2, i3⟩
theorem zm_clears {h : zv_H} (hM : zm_M h) (d : Nat) : zm_R (C9_clears (d + 2) 347 h) (fun h' => zm_F [348] [] h h' ∧ zm_O (zv_I h' 348) 0 ∧ zv_I h' 348 4 = 0) := by
  refine zm_cV (lC9_clears (zm_ob hM)) ?_
  obtain ⟨z, i1, f1, k1⟩ := zm_clears_l (d + 1) 4236 0 h rfl hM (fun k hk => by omega)
  have hMz := zm_F_M f1 hM
  have S : ∀ (g : zv_H) (w v : Int), zv_I (zv_sI g 348 (432 + 76 * (0 : Int).toNat + w.toNat) v) 348 = zm_os (zv_I g 348) 0 w v := fun g w v => zm_ss _ _ _ _
  rw [qE9_clears, show L9_clears_2 (d + 1) 347 0 h = _ from i1, qL9_clears_2, if_neg (by decide), zm_e (zm_sets hMz d (by decide) (by decide) _)]
  have M1 : zm_M (zv_sI z 348 (432 + 76 * (0 : Int).toNat + Int.toNat 0) 1) := hMz
  rw [zm_e (zm_sets M1 d (by decide) (by decide) _)]
  have M2 : zm_M (zv_sI (zv_sI z 348 (432 + 76 * (0 : Int).toNat + Int.toNat 0) 1) 348 (432 + 76 * (0 : Int).toNat + Int.toNat 1) (-1)) := hMz
  rw [zm_e (zm_sets M2 d (by decide) (by decide) _)]
  have M3 : zm_M (zv_sI (zv_sI (zv_sI z 348 (432 + 76 * (0 : Int).toNat + Int.toNat 0) 1) 348 (432 + 76 * (0 : Int).toNat + Int.toNat 1) (-1)) 348 (432 + 76 * (0 : Int).toNat + Int.toNat 2) (-1)) := hMz
  rw [zm_e (zm_sets M3 d (by decide) (by decide) _)]
  have z0 : ∀ s w : Int, 0 ≤ s → s ≤ 48 → 0 ≤ w → w < 76 → zm_o (zv_I z 348) s w = 0 := fun s w s0 s1 w0 w1 => k1 _ (by omega)
  have O : ∀ (c : Nat → Int) (w v s' w' : Int), 0 ≤ w ∧ w < 76 → 0 ≤ s' → 0 ≤ w' ∧ w' < 76 → ¬ (s' = 0 ∧ w' = w) → zm_o (zm_os c 0 w v) s' w' = zm_o c s' w' := fun c w v s' w' h1 h2 h3 h4 => zm_os_o c v (by decide) h1 h2 h3 h4
  have Kk : ∀ (c : Nat → Int) (w v : Int) (k : Nat), 0 ≤ w ∧ w < 76 → k < 432 → zm_os c 0 w v k = c k := fun c w v k h1 h2 => zm_os_k c v h1 (by omega)
  refine zm_iV ⟨zm_F_I (zm_F_I (zm_F_I (zm_F_I f1 rfl _ _) rfl _ _) rfl _ _) rfl _ _, ?_, ?_⟩
  · rw [S, S, S, S]
    refine ⟨fun s s0 s1 => ?_, ⟨?_, ?_, ?_, ?_⟩, ?_, ?_, ?_⟩
    · rw [O _ _ _ _ _ (by decide) s0 (by decide) (fun q => by cases q.2), O _ _ _ _ _ (by decide) s0 (by decide) (fun q => by cases q.2), O _ _ _ _ _ (by decide) s0 (by decide) (fun q => by cases q.2)]
      by_cases q : s = 0
      · rw [if_pos q, q, zm_os_s]
      · rw [if_neg q, O _ _ _ _ _ (by decide) s0 (by decide) (fun z => q z.1)]
        exact z0 s 0 s0 (by omega) (by decide) (by decide)
    · rw [O _ _ _ _ _ (by decide) (by decide) (by decide) (fun q => by cases q.2), O _ _ _ _ _ (by decide) (by decide) (by decide) (fun q => by cases q.2), zm_os_s]
    · rw [O _ _ _ _ _ (by decide) (by decide) (by decide) (fun q => by cases q.2), zm_os_s]
    · rw [O _ _ _ _ _ (by decide) (by decide) (by decide) (fun q => by cases q.2), O _ _ _ _ _ (by decide) (by decide) (by decide) (fun q => by cases q.2), O _ _ _ _ _ (by decide) (by decide) (by decide) (fun q => by cases q.2), O _ _ _ _ _ (by decide) (by decide) (by decide) (fun q => by cases q.2)]
      exact z0 0 5 (by decide) (by decide) (by decide) (by decide)
    · rw [O _ _ _ _ _ (by decide) (by decide) (by decide) (fun q => by cases q.2), O _ _ _ _ _ (by decide) (by decide) (by decide) (fun q => by cases q.2), O _ _ _ _ _ (by decide) (by decide) (by decide) (fun q => by cases q.2), O _ _ _ _ _ (by decide) (by decide) (by decide) (fun q => by cases q.2)]
      exact z0 0 8 (by decide) (by decide) (by decide) (by decide)
    · rw [Kk _ _ _ _ (by decide) (by decide), Kk _ _ _ _ (by decide) (by decide), Kk _ _ _ _ (by decide) (by decide), Kk _ _ _ _ (by decide) (by decide)]
      exact k1 0 (by decide)
    · rw [Kk _ _ _ _ (by decide) (by decide), Kk _ _ _ _ (by decide) (by decide), Kk _ _ _ _ (by decide) (by decide), Kk _ _ _ _ (by decide) (by decide)]
      exact k1 3 (by decide)
    · rw [Kk _ _ _ _ (by decide) (by decide), Kk _ _ _ _ (by decide) (by decide), Kk _ _ _ _ (by decide) (by decide), Kk _ _ _ _ (by decide) (by decide)]
      exact k1 5 (by decide)
  · rw [S, S, S, S, Kk _ _ _ _ (by decide) (by decide), Kk _ _ _ _ (by decide) (by decide), Kk _ _ _ _ (by decide) (by decide), Kk _ _ _ _ (by decide) (by decide)]
    exact k1 4 (by decide)
theorem zm_load48 (d : Nat) : ∀ (n i : Nat) (h : zv_H), i + n = 4236 → zm_M h → (∀ k : Nat, k < i → zv_I h 349 k = zv_I h 348 k) → ∃ h', L9_load_48 d 347 i h = L9_load_48 d 347 4236 h' ∧ zm_F [349] [] h h' ∧ (∀ k : Nat, k < 4236 → zv_I h' 349 k = zv_I h 348 k)
  | 0, i, h, hi, _, hk => by
    have e : i = 4236 := by omega
    subst e
    exact ⟨h, rfl, zm_F_r _ _ h, hk⟩
  | n + 1, i, h, hi, hM, hk => by
    rw [qL9_load_48, if_pos (by omega), zm_e (zm_f1 hM), zm_e (zm_f0 hM), zm_e (zm_aI hM zm_l348 rfl (by omega) (by omega)), zm_e (zm_wI hM zm_l349 rfl (by omega) (by omega) _), zm_w (by omega)]
    obtain ⟨h', i1, i2, i3⟩ := zm_load48 d n (i + 1) (zv_sI h 349 ((i : Int)).toNat (zv_I h 348 ((i : Int)).toNat)) (by omega) hM (fun k hk2 => by
      rw [zm_ss, zm_so h _ _]
      by_cases q : k = i
      · rw [q, show ((i : Int)).toNat = i by omega, zm_u_s]
      · rw [zm_u_o _ _ (by omega)]
        exact hk k (by omega))
    exact ⟨h', i1, zm_F_t (zm_F_I (zm_F_r _ _ h) rfl _ _) i2, fun k hk => by rw [i3 k hk, zm_so h _ _]⟩
theorem zm_load254 (d : Nat) : ∀ (n i : Nat) (h : zv_H), i + n = 4236 → zm_M h → (∀ k : Nat, k < i → zv_I h 348 k = zv_I h 349 k) → ∃ h', L9_load_254 d 347 i h = L9_load_254 d 347 4236 h' ∧ zm_F [348] [] h h' ∧ (∀ k : Nat, k < 4236 → zv_I h' 348 k = zv_I h 349 k)
  | 0, i, h, hi, _, hk => by
    have e : i = 4236 := by omega
    subst e
    exact ⟨h, rfl, zm_F_r _ _ h, hk⟩
  | n + 1, i, h, hi, hM, hk => by
    rw [qL9_load_254, if_pos (by omega), zm_e (zm_f0 hM), zm_e (zm_f1 hM), zm_e (zm_aI hM zm_l349 rfl (by omega) (by omega)), zm_e (zm_wI hM zm_l348 rfl (by omega) (by omega) _), zm_w (by omega)]
    obtain ⟨h', i1, i2, i3⟩ := zm_load254 d n (i + 1) (zv_sI h 348 ((i : Int)).toNat (zv_I h 349 ((i : Int)).toNat)) (by omega) hM (fun k hk2 => by
      rw [zm_ss, zm_so h _ _]
      by_cases q : k = i
      · rw [q, show ((i : Int)).toNat = i by omega, zm_u_s]
      · rw [zm_u_o _ _ (by omega)]
        exact hk k (by omega))
    exact ⟨h', i1, zm_F_t (zm_F_I (zm_F_r _ _ h) rfl _ _) i2, fun k hk => by rw [i3 k hk, zm_so h _ _]⟩
/-- all the same numbers: as it was -/
theorem zm_W_eq {c c' : Nat → Int} (w : zm_W c) (e : ∀ k : Nat, k < 4236 → c' k = c k) : zm_W c' := zm_W_alt w (fun k _ h => e k (by omega)) (by rw [e 0 (by decide)]; exact w.2.1) (by rw [e 3 (by decide)]; exact w.2.2.1) (e 4 (by decide)) (fun k _ h => e k (by omega)) (by rw [e 5 (by decide)]; exact w.2.2.2.2.2)
/-- within load -/
def zm_Ld (c0 : Nat → Int) (h0 h : zv_H) : Prop := zm_F [348, 349, 351, 352, 353, 354, 355, 358, 359, 360, 362, 363, 364, 365] [3, 4, 10, 11, 12, 19, 24, 27, 28, 29, 30, 31, 32, 33, 34, 35, 36, 37, 38, 42, 43] h0 h ∧ (zm_RI h ∧ zm_K h) ∧ 0 ≤ zv_I h 347 30 ∧ ∀ k : Nat, k < 4236 → zv_I h 349 k = c0 k
theorem zm_Ld_n {c0 : Nat → Int} {h0 h h' : zv_H} {A B : List Nat} (l : zm_Ld c0 h0 h) (f : zm_F A B h h') (hA : (A.all fun r => List.contains [348, 349, 351, 352, 353, 354, 355, 358, 359, 360, 362, 363, 364, 365] r) = true) (hB : (B.all fun r => List.contains [3, 4, 10, 11, 12, 19, 24, 27, 28, 29, 30, 31, 32, 33, 34, 35, 36, 37, 38, 42, 43] r) = true) (h349 : A.contains 349 = false) (r : zm_RI h') (w : 0 ≤ zv_I h' 347 30) : zm_Ld c0 h0 h' := by
  obtain ⟨l1, ⟨l2, l3⟩, l4, l5⟩ := l
  exact ⟨zm_F_t l1 (zm_F_s f hA hB), ⟨r, zm_K_F l3 f⟩, w, fun k hk => by rw [zm_F_a f 349 h349]; exact l5 k hk⟩
def zm_Lp (h0 : zv_H) (_ : Int) (h : zv_H) : Prop := zm_F [348, 349, 351, 352, 353, 354, 355, 358, 359, 360, 362, 363, 364, 365] [3, 4, 10, 11, 12, 19, 24, 27, 28, 29, 30, 31, 32, 33, 34, 35, 36, 37, 38, 42, 43] h0 h ∧ zm_W (zv_I h 348) ∧ zv_I h 347 27 = 0 ∧ 0 ≤ zv_I h 347 35 ∧ zv_I h 347 35 ≤ 999
theorem zm_load203 (d : Nat) {c0 : Nat → Int} (w0 : zm_W c0) {h0 h : zv_H} (hM0 : zm_M h0) (l : zm_Ld c0 h0 h) (hw : zv_I h 347 30 = 0 → zm_W (zv_I h 348)) : zm_R (L9_load_203 (d + 2) 347 h) (zm_I (zm_Lp h0)) := by
  obtain ⟨l1, ⟨l2, l3⟩, l4, l5⟩ := l
  have hM := zm_F_M l1 hM0
  rw [qL9_load_203, zm_e (zm_pI hM 27 0)]
  have f1 : zm_F [] [27] h (zv_sI h 347 27 0) := zm_F_f (zm_F_r _ _ h) rfl _
  have e1 : zv_I (zv_sI h 347 27 0) 347 27 = 0 := by rw [zm_sgI, if_pos rfl]
  generalize zv_sI h 347 27 0 = h1 at f1 e1
  have hM1 := zm_F_M f1 hM
  rw [zm_e (zm_gI hM1 30), zm_e (zm_pI hM1 28 _)]
  have f2 : zm_F [] [28] h1 (zv_sI h1 347 28 (zv_I h1 347 30)) := zm_F_f (zm_F_r _ _ h1) rfl _
  generalize zv_sI h1 347 28 (zv_I h1 347 30) = h2 at f2
  have hM2 := zm_F_M f2 hM1
  have l232 : ∀ v : Int, zm_R (L9_load_232 (d + 2) 347 347 v h2) (zm_I (zm_Lp h0)) := by
    intro v
    rw [qL9_load_232, zm_e (zm_pI hM2 29 _)]
    have f3 : zm_F [] [29] h2 (zv_sI h2 347 29 v) := zm_F_f (zm_F_r _ _ h2) rfl _
    generalize zv_sI h2 347 29 v = h3 at f3
    have hM3 := zm_F_M f3 hM2
    rw [zm_e (zm_pI hM3 3 _)]
    have f4 : zm_F [] [3] h3 (zv_sI h3 347 3 0) := zm_F_f (zm_F_r _ _ h3) rfl _
    generalize zv_sI h3 347 3 0 = h4 at f4
    have hM4 := zm_F_M f4 hM3
    have F4 : zm_F [] [3, 27, 28, 29] h h4 := zm_F_t (zm_F_s f1 rfl rfl) (zm_F_t (zm_F_s f2 rfl rfl) (zm_F_t (zm_F_s f3 rfl rfl) (zm_F_s f4 rfl rfl)))
    have z27 : zv_I h4 347 27 = 0 := by rw [zm_F_g f4 27, zm_F_g f3 27, zm_F_g f2 27, e1]
    have F04 : zm_F [348, 349, 351, 352, 353, 354, 355, 358, 359, 360, 362, 363, 364, 365] [3, 4, 10, 11, 12, 19, 24, 27, 28, 29, 30, 31, 32, 33, 34, 35, 36, 37, 38, 42, 43] h0 h4 := zm_F_t l1 (zm_F_s F4 rfl rfl)
    rw [zm_e (zm_gI hM4 30)]
    refine zm_if (fun z => ?_) (fun _ => ?_)
    · have w4 : zm_W (zv_I h4 348) := by
        rw [zm_F_a F4 348]
        exact hw (by rw [← zm_F_g F4 30]; exact z)
      rw [zm_e (zm_states hM4 _ w4.1.1)]
      exact zm_iI ⟨F04, w4, z27, by rw [zm_F_g F4 35]; exact l2.2.2.2.1⟩
    · obtain ⟨h5, i5, f5, k5⟩ := zm_load254 (d + 2) 4236 0 h4 rfl hM4 (fun k hk => by omega)
      have hM5 := zm_F_M f5 hM4
      rw [show L9_load_254 (d + 2) 347 0 h4 = _ from i5, qL9_load_254, if_neg (by decide), zm_e (zm_refuse hM5 _ 9)]
      have f6 : zm_F [] [3] h5 (zv_sI h5 347 3 9) := zm_F_f (zm_F_r _ _ h5) rfl _
      refine zm_iI ⟨zm_F_t F04 (zm_F_t (zm_F_s f5 rfl rfl) (zm_F_s f6 rfl rfl)), ?_, ?_, ?_⟩
      · rw [zm_F_a f6 348]
        exact zm_W_eq w0 (fun k hk => by rw [k5 k hk, zm_F_a F4 349]; exact l5 k hk)
      · rw [zm_F_g f6 27, zm_F_g f5 27, z27]
      · rw [zm_F_g f6 35, zm_F_g f5 35, zm_F_g F4 35]
        exact l2.2.2.2.1
  rw [zm_e (zm_gI hM2 30)]
  refine zm_if (fun _ => l232 (-1)) (fun _ => ?_)
  rw [zm_e (zm_gI hM2 31)]
  exact l232 _
theorem zm_load182 (d : Nat) {c0 : Nat → Int} (w0 : zm_W c0) {h0 : zv_H} (hM0 : zm_M h0) : ∀ (m : Nat) (h : zv_H), zm_Ld c0 h0 h → (zv_I h 347 30 = 0 → zm_W (zv_I h 348) ∧ 701 - zv_I h 347 32 ≤ m) → zm_R (L9_load_182 (d + 11) 347 h) (zm_I (zm_Lp h0))
  | m, h, l, hw => by
    have hM := zm_F_M l.1 hM0
    have end_ := zm_load203 (d + 9) w0 hM0 l (fun z => (hw z).1)
    rw [qL9_load_182, zm_e (zm_gI hM 30)]
    refine zm_if (fun z => ?_) (fun _ => end_)
    rw [zm_e (zm_gI hM 34)]
    refine zm_if (fun _ => end_) (fun _ => ?_)
    obtain ⟨w1, m1⟩ := hw z
    have hr := l.2.1.1.2.1
    obtain ⟨h1, e1, f1, r1, x1, y1⟩ := zm_readsLine hM l.2.1.1 z w1 d
    rw [zm_e e1]
    have l' := zm_Ld_n l f1 rfl rfl rfl r1 x1
    cases m with
    | zero => exact absurd m1 (by omega)
    | succ m => exact zm_load182 d w0 hM0 m h1 l' (fun z1 => ⟨(y1 z1).1, by have := (y1 z1).2; omega⟩)
theorem zm_load156 (d : Nat) {c0 : Nat → Int} (w0 : zm_W c0) {h0 : zv_H} (hM0 : zm_M h0) {h : zv_H} (l : zm_Ld c0 h0 h) (hd : zv_I h 347 37 = 0) (hO : zv_I h 347 30 = 0 → ∃ m : Int, (0 ≤ m ∧ m ≤ 40) ∧ zm_O (zv_I h 348) m ∧ zv_I h 348 4 = 0) : zm_R (L9_load_156 (d + 27) 347 h) (zm_I (zm_Lp h0)) := by
  have hM := zm_F_M l.1 hM0
  have r := l.2.1.1
  have hr := r.2.1
  obtain ⟨k, ek, qk⟩ := zm_which hM (d + 26) zm_l368 rfl (by decide)
  rw [qL9_load_156, zm_e (zm_f40 hM), zm_e ek]
  dsimp only
  refine zm_if (fun c1 => ?_) (fun _ => zm_load182 (d + 16) w0 hM0 701 h l (fun z => ?_))
  · rcases qk with z | ⟨z1, z2, z3, z4⟩
    · rw [z] at c1
      exact absurd c1 (by decide)
    · obtain ⟨m, hm, o, c4⟩ := hO z3
      obtain ⟨h1, e1, f1, r1, p1, w1⟩ := zm_rd (d + 22) hM r (by rw [z2]; decide)
      have hM1 := zm_F_M f1 hM
      have e48 : zv_I h1 348 = zv_I h 348 := zm_F_a f1 348
      have hr1 := r1.2.1
      have P1 : zm_Pq h1 := ⟨⟨hM1, r1, zm_K_F l.2.1.2 f1⟩, w1.trans z3, by rw [e48, c4]; exact Int.le_refl _, by rw [e48, c4]; omega⟩
      obtain ⟨h2, e2, Q2⟩ := zm_test d P1 ((zm_F_g f1 37).trans hd)
      obtain ⟨s1, s2, s3, s4, s5, s6⟩ := Q2
      have hM2 := zm_F_M s1 hM1
      obtain ⟨h3, e3, f3, ok3⟩ := zm_takes hM2 (d + 21) s3 s4 59
      obtain ⟨o1, o2, o3⟩ := ok3
      rw [zm_e e1, zm_e e2, zm_e e3]
      have l1 := zm_Ld_n l f1 rfl rfl rfl r1 (by rw [w1, z3]; exact Int.le_refl _)
      have l2 := zm_Ld_n l1 s1 rfl rfl rfl s3 s4
      have l3 := zm_Ld_n l2 f3 rfl rfl rfl o1 o2
      refine zm_load182 (d + 16) w0 hM0 701 h3 l3 (fun z => ⟨?_, by have := o1.2.1; omega⟩)
      obtain ⟨z5, _⟩ := o3 z
      obtain ⟨e, y1, y2, y3, y4⟩ := s6 z5
      have hb := s3.2.1
      have hb2 := s3.1
      have h348 : zv_I h3 348 = zv_I h2 348 := zm_F_a f3 348
      rw [e48, c4] at y3 y4
      have hcd : zm_cd (zv_I h1 348) = [] := by
        unfold zm_cd
        rw [e48, c4]
        rfl
      rw [hcd, List.nil_append] at y2
      rw [h348]
      have s5' : ∀ k : Nat, k ≠ 4 → ¬ (8 ≤ k ∧ k < 408) → zv_I h2 348 k = zv_I h 348 k := fun k k0 k1 => (s5 k k0 k1).trans (by rw [e48])
      refine zm_W_O (m := m) ⟨fun s q0 q1 => ?_, ⟨?_, ?_, ?_, ?_⟩, ?_, ?_, ?_⟩ hm (by omega) (Or.inr (by rw [y2]; exact zm_pe_ph y1))
      · show zv_I h2 348 _ = _
        rw [s5' _ (by omega) (by omega)]
        exact o.1 s q0 q1
      · show zv_I h2 348 _ = _
        rw [s5' _ (by decide) (by decide)]
        exact o.2.1.1
      · show zv_I h2 348 _ = _
        rw [s5' _ (by decide) (by decide)]
        exact o.2.1.2.1
      · show zv_I h2 348 _ = _
        rw [s5' _ (by decide) (by decide)]
        exact o.2.1.2.2.1
      · show zv_I h2 348 _ = _
        rw [s5' _ (by decide) (by decide)]
        exact o.2.1.2.2.2
      · rw [s5' _ (by decide) (by decide)]
        exact o.2.2.1
      · rw [s5' _ (by decide) (by decide)]
        exact o.2.2.2.1
      · rw [s5' _ (by decide) (by decide)]
        exact o.2.2.2.2
  · obtain ⟨m, hm, o, c4⟩ := hO z
    exact ⟨zm_W_O o hm (by rw [c4]; decide) (Or.inl c4), by omega⟩
theorem zm_O_s {c : Nat → Int} {m : Int} (o : zm_O c m) {w : Int} (hw : 12 ≤ w ∧ w < 76) (v : Int) : zm_O (zm_os c 0 w v) m ∧ zm_os c 0 w v 4 = c 4 := by
  obtain ⟨o1, ⟨o2, o3, o4, o5⟩, o6, o7, o8⟩ := o
  have O : ∀ s' w' : Int, 0 ≤ s' → 0 ≤ w' → w' < 12 → zm_o (zm_os c 0 w v) s' w' = zm_o c s' w' := fun s' w' h1 h2 h3 => zm_os_o c v (by decide) (by omega) h1 (by omega) (fun q => by omega)
  have Kk : ∀ k : Nat, k < 432 → zm_os c 0 w v k = c k := fun k hk => zm_os_k c v (by omega) (by omega)
  exact ⟨⟨fun s s0 s1 => (O s 0 s0 (by decide) (by decide)).trans (o1 s s0 s1), ⟨(O 0 1 (by decide) (by decide) (by decide)).trans o2, (O 0 2 (by decide) (by decide) (by decide)).trans o3, (O 0 5 (by decide) (by decide) (by decide)).trans o4, (O 0 8 (by decide) (by decide) (by decide)).trans o5⟩, (Kk 0 (by decide)).trans o6, (Kk 3 (by decide)).trans o7, (Kk 5 (by decide)).trans o8⟩, Kk 4 (by decide)⟩
theorem zm_O_5 {c : Nat → Int} {m : Int} (o : zm_O c m) (v : Int) : zm_O (zm_os c 0 5 v) v ∧ zm_os c 0 5 v 4 = c 4 := by
  obtain ⟨o1, ⟨o2, o3, o4, o5⟩, o6, o7, o8⟩ := o
  have O : ∀ s' w' : Int, 0 ≤ s' → 0 ≤ w' → w' < 76 → w' ≠ 5 → zm_o (zm_os c 0 5 v) s' w' = zm_o c s' w' := fun s' w' h1 h2 h3 h4 => zm_os_o c v (by decide) (by decide) h1 ⟨h2, h3⟩ (fun q => h4 q.2)
  have Kk : ∀ k : Nat, k < 432 → zm_os c 0 5 v k = c k := fun k hk => zm_os_k c v (by decide) (by omega)
  exact ⟨⟨fun s s0 s1 => (O s 0 s0 (by decide) (by decide) (by decide)).trans (o1 s s0 s1), ⟨(O 0 1 (by decide) (by decide) (by decide) (by decide)).trans o2, (O 0 2 (by decide) (by decide) (by decide) (by decide)).trans o3, zm_os_s _ _ _ _, (O 0 8 (by decide) (by decide) (by decide) (by decide)).trans o5⟩, (Kk 0 (by decide)).trans o6, (Kk 3 (by decide)).trans o7, (Kk 5 (by decide)).trans o8⟩, Kk 4 (by decide)⟩
theorem zm_load104 (d : Nat) {c0 : Nat → Int} (w0 : zm_W c0) {h0 : zv_H} (hM0 : zm_M h0) : ∀ (n i : Nat) (h : zv_H), zm_Ld c0 h0 h → zv_I h 347 37 = 0 → (zv_I h 347 30 = 0 → (0 ≤ zv_I h 347 19 ∧ zv_I h 347 19 ≤ 40) ∧ (i : Int) ≤ zv_I h 347 19 ∧ zv_I h 347 19 - i ≤ n ∧ ∃ m, zm_O (zv_I h 348) m ∧ zv_I h 348 4 = 0) → zm_R (L9_load_104 (d + 27) 347 i h) (zm_I (zm_Lp h0))
  | n, i, h, l, hd, hO => by
    have hM := zm_F_M l.1 hM0
    have r := l.2.1.1
    have l140 : zm_R (L9_load_140 (d + 27) 347 h) (zm_I (zm_Lp h0)) := by
      rw [qL9_load_140, zm_e (zm_gI hM 19), zm_e (zm_sets hM _ (by decide) (by decide) _)]
      have f1 : zm_F [348] [] h (zv_sI h 348 (432 + 76 * (0 : Int).toNat + Int.toNat 5) (zv_I h 347 19)) := zm_F_I (zm_F_r _ _ h) rfl _ _
      have e1 : zv_I (zv_sI h 348 (432 + 76 * (0 : Int).toNat + Int.toNat 5) (zv_I h 347 19)) 348 = zm_os (zv_I h 348) 0 5 (zv_I h 347 19) := zm_ss _ _ _ _
      generalize zv_sI h 348 (432 + 76 * (0 : Int).toNat + Int.toNat 5) (zv_I h 347 19) = h1 at f1 e1
      have hM1 := zm_F_M f1 hM
      have r1 := zm_RI_F r f1
      have w1 : zv_I h1 347 30 = zv_I h 347 30 := zm_F_g f1 30
      obtain ⟨h2, e2, f2, ok2⟩ := zm_takes hM1 (d + 21) r1 (by rw [w1]; exact l.2.2.1) 59
      obtain ⟨o1, o2, o3⟩ := ok2
      rw [zm_e e2]
      have l1 := zm_Ld_n l f1 rfl rfl rfl r1 (by rw [w1]; exact l.2.2.1)
      refine zm_load156 d w0 hM0 (zm_Ld_n l1 f2 rfl rfl rfl o1 o2) ((zm_F_g f2 37).trans ((zm_F_g f1 37).trans hd)) (fun z => ?_)
      obtain ⟨z1, _⟩ := o3 z
      rw [w1] at z1
      obtain ⟨b1, b2, b3, m, om, c4⟩ := hO z1
      have o5 := zm_O_5 om (zv_I h 347 19)
      refine ⟨_, b1, ?_, ?_⟩
      · rw [zm_F_a f2 348, e1]
        exact o5.1
      · rw [zm_F_a f2 348, e1, o5.2, c4]
    rw [qL9_load_104, zm_e (zm_gI hM 19)]
    refine zm_if (fun c1 => ?_) (fun _ => l140)
    rw [zm_e (zm_gI hM 30)]
    refine zm_if (fun z => ?_) (fun _ => l140)
    obtain ⟨b1, b2, b3, m, om, c4⟩ := hO z
    rw [zm_e (zm_f17 hM), zm_e (zm_aI hM zm_l360 rfl (by omega) (by omega)), zm_w (x := 12 + (i : Int)) (by omega), zm_e (zm_sets hM _ (by decide) (by omega) _), zm_w (by omega)]
    generalize zv_I h 360 ((i : Int)).toNat = v0
    have f1 : zm_F [348] [] h (zv_sI h 348 (432 + 76 * (0 : Int).toNat + (12 + (i : Int)).toNat) v0) := zm_F_I (zm_F_r _ _ h) rfl _ _
    have e1 : zv_I (zv_sI h 348 (432 + 76 * (0 : Int).toNat + (12 + (i : Int)).toNat) v0) 348 = zm_os (zv_I h 348) 0 (12 + (i : Int)) v0 := zm_ss _ _ _ _
    generalize zv_sI h 348 (432 + 76 * (0 : Int).toNat + (12 + (i : Int)).toNat) v0 = h1 at f1 e1
    have o1 := zm_O_s om (w := 12 + (i : Int)) (by omega) v0
    cases n with
    | zero => exact absurd b3 (by omega)
    | succ n =>
      exact zm_load104 d w0 hM0 n (i + 1) h1 (zm_Ld_n l f1 rfl rfl rfl (zm_RI_F r f1) (by rw [zm_F_g f1 30]; exact l.2.2.1)) ((zm_F_g f1 37).trans hd) (fun _ => by
        rw [zm_F_g f1 19, e1]
        exact ⟨b1, by omega, by omega, m, o1.1, o1.2.trans c4⟩)
theorem zm_load {h : zv_H} (hM : zm_M h) (w : zm_W (zv_I h 348)) (K : zm_K h) (ht : 0 ≤ zv_I h 347 27 ∧ zv_I h 347 27 ≤ 700) (hn : 0 ≤ zv_I h 347 35 ∧ zv_I h 347 35 ≤ 999) (d : Nat) (n : Int) : zm_R (C9_load (d + 28) 347 n h) (fun q => zm_F [348, 349, 351, 352, 353, 354, 355, 358, 359, 360, 362, 363, 364, 365] [3, 4, 10, 11, 12, 19, 24, 27, 28, 29, 30, 31, 32, 33, 34, 35, 36, 37, 38, 42, 43] h q.2 ∧ zm_W (zv_I q.2 348) ∧ (zv_I q.2 347 27 = if 0 ≤ n ∧ n ≤ zv_I h 347 27 then 0 else zv_I h 347 27) ∧ 0 ≤ zv_I q.2 347 35 ∧ zv_I q.2 347 35 ≤ 999) := by
  refine zm_cI (P := fun _ h' => zm_F [348, 349, 351, 352, 353, 354, 355, 358, 359, 360, 362, 363, 364, 365] [3, 4, 10, 11, 12, 19, 24, 27, 28, 29, 30, 31, 32, 33, 34, 35, 36, 37, 38, 42, 43] h h' ∧ zm_W (zv_I h' 348) ∧ (zv_I h' 347 27 = if 0 ≤ n ∧ n ≤ zv_I h 347 27 then 0 else zv_I h 347 27) ∧ 0 ≤ zv_I h' 347 35 ∧ zv_I h' 347 35 ≤ 999) (lC9_load (zm_ob hM)) ?_
  have l18 : ∀ v : Int, (v = 0 → 0 ≤ n ∧ n ≤ zv_I h 347 27) → (v ≠ 0 → ¬ (0 ≤ n ∧ n ≤ zv_I h 347 27)) → zm_R (L9_load_18 (d + 27) 347 n 347 v h) (zm_I fun _ h' => zm_F [348, 349, 351, 352, 353, 354, 355, 358, 359, 360, 362, 363, 364, 365] [3, 4, 10, 11, 12, 19, 24, 27, 28, 29, 30, 31, 32, 33, 34, 35, 36, 37, 38, 42, 43] h h' ∧ zm_W (zv_I h' 348) ∧ (zv_I h' 347 27 = if 0 ≤ n ∧ n ≤ zv_I h 347 27 then 0 else zv_I h 347 27) ∧ 0 ≤ zv_I h' 347 35 ∧ zv_I h' 347 35 ≤ 999) := by
    intro v hv hvn
    have f1 : zm_F [] [3, 4] h (zv_sI (zv_sI h 347 4 0) 347 3 v) := zm_F_f (zm_F_f (zm_F_r _ _ h) rfl _) rfl _
    rw [qL9_load_18]
    refine zm_gb (zm_is hM _ v) (fun hvx => ?_) (fun hv0 => ?_)
    · dsimp only
      exact zm_iI ⟨zm_F_s f1 rfl rfl, by rw [zm_F_a f1 348]; exact w, by rw [zm_F_g f1 27, if_neg (hvn hvx)], by rw [zm_F_g f1 35]; exact hn⟩
    dsimp only
    obtain ⟨n0, n1⟩ := hv hv0
    generalize zv_sI (zv_sI h 347 4 0) 347 3 v = h1 at f1
    have hM1 := zm_F_M f1 hM
    rw [zm_e (zm_pI hM1 36 n)]
    have I2 : ∀ k, zv_I (zv_sI h1 347 36 n) 347 k = if k = 36 then n else zv_I h1 347 k := fun k => zm_sgI _ _ _ _
    have f2 : zm_F [] [36] h1 (zv_sI h1 347 36 n) := zm_F_f (zm_F_r _ _ h1) rfl _
    generalize zv_sI h1 347 36 n = h2 at I2 f2
    have hM2 := zm_F_M f2 hM1
    rw [zm_e (zm_pI hM2 33 0)]
    have I3 : ∀ k, zv_I (zv_sI h2 347 33 0) 347 k = if k = 33 then 0 else zv_I h2 347 k := fun k => zm_sgI _ _ _ _
    have f3 : zm_F [] [33] h2 (zv_sI h2 347 33 0) := zm_F_f (zm_F_r _ _ h2) rfl _
    generalize zv_sI h2 347 33 0 = h3 at I3 f3
    have hM3 := zm_F_M f3 hM2
    rw [zm_e (zm_pI hM3 30 0)]
    have I4 : ∀ k, zv_I (zv_sI h3 347 30 0) 347 k = if k = 30 then 0 else zv_I h3 347 k := fun k => zm_sgI _ _ _ _
    have f4 : zm_F [] [30] h3 (zv_sI h3 347 30 0) := zm_F_f (zm_F_r _ _ h3) rfl _
    generalize zv_sI h3 347 30 0 = h4 at I4 f4
    have hM4 := zm_F_M f4 hM3
    rw [zm_e (zm_pI hM4 37 0)]
    have I5 : ∀ k, zv_I (zv_sI h4 347 37 0) 347 k = if k = 37 then 0 else zv_I h4 347 k := fun k => zm_sgI _ _ _ _
    have f5 : zm_F [] [37] h4 (zv_sI h4 347 37 0) := zm_F_f (zm_F_r _ _ h4) rfl _
    generalize zv_sI h4 347 37 0 = h5 at I5 f5
    have hM5 := zm_F_M f5 hM4
    have F5 : zm_F [] [3, 4, 30, 33, 36, 37] h h5 := zm_F_t (zm_F_s f1 rfl rfl) (zm_F_t (zm_F_s f2 rfl rfl) (zm_F_t (zm_F_s f3 rfl rfl) (zm_F_t (zm_F_s f4 rfl rfl) (zm_F_s f5 rfl rfl))))
    obtain ⟨h6, i6, f6, k6⟩ := zm_load48 (d + 27) 4236 0 h5 rfl hM5 (fun k hk => by omega)
    have hM6 := zm_F_M f6 hM5
    obtain ⟨h7, e7, f7, O7, c7⟩ := zm_clears hM6 (d + 25)
    have hM7 := zm_F_M f7 hM6
    have F7 : zm_F [348, 349] [3, 4, 30, 33, 36, 37] h h7 := zm_F_t (zm_F_s F5 rfl rfl) (zm_F_t (zm_F_s f6 rfl rfl) (zm_F_s f7 rfl rfl))
    have v36 : zv_I h7 347 36 = n := by rw [zm_F_g f7 36, zm_F_g f6 36, I5, if_neg (by decide), I4, if_neg (by decide), I3, if_neg (by decide), I2, if_pos rfl]
    have v33 : zv_I h7 347 33 = 0 := by rw [zm_F_g f7 33, zm_F_g f6 33, I5, if_neg (by decide), I4, if_neg (by decide), I3, if_pos rfl]
    have v30 : zv_I h7 347 30 = 0 := by rw [zm_F_g f7 30, zm_F_g f6 30, I5, if_neg (by decide), I4, if_pos rfl]
    have v37 : zv_I h7 347 37 = 0 := by rw [zm_F_g f7 37, zm_F_g f6 37, I5, if_pos rfl]
    have v35 : zv_I h7 347 35 = zv_I h 347 35 := zm_F_g F7 35
    obtain ⟨h8, e8, f8, r8, p8⟩ := zm_reads (d + 22) hM7 (by rw [v36]; omega) (by rw [v33, v36]; omega) (by rw [v35]; exact hn)
    have hM8 := zm_F_M f8 hM7
    have w8 : zv_I h8 347 30 = 0 := (zm_F_g f8 30).trans v30
    have l8 : zm_Ld (zv_I h 348) h h8 := by
      refine ⟨zm_F_t (zm_F_s F7 rfl rfl) (zm_F_s f8 rfl rfl), ⟨r8, zm_K_F (zm_K_F K F7) f8⟩, by rw [w8]; exact Int.le_refl _, fun k hk => ?_⟩
      rw [zm_F_a f8 349, zm_F_a f7 349, k6 k hk, zm_F_a F5 348]
    have d8 : zv_I h8 347 37 = 0 := (zm_F_g f8 37).trans v37
    have c8 : zv_I h8 348 = zv_I h7 348 := zm_F_a f8 348
    have fin : ∀ r : Option zv_V × zv_H, zm_I (zm_Lp h) r → zm_I (fun _ h' => zm_F [348, 349, 351, 352, 353, 354, 355, 358, 359, 360, 362, 363, 364, 365] [3, 4, 10, 11, 12, 19, 24, 27, 28, 29, 30, 31, 32, 33, 34, 35, 36, 37, 38, 42, 43] h h' ∧ zm_W (zv_I h' 348) ∧ (zv_I h' 347 27 = if 0 ≤ n ∧ n ≤ zv_I h 347 27 then 0 else zv_I h 347 27) ∧ 0 ≤ zv_I h' 347 35 ∧ zv_I h' 347 35 ≤ 999) r := by
      rintro ⟨ov, h'⟩ ⟨v', ev, q1, q2, q3, q4⟩
      exact ⟨v', ev, q1, q2, by rw [q3, if_pos (show 0 ≤ n ∧ n ≤ zv_I h 347 27 from ⟨n0, n1⟩)], q4⟩
    obtain ⟨k, ek, qk⟩ := zm_which hM8 (d + 26) zm_l368 rfl (by decide)
    rw [show L9_load_48 (d + 27) 347 0 h5 = _ from i6, qL9_load_48, if_neg (by decide), zm_e e7, zm_e e8, zm_e (zm_f40 hM8), zm_e ek]
    dsimp only
    refine zm_if (fun hk => ?_) (fun _ => zm_mono (zm_load156 d w hM l8 d8 (fun _ => ⟨0, by decide, by rw [c8]; exact O7, by rw [c8]; exact c7⟩)) fin)
    rcases qk with z | ⟨z1, z2, z3, z4⟩
    · rw [z] at hk
      exact absurd hk (by decide)
    · obtain ⟨h9, e9, f9, r9, p9, w9⟩ := zm_rd (d + 22) hM8 r8 (by rw [z2]; decide)
      have hM9 := zm_F_M f9 hM8
      have w9' : 0 ≤ zv_I h9 347 30 := by rw [w9, w8]; exact Int.le_refl _
      obtain ⟨h10, e10, f10, ok10, m10⟩ := zm_takesWord hM9 (d + 21) r9 w9' (most := 40) (by decide)
      obtain ⟨o1, o2, o3⟩ := ok10
      rw [zm_e e9, zm_e e10]
      have l9 := zm_Ld_n l8 f9 rfl rfl rfl r9 w9'
      have l10 := zm_Ld_n l9 f10 rfl rfl rfl o1 o2
      refine zm_mono (zm_load104 d w hM 40 0 h10 l10 ((zm_F_g f10 37).trans ((zm_F_g f9 37).trans d8)) (fun z => ?_)) fin
      have hm := m10 z
      refine ⟨hm, hm.1, by omega, 0, ?_, ?_⟩
      · rw [zm_F_a f10 348, zm_F_a f9 348, c8]
        exact O7
      · rw [zm_F_a f10 348, zm_F_a f9 348, c8]
        exact c7
  rw [qE9_load, zm_e (zm_gI hM 27)]
  exact zm_gb (zm_isIn _ n 0 _) (fun hin => l18 1 (fun q => by cases q) (fun _ => hin)) (fun hin => l18 0 (fun _ => hin) (fun q => absurd rfl q))
end
/-! 79.pub -/
section
/-! ===== the reference: what is called ===== -/
def zm_MI (h : zv_H) : Prop := zm_M h ∧ zm_W (zv_I h 348) ∧ zm_K h ∧ (0 ≤ zv_I h 347 27 ∧ zv_I h 347 27 ≤ 700) ∧ (0 ≤ zv_I h 347 35 ∧ zv_I h 347 35 ≤ 999) ∧ (0 ≤ zv_I h 347 20 ∧ zv_I h 347 20 ≤ 12) ∧ (0 ≤ zv_I h 347 47 ∧ zv_I h 347 47 ≤ 200)
/-- a call that leaves the tape's length -/
def zm_X (h h' : zv_H) : Prop := zm_F [348, 349, 350, 351, 352, 353, 354, 355, 356, 357, 358, 359, 360, 361, 362, 363, 364, 365, 366, 370, 371, 372] [3, 4, 10, 11, 12, 19, 20, 24, 28, 29, 30, 31, 32, 33, 34, 35, 36, 37, 38, 42, 43, 47] h h' ∧ zm_MI h'
theorem zm_X_of {h h' : zv_H} {A B : List Nat} (i : zm_MI h) (f : zm_F A B h h') (hA : (A.all fun r => List.contains [348, 349, 350, 351, 352, 353, 354, 355, 356, 357, 358, 359, 360, 361, 362, 363, 364, 365, 366, 370, 371, 372] r) = true) (hB : (B.all fun r => List.contains [3, 4, 10, 11, 12, 19, 24] r) = true) (w : zm_W (zv_I h' 348)) : zm_X h h' := by
  obtain ⟨i1, i2, i3, i4, i5, i6, i7⟩ := i
  have g : zm_F [348, 349, 350, 351, 352, 353, 354, 355, 356, 357, 358, 359, 360, 361, 362, 363, 364, 365, 366, 370, 371, 372] [3, 4, 10, 11, 12, 19, 24] h h' := zm_F_s f hA hB
  refine ⟨zm_F_s g rfl rfl, zm_F_M f i1, w, zm_K_F i3 f, ?_, ?_, ?_, ?_⟩
  · rw [zm_F_g g 27]
    exact i4
  · rw [zm_F_g g 35]
    exact i5
  · rw [zm_F_g g 20]
    exact i6
  · rw [zm_F_g g 47]
    exact i7
theorem zm_X_a {h h' : zv_H} {A B : List Nat} (i : zm_MI h) (f : zm_F A B h h') (hA : (A.all fun r => List.contains [348, 349, 350, 351, 352, 353, 354, 355, 356, 357, 358, 359, 360, 361, 362, 363, 364, 365, 366, 370, 371, 372] r) = true) (hB : (B.all fun r => List.contains [3, 4, 10, 11, 12, 19, 24] r) = true) (h348 : A.contains 348 = false) : zm_X h h' := zm_X_of i f hA hB (by rw [zm_F_a f 348 h348]; exact i.2.1)
/-- is, and what then -/
theorem zm_isq {h : zv_H} {d : Nat} {w : Int} {T : Int × zv_H → zv_O} (i : zm_MI h) (k : w = 0 → ∀ h1 : zv_H, zm_F [] [3, 4] h h1 → zm_MI h1 → zm_R (T (1, h1)) (zm_I fun _ h' => zm_X h h')) : zm_R ((C9_is (d + 1) 347 w h).bind fun q => if q.1 = 0 then (some (some (zv_i (-1)), q.2) : zv_O) else T q) (zm_I fun _ h' => zm_X h h') := by
  have f : zm_F [] [3, 4] h (zv_sI (zv_sI h 347 4 0) 347 3 w) := zm_F_f (zm_F_f (zm_F_r _ _ h) rfl _) rfl _
  have x := zm_X_a i f rfl rfl rfl
  exact zm_gb (zm_is i.1 d w) (fun _ => zm_iI x) (fun hw => k hw _ f x.2)
theorem zm_X_t {a b c : zv_H} (x : zm_X a b) (y : zm_X b c) : zm_X a c := ⟨zm_F_t x.1 y.1, y.2⟩
theorem zm_X_i {h h1 : zv_H} (x : zm_X h h1) {o : zv_O} (r : zm_R o (zm_I fun _ h' => zm_X h1 h')) : zm_R o (zm_I fun _ h' => zm_X h h') := by
  refine zm_mono r ?_
  rintro ⟨ov, h'⟩ ⟨v, e, y⟩
  exact ⟨v, e, zm_X_t x y⟩
/-- an answer that changed nothing -/
theorem zm_rX {h : zv_H} {o : Option (Int × zv_H)} (i : zm_MI h) (e : ∃ r : Int, o = some (r, h)) : zm_R (o.bind fun q => (some (some (zv_i q.1), q.2) : zv_O)) (zm_I fun _ h' => zm_X h h') := by
  obtain ⟨r, e⟩ := e
  rw [e]
  exact zm_iI ⟨zm_F_r _ _ h, i⟩
theorem zm_rX0 {h : zv_H} {r : Int} (i : zm_MI h) : zm_R (some (some (zv_i r), h) : zv_O) (zm_I fun _ h' => zm_X h h') := zm_iI ⟨zm_F_r _ _ h, i⟩
theorem zm_rfX {h : zv_H} (i : zm_MI h) (d : Nat) (w : Int) : zm_R ((C9_refuse (d + 1) 347 w h).bind fun q => (some (some (zv_i q.1), q.2) : zv_O)) (zm_I fun _ h' => zm_X h h') := by
  rw [zm_e (zm_refuse i.1 d w)]
  exact zm_iI (zm_X_a (A := []) (B := [3]) i (zm_F_f (zm_F_r _ _ h) rfl _) rfl rfl rfl)
/-- an answer of a call that keeps all -/
theorem zm_rXf {h : zv_H} {o : Option (Int × zv_H)} {A B : List Nat} (i : zm_MI h) (r : zm_R o fun q => zm_F A B h q.2 ∧ zm_W (zv_I q.2 348)) (hA : (A.all fun r => List.contains [348, 349, 350, 351, 352, 353, 354, 355, 356, 357, 358, 359, 360, 361, 362, 363, 364, 365, 366, 370, 371, 372] r) = true) (hB : (B.all fun r => List.contains [3, 4, 10, 11, 12, 19, 24] r) = true) : zm_R (o.bind fun q => (some (some (zv_i q.1), q.2) : zv_O)) (zm_I fun _ h' => zm_X h h') := by
  obtain ⟨q, e, f, w⟩ := r
  rw [zm_e e]
  exact zm_iI (zm_X_of i f hA hB w)
/-- a state's row is reckoned -/
theorem zm_see {h : zv_H} (i : zm_MI h) (d : Nat) {s : Int} (hs : zm_st (zv_I h 348) s) : ∃ (h1 : zv_H) (l : List Int), C9_sees (d + 4) 347 s h = some h1 ∧ zm_F [351, 352, 353, 354, 355] [10, 11, 12] h h1 ∧ zm_MI h1 ∧ zm_X h h1 ∧ zm_Sn h1 (zv_I h1 348) l ∧ (∀ t ∈ l, zm_st (zv_I h1 348) t) ∧ l.length ≤ 48 ∧ zm_G0 (zv_I h1 348) l ∧ ((zm_row (zv_I h1 348) l).filter (zm_sn (zv_I h1 348) l)).length ≤ 120 ∧ zv_I h1 348 = zv_I h 348 := by
  obtain ⟨l, a1, a2, a3, a4⟩ := zm_W_l i.2.1.1 hs
  obtain ⟨h1, e1, f1, n1⟩ := zm_sees_st i.1 rfl d a1 a2 a3 a4
  have ec : zv_I h1 348 = zv_I h 348 := zm_F_a f1 348
  have x := zm_X_a i f1 rfl rfl rfl
  refine ⟨h1, s :: l, e1, f1, x.2, x, ?_⟩
  rw [ec]
  exact ⟨n1, a1.2.1.2.2, by rw [List.length_cons]; clear hs; omega, a3, a1.2.2.2.2.2.2, rfl⟩
theorem zm_row640 {c : Nat → Int} {l : List Int} (g : zm_G0 c l) (hl : l.length ≤ 48) : (zm_row c l).length ≤ 640 := by
  have := zm_row_le g
  omega
theorem zm_leaves_l {h : zv_H} (hM : zm_M h) (d : Nat) : ∀ (m i : Nat) (a : Int), i + m = 48 → ∃ r : Int, L9_leaves_4 (d + 3) 347 a i h = some (some (zv_i r), h)
  | 0, i, a, hi => ⟨a, by rw [qL9_leaves_4, if_neg (by omega)]⟩
  | m + 1, i, a, hi => by
    have w1 : zv_w ((i : Int) + 1) = ((i + 1 : Nat) : Int) := by
      rw [zm_w (by omega)]
      rfl
    rw [qL9_leaves_4, if_pos (by omega), zm_e (zm_isState hM _ i), w1]
    dsimp only
    by_cases c1 : zm_st (zv_I h 348) i
    · rw [if_pos c1, if_neg (by decide), zm_e (zm_childrenOf hM d i)]
      dsimp only
      by_cases c2 : zm_nch (zv_I h 348) i = 0
      · rw [if_pos c2]
        exact zm_leaves_l hM d m (i + 1) _ (by omega)
      · rw [if_neg c2]
        exact zm_leaves_l hM d m (i + 1) _ (by omega)
    · rw [if_neg c1, if_pos rfl]
      exact zm_leaves_l hM d m (i + 1) _ (by omega)
theorem zm_leaves {h : zv_H} (hM : zm_M h) (d : Nat) : ∃ r : Int, C9_leaves (d + 4) 347 h = some (r, h) := by
  obtain ⟨r, e⟩ := zm_leaves_l hM d 48 0 0 rfl
  exact ⟨r, lC9_leaves (zm_ob hM) (by rw [qE9_leaves]; exact e)⟩
theorem zm_groups_l {h : zv_H} (hM : zm_M h) (d : Nat) : ∀ {l : List Int} {s : Int} (a : Int), zm_Ln (zv_I h 348) l s → ∃ r : Int, L9_groups_7 (d + 1) 347 a s h = some (some (zv_i r), h)
  | [], s, a, hl => ⟨a, by
      have h0 : s < 0 := hl
      rw [qL9_groups_7, if_pos (by omega)]⟩
  | t :: l, s, a, hl => by
    obtain ⟨⟨e, ht⟩, hl'⟩ := hl
    subst e
    rw [qL9_groups_7]
    by_cases c1 : s ≤ 0
    · rw [if_pos c1]
      exact ⟨a, rfl⟩
    · have nx : ∀ z : Int, ∃ r : Int, L9_groups_28 (d + 1) 347 s a z h = some (some (zv_i r), h) := by
        intro z
        rw [qL9_groups_28, zm_e (zm_of hM d ht (by decide))]
        exact zm_groups_l hM d _ hl'
      rw [if_neg c1, zm_e (zm_of hM d ht (by decide))]
      dsimp only
      by_cases c2 : zm_o (zv_I h 348) s 6 = s
      · rw [if_pos c2]
        exact nx 1
      · rw [if_neg c2]
        exact nx 0
theorem zm_groups {h : zv_H} (i : zm_MI h) (d : Nat) : ∃ r : Int, C9_groups (d + 2) 347 h = some (r, h) := by
  obtain ⟨l, hl⟩ := zm_WL_of i.2.1.1 _ i.2.1.2.1
  obtain ⟨r, e⟩ := zm_groups_l i.1 d 0 hl
  refine ⟨r, lC9_groups (zm_ob i.1) ?_⟩
  rw [qE9_groups, zm_e (zm_here i.1 d)]
  exact e
theorem zm_gone_l {h : zv_H} {l : List Int} (d : Nat) (hh : zm_lh (zv_I h 348) l h) (hl : ∀ t ∈ l, zm_st (zv_I h 348) t) (hn : l.length ≤ 48) : ∀ (m i : Nat) (a : Int), 1 ≤ i → i + m = l.length ∨ (m = 0 ∧ l.length ≤ i) → i ≤ 100 → ∃ r : Int, L9_gone_12 (d + 2) 347 a i h = some (some (zv_i r), h)
  | 0, i, a, h1, hi, h2 => by
    have hM := hh.1
    refine ⟨a, ?_⟩
    rw [qL9_gone_12, zm_e (zm_gI hM 10), hh.2.2.1, if_neg (by omega)]
  | m + 1, i, a, h1, hi, h2 => by
    have hM := hh.1
    have hi' : i + (m + 1) = l.length := by omega
    have w1 : zv_w ((i : Int) + 1) = ((i + 1 : Nat) : Int) := by
      rw [zm_w (by omega)]
      rfl
    obtain ⟨t, ht, et⟩ := zm_lh_g hh hn (j := i) (by omega) (by omega)
    have t48 := zm_st48 (hl t ht)
    have t49 : t < ((49 : Nat) : Int) := by omega
    have nx : ∀ z : Int, ∃ r : Int, L9_gone_12 (d + 2) 347 (zv_w (a + z)) ((i + 1 : Nat) : Int) h = some (some (zv_i r), h) := fun z => zm_gone_l d hh hl hn m (i + 1) _ (by omega) (Or.inl (by omega)) (by omega)
    rw [qL9_gone_12, zm_e (zm_gI hM 10), hh.2.2.1, if_pos (by omega), zm_e (zm_f5 hM), zm_e et, zm_e (zm_isEdit hM d t48), w1]
    dsimp only
    by_cases c1 : zm_ed (zv_I h 348) t
    · rw [if_pos c1, if_neg (by decide), zm_e (zm_f8 hM), zm_e (zm_f5 hM), zm_e et, zm_e (zm_aB hM zm_l354 (Or.inl rfl) rfl t48.1 t49)]
      by_cases c2 : zv_I h 354 t.toNat = 0
      · rw [if_pos c2]
        exact nx 1
      · rw [if_neg c2]
        exact nx 0
    · rw [if_neg c1, if_pos rfl]
      exact nx 0
theorem zm_Sn_lh {h : zv_H} (hM : zm_M h) {l : List Int} (n : zm_Sn h (zv_I h 348) l) : zm_lh (zv_I h 348) l h := ⟨hM, rfl, n.1.1, n.1.2⟩
theorem zm_gone {h : zv_H} (i : zm_MI h) (d : Nat) : zm_R (C9_gone (d + 5) 347 h) (fun q => zm_X h q.2) := by
  refine zm_cI (P := fun _ h' => zm_X h h') (lC9_gone (zm_ob i.1)) ?_
  obtain ⟨h1, l, e1, f1, i1, x1, n1, s1, m1, g1, _⟩ := zm_see i d i.2.1.2.1
  rw [qE9_gone, zm_e (zm_here i.1 _)]
  dsimp only
  rw [zm_e e1]
  have hp : 1 ≤ l.length := by
    cases l with
    | nil => cases g1.2.1
    | cons t b => exact Nat.le_add_left 1 _
  obtain ⟨r, er⟩ := zm_gone_l (d + 2) (zm_Sn_lh i1.1 n1) s1 m1 (l.length - 1) 1 0 (Nat.le_refl _) (Or.inl (by omega)) (by decide)
  rw [show L9_gone_12 (d + 4) 347 0 1 h1 = _ from er]
  exact zm_iI x1
theorem zm_many {h : zv_H} (i : zm_MI h) (d : Nat) (w : Int) : zm_R (C9_many (d + 10) 347 w h) (fun q => zm_X h q.2) := by
  refine zm_cI (P := fun _ h' => zm_X h h') (lC9_many (zm_ob i.1)) ?_
  have l16 : ∀ v : Int, zm_R (L9_many_16 (d + 9) 347 w 347 v h) (zm_I fun _ h' => zm_X h h') := by
    intro v
    rw [qL9_many_16]
    refine zm_isq i (fun _ h1 f1 i1 => zm_X_i (zm_X_a i f1 rfl rfl rfl) ?_)
    dsimp only
    obtain ⟨h2, l, e2, f2, i2, x2, n2, s2, m2, g2, _⟩ := zm_see i1 (d + 5) i1.2.1.2.1
    rw [zm_e (zm_here i1.1 _)]
    dsimp only
    rw [zm_e e2]
    refine zm_X_i x2 ?_
    refine zm_if (fun _ => zm_rX i2 ⟨_, zm_states i2.1 _ i2.2.1.1.1⟩) (fun _ => zm_if (fun _ => zm_rX i2 ⟨_, zm_here i2.1 _⟩) (fun _ => zm_if (fun _ => ?_) (fun _ => zm_if (fun _ => ?_) (fun _ => zm_if (fun _ => ?_) (fun _ => zm_if (fun _ => ?_) (fun _ => zm_if (fun _ => zm_rX i2 (zm_leaves i2.1 (d + 5))) (fun _ => zm_if (fun _ => zm_rX i2 (zm_groups i2 (d + 7))) (fun _ => zm_if (fun _ => ?_) (fun _ => ?_)))))))))
    · rw [zm_e (zm_f0 i2.1), zm_e (zm_aI i2.1 zm_l348 rfl (by decide) (by decide))]
      exact zm_rX0 i2
    · rw [zm_e (zm_gI i2.1 12)]
      exact zm_rX0 i2
    · rw [zm_e (zm_gI i2.1 11)]
      exact zm_rX0 i2
    · rw [zm_e (zm_f0 i2.1), zm_e (zm_aI i2.1 zm_l348 rfl (by decide) (by decide))]
      exact zm_rX0 i2
    · obtain ⟨⟨v3, h3⟩, e3, x3⟩ := zm_gone i2 (d + 4)
      rw [zm_e e3]
      exact zm_iI x3
    · rw [zm_e (zm_f0 i2.1), zm_e (zm_aI i2.1 zm_l348 rfl (by decide) (by decide))]
      exact zm_rX0 i2
  rw [qE9_many]
  exact zm_gb (zm_isIn _ w 0 9) (fun _ => l16 1) (fun _ => l16 0)
theorem zm_letter {h : zv_H} (i : zm_MI h) (d : Nat) (s p : Int) : zm_R (C9_letter (d + 10) 347 s p h) (fun q => zm_X h q.2) := by
  refine zm_cI (P := fun _ h' => zm_X h h') (lC9_letter (zm_ob i.1)) ?_
  have l22 : ∀ v : Int, (v = 0 → zm_st (zv_I h 348) s ∧ 0 ≤ p) → zm_R (L9_letter_22 (d + 9) 347 s p 347 v h) (zm_I fun _ h' => zm_X h h') := by
    intro v hv
    rw [qL9_letter_22]
    refine zm_isq i (fun hw h1 f1 i1 => zm_X_i (zm_X_a i f1 rfl rfl rfl) ?_)
    obtain ⟨hs, hp⟩ := hv hw
    obtain ⟨h2, l, e2, f2, i2, x2, n2, s2, m2, g2, b2, _⟩ := zm_see i1 (d + 5) (s := s) (by rw [zm_F_a f1 348]; exact hs)
    dsimp only
    rw [zm_e e2, zm_e (zm_gI i2.1 12), n2.2.2.2.2]
    refine zm_X_i x2 ?_
    refine zm_if (fun hlt => ?_) (fun _ => zm_rfX i2 _ 5)
    obtain ⟨n, en⟩ : ∃ n : Nat, p = n := ⟨p.toNat, by clear hs; omega⟩
    subst en
    have h640 := zm_row640 g2 m2
    have rp := zm_rp_in (zm_sn (zv_I h2 348) l) (zm_row (zv_I h2 348) l) n (by clear hs; omega)
    obtain ⟨x, hx⟩ : ∃ x, ((zm_row (zv_I h2 348) l).filter (zm_sn (zv_I h2 348) l))[n]? = some x := ⟨_, List.getElem?_eq_getElem (by clear hs; omega)⟩
    have hx2 := rp.2.trans hx
    have ok := zm_row_ok (fun t ht => zm_st48 (s2 t ht)) g2 x (List.mem_of_getElem? hx2)
    rw [zm_e (zm_rowPlace i2.1 _ n2 h640 hp (by clear hs; omega))]
    dsimp only
    obtain ⟨k, ek⟩ : ∃ k : Nat, zm_rp (zm_sn (zv_I h2 348) l) (zm_row (zv_I h2 348) l) n = k := ⟨(zm_rp (zm_sn (zv_I h2 348) l) (zm_row (zv_I h2 348) l) n).toNat, by have := rp.1; clear hs; omega⟩
    rw [ek]
    rw [ek] at hx2
    exact zm_rX i2 ⟨_, zm_letterIn i2.1 rfl (d + 7) n2.2.1 h640 (k := k) hx2 ok.1 (by have := ok.2; clear hs; omega)⟩
  rw [qE9_letter]
  refine zm_if (fun _ => l22 1 (fun q => by cases q)) (fun hp => ?_)
  exact zm_gb (zm_isState i.1 _ s) (fun _ => l22 2 (fun q => by cases q)) (fun hs => l22 0 (fun _ => ⟨hs, by clear hs; omega⟩))
theorem zm_state {h : zv_H} (i : zm_MI h) (d : Nat) (s w : Int) : zm_R (C9_state (d + 10) 347 s w h) (fun q => zm_X h q.2) := by
  refine zm_cI (P := fun _ h' => zm_X h h') (lC9_state (zm_ob i.1)) ?_
  have l28 : ∀ v : Int, (v = 0 → zm_st (zv_I h 348) s ∧ 0 ≤ w ∧ w ≤ 9) → zm_R (L9_state_28 (d + 9) 347 s w 347 v h) (zm_I fun _ h' => zm_X h h') := by
    intro v hv
    rw [qL9_state_28]
    refine zm_isq i (fun hw h1 f1 i1 => zm_X_i (zm_X_a i f1 rfl rfl rfl) ?_)
    obtain ⟨hs0, hp⟩ := hv hw
    have hs : zm_st (zv_I h1 348) s := by rw [zm_F_a f1 348]; exact hs0
    obtain ⟨l, a1, a2, a3, a4⟩ := zm_W_l i1.2.1.1 hs
    have h3 := i1.2.1.2.2.1
    dsimp only
    refine zm_if (fun c1 => ?_) (fun _ => zm_if (fun _ => zm_rX i1 ⟨_, zm_childrenOf i1.1 _ s⟩) (fun _ => zm_if (fun _ => zm_rX i1 ⟨_, zm_depthOf i1.1 _ a1.1 (by clear hs hs0; omega)⟩) (fun _ => zm_if (fun _ => ?_) (fun _ => ?_))))
    · rw [zm_w (x := 1 + w) (by clear hs hs0; omega)]
      exact zm_rX i1 ⟨_, zm_of i1.1 _ (zm_st48 hs) (by clear hs hs0; omega)⟩
    · obtain ⟨⟨n, h2⟩, e2, en, f2, n2⟩ := zm_lettersOf i1.1 (d + 4) (zm_sees_st i1.1 rfl (d + 4) a1 a2 a3 a4)
      rw [zm_e e2]
      exact zm_iI (zm_X_a i1 f2 rfl rfl rfl)
    · obtain ⟨u, eu, _⟩ := zm_namesOf i1.1 (d + 8) s h3
      exact zm_rX i1 ⟨u, eu⟩
  rw [qE9_state]
  refine zm_gb (zm_isIn _ w 0 9) (fun _ => l28 1 (fun q => by cases q)) (fun hw => ?_)
  exact zm_gb (zm_isState i.1 _ s) (fun _ => l28 2 (fun q => by cases q)) (fun hs => l28 0 (fun _ => ⟨hs, hw⟩))
theorem zm_child {h : zv_H} (i : zm_MI h) (d : Nat) (s n : Int) : zm_R (C9_child (d + 10) 347 s n h) (fun q => zm_X h q.2) := by
  refine zm_cI (P := fun _ h' => zm_X h h') (lC9_child (zm_ob i.1)) ?_
  have l22 : ∀ v : Int, zm_R (L9_child_22 (d + 9) 347 s n 347 v h) (zm_I fun _ h' => zm_X h h') := by
    intro v
    rw [qL9_child_22]
    refine zm_isq i (fun hw h1 f1 i1 => zm_X_i (zm_X_a i f1 rfl rfl rfl) ?_)
    have l46 : ∀ z : Int, zm_R (L9_child_46 (d + 9) 347 z h1) (zm_I fun _ h' => zm_X h1 h') := by
      intro z
      rw [qL9_child_46]
      exact zm_if (fun _ => zm_rfX i1 _ 5) (fun _ => zm_rX0 i1)
    dsimp only
    refine zm_if (fun _ => ?_) (fun _ => l46 (-1))
    obtain ⟨r, er, _⟩ := zm_childOf i1.1 (zm_WL_of i1.2.1.1) (d + 5) s n
    rw [zm_e er]
    exact l46 r
  rw [qE9_child]
  refine zm_if (fun _ => l22 1) (fun hp => ?_)
  exact zm_gb (zm_isState i.1 _ s) (fun _ => l22 2) (fun hs => l22 0)
theorem zm_force {h : zv_H} (i : zm_MI h) (d : Nat) (s t : Int) : zm_R (C9_force (d + 10) 347 s t h) (fun q => zm_X h q.2) := by
  refine zm_cI (P := fun _ h' => zm_X h h') (lC9_force (zm_ob i.1)) ?_
  have l43 : ∀ v : Int, (v = 0 → zm_st (zv_I h 348) s ∧ zm_st (zv_I h 348) t) → zm_R (L9_force_43 (d + 9) 347 s t 347 v h) (zm_I fun _ h' => zm_X h h') := by
    intro v hv
    rw [qL9_force_43]
    refine zm_isq i (fun hw h1 f1 i1 => zm_X_i (zm_X_a i f1 rfl rfl rfl) ?_)
    obtain ⟨hs, ht⟩ := hv hw
    obtain ⟨h2, l, e2, f2, i2, x2, n2, s2, m2, g2, b2, _⟩ := zm_see i1 (d + 5) (s := t) (by rw [zm_F_a f1 348]; exact ht)
    have s48 := zm_st48 hs
    have s49 : s < ((49 : Nat) : Int) := by
      clear hs ht
      omega
    dsimp only
    rw [zm_e e2, zm_e (zm_f8 i2.1), zm_e (zm_aB i2.1 zm_l354 (Or.inl rfl) rfl s48.1 s49)]
    refine zm_X_i x2 ?_
    exact zm_if (fun _ => zm_rX0 i2) (fun _ => zm_rX0 i2)
  rw [qE9_force]
  refine zm_gb (zm_isState i.1 _ s) (fun _ => ?_) (fun hs => ?_)
  · rw [qL9_force_17]
    exact l43 2 (fun q => by cases q)
  refine zm_gb (zm_isState i.1 _ t) (fun _ => ?_) (fun ht => ?_)
  · rw [qL9_force_17]
    exact l43 2 (fun q => by cases q)
  refine zm_gb (zm_isEdit i.1 _ (zm_st48 hs)) (fun _ => ?_) (fun _ => ?_)
  · rw [qL9_force_38]
    exact l43 5 (fun q => by cases q)
  obtain ⟨l, hl⟩ := zm_WL_of i.2.1.1 _ ht
  refine zm_gb (zm_isOfLine i.1 _ s hl) (fun _ => ?_) (fun _ => l43 0 (fun _ => ⟨hs, ht⟩))
  rw [qL9_force_38]
  exact l43 5 (fun q => by cases q)
end
