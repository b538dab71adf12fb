/-! ===== the reference: TEST is read ===== -/
def zm_pe (e : List Int) : Prop := ∀ (r : List Int) (n : Int), 0 ≤ n → zm_ph r (n + 1) → zm_ph (e ++ r) n
theorem zm_pe1 {v : Int} (hv : 0 ≤ v) : zm_pe [v] := by
  intro r n _ h
  show if 0 ≤ v then zm_ph r (n + 1) else if v = -1 then 1 ≤ n ∧ zm_ph r n else 2 ≤ n ∧ zm_ph r (n - 1)
  rw [if_pos hv]
  exact h
theorem zm_pe_n {e : List Int} (he : zm_pe e) : zm_pe (e ++ [-1]) := by
  intro r n hn h
  rw [List.append_assoc]
  refine he _ n hn ?_
  show if (0 : Int) ≤ -1 then zm_ph r (n + 1 + 1) else if (-1 : Int) = -1 then 1 ≤ n + 1 ∧ zm_ph r (n + 1) else 2 ≤ n + 1 ∧ zm_ph r (n + 1 - 1)
  rw [if_neg (by decide), if_pos rfl]
  exact ⟨by omega, h⟩
theorem zm_pe_b {e1 e2 : List Int} (h1 : zm_pe e1) (h2 : zm_pe e2) {v : Int} (hv : v < -1) : zm_pe (e1 ++ (e2 ++ [v])) := by
  intro r n hn h
  rw [List.append_assoc, List.append_assoc]
  refine h1 _ n hn (h2 _ (n + 1) (by omega) ?_)
  show if (0 : Int) ≤ v then zm_ph r (n + 1 + 1 + 1) else if v = -1 then 1 ≤ n + 1 + 1 ∧ zm_ph r (n + 1 + 1) else 2 ≤ n + 1 + 1 ∧ zm_ph r (n + 1 + 1 - 1)
  rw [if_neg (by omega), if_neg (by omega), show n + 1 + 1 - 1 = n + 1 by omega]
  exact ⟨by omega, h⟩
theorem zm_pe_ph {e : List Int} (h : zm_pe e) : zm_ph e 0 := by
  have := h [] 0 (by decide) rfl
  rw [List.append_nil] at this
  exact this
/-- the words of others, as far as they count -/
def zm_t7 : List Int64 := [12251, 2774, 453701, 423672, 358062, 204, 276647, 244366229642, 7055815802, 1627639, 7020464, 8873042]
def zm_t8 : List Int64 := [10492274, 208022, 423, 1111, 10631]
def zm_t9 : List Int64 := [5146, 381245, 223456, 375062, 279252, 247516]
def zm_KT (h : zv_H) : Prop := (∀ j : Nat, j < 12 → zv_J h 367 j = zm_t7.getD j 0) ∧ (∀ j : Nat, j < 5 → zv_J h 368 j = zm_t8.getD j 0) ∧ ∀ j : Nat, j < 6 → zv_J h 369 j = zm_t9.getD j 0
def zm_K (h : zv_H) : Prop := zv_J h 368 2 = 423 ∧ zv_J h 368 3 = 1111 ∧ zv_J h 368 4 = 10631 ∧ zm_KT h
theorem zm_K_F {A B : List Nat} {h h' : zv_H} (k : zm_K h) (f : zm_F A B h h') : zm_K h' := by
  obtain ⟨k1, k2, k3, k4, k5, k6⟩ := k
  exact ⟨(zm_F_j f 368 2).trans k1, (zm_F_j f 368 3).trans k2, (zm_F_j f 368 4).trans k3, fun j hj => (zm_F_j f 367 j).trans (k4 j hj), fun j hj => (zm_F_j f 368 j).trans (k5 j hj), fun j hj => (zm_F_j f 369 j).trans (k6 j hj)⟩
theorem zm_cd_em {c c' : Nat → Int} {v : Int} (h4 : 0 ≤ c 4) (e4 : c' 4 = c 4 + 1) (ev : c' (8 + (c 4).toNat) = v) (ek : ∀ k : Nat, 8 ≤ k → k < 8 + (c 4).toNat → c' k = c k) : zm_cd c' = zm_cd c ++ [v] := by
  unfold zm_cd
  rw [e4, show (c 4 + 1).toNat = (c 4).toNat + 1 by omega, List.range_succ, List.map_append, List.map_singleton, ev]
  congr 1
  refine List.map_congr_left ?_
  intro k hk
  have := List.mem_range.mp hk
  exact ek _ (by omega) (by omega)
theorem zm_emits {h : zv_H} (hM : zm_M h) (d : Nat) (v : Int) (hw : 0 ≤ zv_I h 347 30) (h4 : zv_I h 347 30 = 0 → 0 ≤ zv_I h 348 4 ∧ zv_I h 348 4 ≤ 391) : ∃ h', C9_emits (d + 1) 347 v h = some h' ∧ zm_F [348] [] h h' ∧ (∀ k : Nat, k ≠ 4 → ¬ (8 ≤ k ∧ k < 408) → zv_I h' 348 k = zv_I h 348 k) ∧ (zv_I h 347 30 = 0 → zm_cd (zv_I h' 348) = zm_cd (zv_I h 348) ++ [v] ∧ zv_I h' 348 4 = zv_I h 348 4 + 1) := by
  have main : ∃ h', E9_emits d 347 v h = some (none, h') ∧ zm_F [348] [] h h' ∧ (∀ k : Nat, k ≠ 4 → ¬ (8 ≤ k ∧ k < 408) → zv_I h' 348 k = zv_I h 348 k) ∧ (zv_I h 347 30 = 0 → zm_cd (zv_I h' 348) = zm_cd (zv_I h 348) ++ [v] ∧ zv_I h' 348 4 = zv_I h 348 4 + 1) := by
    rw [qE9_emits, zm_e (zm_gI hM 30)]
    by_cases c1 : zv_I h 347 30 ≤ 0
    · have h4' := h4 (by omega)
      have r4 : zv_I h 348 (Int.toNat 4) = zv_I h 348 4 := rfl
      rw [if_pos c1, zm_e (zm_f0 hM), zm_e (zm_f0 hM), zm_e (zm_aI hM zm_l348 rfl (by decide) (by decide)), r4, zm_w (x := 8 + zv_I h 348 4) (by omega), zm_e (zm_wI hM zm_l348 rfl (by omega) (by omega) _)]
      have f1 : zm_F [348] [] h (zv_sI h 348 (8 + zv_I h 348 4).toNat v) := zm_F_I (zm_F_r _ _ h) rfl _ _
      have e1 : zv_I (zv_sI h 348 (8 + zv_I h 348 4).toNat v) 348 = zm_u (zv_I h 348) (8 + zv_I h 348 4).toNat v := zm_ss _ _ _ _
      generalize zv_sI h 348 (8 + zv_I h 348 4).toNat v = h1 at f1 e1
      have hM1 := zm_F_M f1 hM
      have r5 : zv_I h1 348 (Int.toNat 4) = zv_I h 348 4 := by rw [e1, zm_u_o _ _ (by show ¬ 4 = _; omega)]; rfl
      rw [zm_e (zm_f0 hM1), zm_e (zm_aI hM1 zm_l348 rfl (by decide) (by decide)), r5, zm_w (by omega), zm_e (zm_wI hM1 zm_l348 rfl (by decide) (by decide) _)]
      have e2 : zv_I (zv_sI h1 348 (Int.toNat 4) (zv_I h 348 4 + 1)) 348 = zm_u (zm_u (zv_I h 348) (8 + zv_I h 348 4).toNat v) 4 (zv_I h 348 4 + 1) := by
        rw [zm_ss, e1]
        rfl
      refine ⟨_, rfl, zm_F_I f1 rfl _ _, fun k k4 k8 => ?_, fun _ => ⟨?_, ?_⟩⟩
      · rw [e2, zm_u_o _ _ k4, zm_u_o _ _ (by omega)]
      · rw [e2]
        refine zm_cd_em h4'.1 (zm_u_s _ _ _) ?_ (fun k k0 k1 => ?_)
        · rw [zm_u_o _ _ (by omega), show 8 + (zv_I h 348 4).toNat = (8 + zv_I h 348 4).toNat by omega, zm_u_s]
        · rw [zm_u_o _ _ (by omega), zm_u_o _ _ (by omega)]
      · rw [e2, zm_u_s]
    · rw [if_neg c1]
      exact ⟨h, rfl, zm_F_r _ _ h, fun _ _ _ => rfl, fun q => absurd q (by omega)⟩
  obtain ⟨h', e, q⟩ := main
  exact ⟨h', lC9_emits (zm_ob hM) e, q⟩
def zm_Pq (h : zv_H) : Prop := (zm_M h ∧ zm_RI h ∧ zm_K h) ∧ zv_I h 347 30 = 0 ∧ 0 ≤ zv_I h 348 4 ∧ 2 * zv_I h 348 4 ≤ zv_I h 347 32
def zm_Q (h h' : zv_H) : Prop := zm_F [348] [30, 31, 32, 33, 34, 35, 37, 38] h h' ∧ zv_I h' 347 37 = zv_I h 347 37 ∧ zm_RI h' ∧ 0 ≤ zv_I h' 347 30 ∧ (∀ k : Nat, k ≠ 4 → ¬ (8 ≤ k ∧ k < 408) → zv_I h' 348 k = zv_I h 348 k) ∧ (zv_I h' 347 30 = 0 → ∃ e, zm_pe e ∧ zm_cd (zv_I h' 348) = zm_cd (zv_I h 348) ++ e ∧ zv_I h 348 4 + 1 ≤ zv_I h' 348 4 ∧ 2 * (zv_I h' 348 4 - zv_I h 348 4) + zv_I h 347 32 ≤ zv_I h' 347 32)
theorem zm_Q_P {h h' : zv_H} (p : zm_Pq h) (q : zm_Q h h') (hw : zv_I h' 347 30 = 0) : zm_Pq h' := by
  obtain ⟨⟨p1, p2, p3⟩, p4, p5, p6⟩ := p
  obtain ⟨q1, q2, q3, q4, q5, q6⟩ := q
  obtain ⟨e, e1, e2, e3, e4⟩ := q6 hw
  exact ⟨⟨zm_F_M q1 p1, q3, zm_K_F p3 q1⟩, hw, by omega, by omega⟩
/-- behind a reading, with so many bytes left behind -/
theorem zm_P_rd {h h' : zv_H} (p : zm_Pq h) (f : zm_rF h h') (r : zm_RI h') (hx : zv_I h 347 32 ≤ zv_I h' 347 32) : zm_Pq h' := by
  obtain ⟨⟨p1, p2, p3⟩, p4, p5, p6⟩ := p
  refine ⟨⟨zm_F_M f p1, r, zm_K_F p3 f⟩, (zm_F_g f 30).trans p4, ?_, ?_⟩
  · rw [zm_F_a f 348]
    exact p5
  · rw [zm_F_a f 348]
    omega
/-- a loop of operands: or, and -/
theorem zm_two (D : Nat) {op w : Int} {j : Nat} (key : Int64) (hkey : key = 423 ∨ key = 1111) (hJ : ∀ h : zv_H, zm_K h → zv_J h 368 j = key) (hj : w = (j : Int)) (hop : op < -1) (L : zv_H → zv_O) (S : zv_H → Option zv_H) (hL : ∀ h : zv_H, L h = (zv_gR h 347 9 40).bind fun v1 => (C9_which (D + 6) 347 v1 h).bind fun q2 => if q2.1 = w then (C9_reads (D + 6) 347 q2.2).bind fun g3 => (S g3).bind fun g4 => (C9_emits (D + 6) 347 op g4).bind fun g5 => L g5 else some (none, q2.2)) (deep : Int) (hS : ∀ h : zv_H, zm_Pq h → zv_I h 347 37 = deep → zm_R (S h) (zm_Q h)) {h : zv_H} (p : zm_Pq h) (hd : zv_I h 347 37 = deep) : ∀ (m : Nat) (h1 : zv_H), zm_Q h h1 → (zv_I h1 347 30 = 0 → 701 - zv_I h1 347 32 ≤ m) → zm_R (L h1) (zm_V (zm_Q h))
  | m, h1, q, hm => by
    have hM1 := zm_F_M q.1 p.1.1
    obtain ⟨v, ev, qv⟩ := zm_which hM1 (D + 5) zm_l368 rfl (by decide)
    rw [hL, zm_e (zm_f40 hM1), zm_e ev]
    dsimp only
    refine zm_if (fun hv => ?_) (fun _ => zm_iV q)
    rcases qv with z | ⟨z1, z2, z3, z4⟩
    · rw [z] at hv
      omega
    · have p1 := zm_Q_P p q z3
      obtain ⟨q1, q2, q3, q4, q5, q6⟩ := id q
      have K1 := p1.1.2.2
      have r1 := q3.2.1
      have hk : zv_J h1 347 38 = key := by
        rw [← z4, hv, hj]
        exact hJ h1 K1
      have hnx : zv_I h1 347 32 + 2 ≤ zv_I h1 347 33 := by
        have h9 := q3.2.2.2.2 z2
        by_cases c : zv_I h1 347 33 = zv_I h1 347 32 + 1
        · have h10 := h9 c
          rw [hk] at h10
          rcases hkey with z | z
          · exact absurd z h10.1
          · exact absurd z h10.2.1
        · omega
      obtain ⟨h2, e2, f2, r2, p2x, z30⟩ := zm_rd (D + 1) hM1 q3 (by rw [z2]; decide)
      have P2 := zm_P_rd p1 f2 r2 (by omega)
      have d2 : zv_I h2 347 37 = deep := (zm_F_g f2 37).trans (q2.trans hd)
      obtain ⟨h3, e3, Q3⟩ := hS h2 P2 d2
      obtain ⟨s1, s2, s3, s4, s5, s6⟩ := id Q3
      have hM3 := zm_F_M s1 P2.1.1
      have P2b := P2.2.2
      have r3 := s3.2.1
      have r1b := q3.1
      obtain ⟨h4, e4, f4, k4, t4⟩ := zm_emits hM3 (D + 5) op s4 (fun z => by
        obtain ⟨e, x1, x2, x3, x4⟩ := s6 z
        omega)
      have c21 : zv_I h2 348 = zv_I h1 348 := zm_F_a f2 348
      have f04 : zm_F [348] [30, 31, 32, 33, 34, 35, 37, 38] h h4 := zm_F_t q1 (zm_F_t (zm_F_s f2 rfl rfl) (zm_F_t s1 (zm_F_s f4 rfl rfl)))
      have w4 : zv_I h4 347 30 = zv_I h3 347 30 := zm_F_g f4 30
      have a4 : zv_I h4 347 32 = zv_I h3 347 32 := zm_F_g f4 32
      have Q4 : zm_Q h h4 := by
        refine ⟨f04, ?_, zm_RI_F s3 f4, by rw [w4]; exact s4, fun k k0 k1 => ?_, fun hz => ?_⟩
        · rw [zm_F_g f4 37, s2, d2, hd]
        · rw [k4 k k0 k1, s5 k k0 k1, c21, q5 k k0 k1]
        · rw [w4] at hz
          obtain ⟨e, x1, x2, x3, x4⟩ := s6 hz
          obtain ⟨y1, y2⟩ := t4 hz
          obtain ⟨e0, u1, u2, u3, u4⟩ := q6 z3
          refine ⟨e0 ++ (e ++ [op]), zm_pe_b u1 x1 hop, ?_, ?_, ?_⟩
          · rw [y1, x2, c21, u2, List.append_assoc, List.append_assoc]
          · rw [y2]
            rw [c21] at x3
            omega
          · rw [y2, a4]
            rw [c21] at x4
            omega
      rw [zm_e e2, zm_e e3, zm_e e4]
      have hm' : 701 - zv_I h1 347 32 ≤ m := hm z3
      cases m with
      | zero => exact absurd hm' (by omega)
      | succ m =>
        refine zm_two D key hkey hJ hj hop L S hL deep hS p hd m h4 Q4 (fun hz => ?_)
        rw [w4] at hz
        obtain ⟨e, x1, x2, x3, x4⟩ := s6 hz
        rw [a4]
        omega
theorem zm_Q0 (D : Nat) {deep : Int} (hf : ∀ h : zv_H, zm_Pq h → zv_I h 347 37 = deep → zm_R (C9_fact (D + 6) 347 h) (zm_Q h)) : ∀ h : zv_H, zm_Pq h → zv_I h 347 37 = deep → zm_R (C9_side (D + 7) 347 h) (zm_Q h) := by
  intro h p hd
  refine zm_cV (lC9_side (zm_ob p.1.1)) ?_
  obtain ⟨h1, e1, Q1⟩ := hf h p hd
  rw [qE9_side, zm_e e1]
  refine zm_two D 1111 (Or.inr rfl) (fun h k => k.2.1) rfl (by decide) (fun h => L9_side_4 (D + 6) 347 h) (fun h => C9_fact (D + 6) 347 h) (fun h => qL9_side_4 (D + 6) 347 h) deep hf p hd 701 h1 Q1 (fun _ => ?_)
  have := Q1.2.2.1.2.1
  omega
theorem zm_Q1 (D : Nat) {deep : Int} (hf : ∀ h : zv_H, zm_Pq h → zv_I h 347 37 = deep → zm_R (C9_side (D + 6) 347 h) (zm_Q h)) : ∀ h : zv_H, zm_Pq h → zv_I h 347 37 = deep → zm_R (C9_test (D + 7) 347 h) (zm_Q h) := by
  intro h p hd
  refine zm_cV (lC9_test (zm_ob p.1.1)) ?_
  obtain ⟨h1, e1, Q1⟩ := hf h p hd
  rw [qE9_test, zm_e e1]
  refine zm_two D 423 (Or.inl rfl) (fun h k => k.1) rfl (by decide) (fun h => L9_test_4 (D + 6) 347 h) (fun h => C9_side (D + 6) 347 h) (fun h => qL9_test_4 (D + 6) 347 h) deep hf p hd 701 h1 Q1 (fun _ => ?_)
  have := Q1.2.2.1.2.1
  omega
