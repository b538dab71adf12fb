theorem zm_Q_bad {h h' : zv_H} {A B : List Nat} (f : zm_F A B h h') (hA : (A.all fun r => [348].contains r) = true) (hB : (B.all fun r => [30, 31, 32, 33, 34, 35, 37, 38].contains r) = true) (h37 : zv_I h' 347 37 = zv_I h 347 37) (r : zm_RI h') (hw : 0 ≤ zv_I h' 347 30) (hk : ∀ k : Nat, k ≠ 4 → ¬ (8 ≤ k ∧ k < 408) → zv_I h' 348 k = zv_I h 348 k) (hz : zv_I h' 347 30 ≠ 0) : zm_Q h h' := ⟨zm_F_s f hA hB, h37, r, hw, hk, fun q => absurd q hz⟩
theorem zm_fact117 (D : Nat) {h : zv_H} (p : zm_Pq h) : zm_R (L9_fact_117 (D + 6) 347 h) (zm_V (zm_Q h)) := by
  obtain ⟨⟨hM, r, K⟩, hw, h4, h42⟩ := id p
  have hr := r.2.1
  have hr1 := r.1
  obtain ⟨v, ev, qv⟩ := zm_which hM (D + 5) zm_l369 rfl (by decide)
  have l136 : ∀ b : Int, (b ≠ 0 → 0 ≤ v) → zm_R (L9_fact_136 (D + 6) 347 v 347 b h) (zm_V (zm_Q h)) := by
    intro b hb
    obtain ⟨h1, e1, f1, w1, k1⟩ := zm_must hM (D + 5) b 2 (by decide) (by omega)
    have hM1 := zm_F_M f1 hM
    rw [qL9_fact_136, zm_e e1, zm_e (zm_gI hM1 30)]
    refine zm_if (fun c1 => ?_) (fun c1 => zm_iV (zm_Q_bad f1 rfl rfl (zm_F_g f1 37) (zm_RI_F r f1) w1 (fun k _ _ => by rw [zm_F_a f1 348]) (by omega)))
    have c2 : zv_I h1 347 30 = 0 := by omega
    obtain ⟨b0, eh⟩ := k1 c2
    subst eh
    have v0 := hb b0
    rcases qv with z | ⟨z1, z2, z3, z4⟩
    · rw [z] at v0
      exact absurd v0 (by decide)
    · obtain ⟨h2, e2, f2, r2, p2, w2⟩ := zm_rd (D + 1) hM r (by rw [z2]; decide)
      have hM2 := zm_F_M f2 hM
      have P2 := zm_P_rd p f2 r2 (by omega)
      have w20 : zv_I h2 347 30 = 0 := P2.2.1
      -- once the relation is known
      have l192 : ∀ how : Int, (how = -1 ∨ ((0 ≤ how ∧ how ≤ 2) ∧ zv_I h2 347 34 = 3)) → zm_R (L9_fact_192 (D + 6) 347 v how h2) (zm_V (zm_Q h1)) := by
        intro how hh
        have l203 : ∀ b2 : Int, (b2 ≠ 0 → 0 ≤ how) → zm_R (L9_fact_203 (D + 6) 347 v how 347 b2 h2) (zm_V (zm_Q h1)) := by
          intro b2 hb2
          obtain ⟨h3, e3, f3, w3, k3⟩ := zm_must hM2 (D + 5) b2 2 (by decide) (by omega)
          have hM3 := zm_F_M f3 hM2
          have r3 := zm_RI_F r2 f3
          -- number and code
          have l218 : ∀ h5 : zv_H, zm_F [] [30, 31, 32, 33, 34, 35, 38] h2 h5 → zm_RI h5 → 0 ≤ zv_I h5 347 30 → (zv_I h5 347 30 = 0 → 0 ≤ how ∧ how ≤ 2 ∧ zv_I h2 347 32 + 1 ≤ zv_I h5 347 32) → zm_R (L9_fact_218 (D + 6) 347 v how h5) (zm_V (zm_Q h1)) := by
            intro h5 f5 r5 w5 k5
            have hM5 := zm_F_M f5 hM2
            obtain ⟨n, h6, e6, f6, ok6, n0, n1⟩ := zm_takesNumber hM5 D r5 w5
            obtain ⟨r6, w6, x6⟩ := ok6
            have hM6 := zm_F_M f6 hM5
            have c6 : zv_I h6 348 = zv_I h1 348 := (zm_F_a f6 348).trans ((zm_F_a f5 348).trans (zm_F_a f2 348))
            have hr6 := r6.2.1
            obtain ⟨h7, e7, f7, k7, t7⟩ := zm_emits hM6 (D + 5) (zv_w (zv_w (v + zv_w (6 * how)) + zv_w (18 * n))) w6 (fun _ => by rw [c6]; omega)
            rw [qL9_fact_218, zm_e e6]
            dsimp only
            rw [zm_e e7]
            have f17 : zm_F [348] [30, 31, 32, 33, 34, 35, 37, 38] h1 h7 := zm_F_t (zm_F_s f2 rfl rfl) (zm_F_t (zm_F_s f5 rfl rfl) (zm_F_t (zm_F_s f6 rfl rfl) (zm_F_s f7 rfl rfl)))
            refine zm_iV ⟨f17, ?_, zm_RI_F r6 f7, ?_, fun k k0 k1 => ?_, fun hz => ?_⟩
            · rw [zm_F_g f7 37, zm_F_g f6 37, zm_F_g f5 37, zm_F_g f2 37]
            · rw [zm_F_g f7 30]
              exact w6
            · rw [k7 k k0 k1, c6]
            · rw [zm_F_g f7 30] at hz
              obtain ⟨y1, y2⟩ := t7 hz
              obtain ⟨x7, x8⟩ := x6 hz
              obtain ⟨g0, g1, g2⟩ := k5 x7
              have hz1 := z1.2
              refine ⟨[zv_w (zv_w (v + zv_w (6 * how)) + zv_w (18 * n))], zm_pe1 ?_, by rw [y1, c6], by rw [y2, c6]; omega, ?_⟩
              · rw [zm_w (x := 6 * how) (by omega), zm_w (x := v + 6 * how) (by omega), zm_w (x := 18 * n) (by omega), zm_w (by omega)]
                omega
              · rw [y2, c6, zm_F_g f7 32]
                omega
          rw [qL9_fact_203, zm_e e3, zm_e (zm_gI hM3 30)]
          refine zm_if (fun c3 => ?_) (fun c3 => l218 h3 (zm_F_s f3 rfl rfl) r3 w3 (fun q => absurd q c3))
          obtain ⟨b20, eh3⟩ := k3 c3
          subst eh3
          have g0 := hb2 b20
          rcases hh with z | ⟨g1, g2⟩
          · rw [z] at g0
            exact absurd g0 (by decide)
          · obtain ⟨h5, e5, f5, r5, p5, w5⟩ := zm_rd (D + 1) hM2 r2 (by rw [g2]; decide)
            rw [zm_e e5]
            have hr2 := r2.2.1
            exact l218 h5 (zm_F_s f5 rfl rfl) r5 (by rw [w5]; exact w3) (fun _ => ⟨g0, g1.2, by omega⟩)
        rw [qL9_fact_192]
        refine zm_if (fun _ => l203 0 (fun q => absurd rfl q)) (fun c => l203 1 (fun _ => by omega))
      rw [zm_e e2]
      obtain ⟨s1, es1, q1⟩ := zm_isSign hM2 (D + 5) r2 60
      obtain ⟨s2, es2, q2⟩ := zm_isSign hM2 (D + 5) r2 61
      obtain ⟨s3, es3, q3⟩ := zm_isSign hM2 (D + 5) r2 62
      rw [zm_e es1]
      dsimp only
      refine zm_if (fun _ => ?_) (fun c => l192 0 (Or.inr ⟨by decide, ?_⟩))
      · rw [zm_e es2]
        dsimp only
        refine zm_if (fun _ => ?_) (fun c => l192 1 (Or.inr ⟨by decide, ?_⟩))
        · rw [zm_e es3]
          dsimp only
          refine zm_if (fun _ => l192 (-1) (Or.inl rfl)) (fun c => l192 2 (Or.inr ⟨by decide, ?_⟩))
          rcases q3 with z | z
          · exact absurd z c
          · exact z.2.2
        · rcases q2 with z | z
          · exact absurd z c
          · exact z.2.2
      · rcases q1 with z | z
        · exact absurd z c
        · exact z.2.2
  rw [qL9_fact_117, zm_e (zm_f41 hM), zm_e ev]
  dsimp only
  exact zm_if (fun _ => l136 0 (fun q => absurd rfl q)) (fun c => l136 1 (fun _ => by omega))
theorem zm_fact : ∀ (j D : Nat), 3 * j ≤ D → j ≤ 6 → ∀ h : zv_H, zm_Pq h → zv_I h 347 37 = 6 - (j : Int) → zm_R (C9_fact (D + 7) 347 h) (zm_Q h)
  | j, D, hD, hj6, h, p, hd => by
    obtain ⟨⟨hM, r, K⟩, hw, h4, h42⟩ := id p
    have hr := r.2.1
    have hr1 := r.1
    refine zm_cV (lC9_fact (zm_ob hM)) ?_
    obtain ⟨v, ev, qv⟩ := zm_which hM (D + 5) zm_l368 rfl (by decide)
    -- not, or a bracket: one level down
    have l38 : ∀ b : Int, zv_I h 347 34 ≠ 0 → (b ≠ 0 → zv_I h 347 32 + 2 ≤ zv_I h 347 33) → zm_R (L9_fact_38 (D + 6) 347 b h) (zm_V (zm_Q h)) := by
      intro b hs hb
      have l53 : ∀ g : Int, (g ≠ 0 → zv_I h 347 37 < 6) → zm_R (L9_fact_53 (D + 6) 347 b 347 g h) (zm_V (zm_Q h)) := by
        intro g hg
        obtain ⟨h1, e1, f1, w1, k1⟩ := zm_must hM (D + 5) g 6 (by decide) (by omega)
        have hM1 := zm_F_M f1 hM
        rw [qL9_fact_53, zm_e e1, zm_e (zm_gI hM1 30)]
        refine zm_if (fun c1 => ?_) (fun c1 => zm_iV (zm_Q_bad f1 rfl rfl (zm_F_g f1 37) (zm_RI_F r f1) w1 (fun k _ _ => by rw [zm_F_a f1 348]) (by omega)))
        have c2 : zv_I h1 347 30 = 0 := by omega
        obtain ⟨b0, eh⟩ := k1 c2
        subst eh
        have hd6 := hg b0
        cases j with
        | zero => exact absurd hd6 (by omega)
        | succ j =>
          obtain ⟨D0, rfl⟩ : ∃ D0, D = D0 + 3 := ⟨D - 3, by omega⟩
          rw [zm_e (zm_gI hM 37), zm_w (by omega), zm_e (zm_pI hM 37 _)]
          have f2 : zm_F [] [37] h1 (zv_sI h1 347 37 (zv_I h1 347 37 + 1)) := zm_F_f (zm_F_r _ _ h1) rfl _
          have d2 : zv_I (zv_sI h1 347 37 (zv_I h1 347 37 + 1)) 347 37 = zv_I h1 347 37 + 1 := by rw [zm_sgI, if_pos rfl]
          generalize zv_sI h1 347 37 (zv_I h1 347 37 + 1) = h2 at f2 d2
          have hM2 := zm_F_M f2 hM
          have r2 := zm_RI_F r f2
          obtain ⟨h3, e3, f3, r3, p3, w3⟩ := zm_rd (D0 + 4) hM2 r2 (by rw [zm_F_g f2 34]; exact hs)
          have x23 : zv_I h2 347 33 = zv_I h1 347 33 := zm_F_g f2 33
          have x22 : zv_I h2 347 32 = zv_I h1 347 32 := zm_F_g f2 32
          have P2 : zm_Pq h2 := ⟨⟨hM2, r2, zm_K_F K f2⟩, (zm_F_g f2 30).trans c2, by rw [zm_F_a f2 348]; exact h4, by rw [zm_F_a f2 348, x22]; exact h42⟩
          have P3 := zm_P_rd P2 f3 r3 (by omega)
          have d3 : zv_I h3 347 37 = 6 - (j : Int) := by
            rw [zm_F_g f3 37, d2, hd]
            omega
          have c3 : zv_I h3 348 = zv_I h1 348 := (zm_F_a f3 348).trans (zm_F_a f2 348)
          have F3 : zm_F [348] [30, 31, 32, 33, 34, 35, 37, 38] h1 h3 := zm_F_t (zm_F_s f2 rfl rfl) (zm_F_s f3 rfl rfl)
          rw [zm_e e3]
          -- up again
          have up : ∀ h5 : zv_H, zm_F [348] [30, 31, 32, 33, 34, 35, 37, 38] h1 h5 → zv_I h5 347 37 = zv_I h3 347 37 → zm_RI h5 → 0 ≤ zv_I h5 347 30 → (∀ k : Nat, k ≠ 4 → ¬ (8 ≤ k ∧ k < 408) → zv_I h5 348 k = zv_I h1 348 k) → (zv_I h5 347 30 = 0 → ∃ e, zm_pe e ∧ zm_cd (zv_I h5 348) = zm_cd (zv_I h1 348) ++ e ∧ zv_I h1 348 4 + 1 ≤ zv_I h5 348 4 ∧ 2 * (zv_I h5 348 4 - zv_I h1 348 4) + zv_I h1 347 32 ≤ zv_I h5 347 32) → zm_R ((zv_gI h5 347 9 37).bind fun v8 => (zv_pI h5 347 9 37 (zv_w (v8 - 1))).bind fun g9 => (some ((none : Option zv_V), g9) : zv_O)) (zm_V (zm_Q h1)) := by
            intro h5 F5 d5 r5 w5 k5 g5
            have hM5 := zm_F_M F5 hM
            rw [zm_e (zm_gI hM5 37), d5, zm_F_g f3 37, d2, zm_e (zm_pI hM5 37 _), zm_w (by omega)]
            have f6 : zm_F [] [37] h5 (zv_sI h5 347 37 (zv_I h1 347 37 + 1 - 1)) := zm_F_f (zm_F_r _ _ h5) rfl _
            have d6 : zv_I (zv_sI h5 347 37 (zv_I h1 347 37 + 1 - 1)) 347 37 = zv_I h1 347 37 + 1 - 1 := by rw [zm_sgI, if_pos rfl]
            generalize zv_sI h5 347 37 (zv_I h1 347 37 + 1 - 1) = h6 at f6 d6
            refine zm_iV ⟨zm_F_t F5 (zm_F_s f6 rfl rfl), by rw [d6]; omega, zm_RI_F r5 f6, by rw [zm_F_g f6 30]; exact w5, fun k k0 k1 => by rw [zm_F_a f6 348]; exact k5 k k0 k1, fun hz => ?_⟩
            rw [zm_F_g f6 30] at hz
            rw [zm_F_a f6 348, zm_F_g f6 32]
            exact g5 hz
          refine zm_if (fun cb => ?_) (fun cb => ?_)
          · -- a bracket
            have tst := zm_Q1 (D0 + 2) (deep := 6 - (j : Int)) (zm_Q0 (D0 + 1) (zm_fact j D0 (by omega) (by omega)))
            obtain ⟨h4', e4, Q4⟩ := tst h3 P3 d3
            obtain ⟨s1, s2, s3, s4, s5, s6⟩ := Q4
            have hM4 := zm_F_M s1 P3.1.1
            obtain ⟨h5, e5, f5, ok5⟩ := zm_takes hM4 (D0 + 3) s3 s4 93
            obtain ⟨r5, w5, x5⟩ := ok5
            rw [zm_e e4, zm_e e5]
            refine up h5 (zm_F_t F3 (zm_F_t s1 (zm_F_s f5 rfl rfl))) ((zm_F_g f5 37).trans s2) r5 w5 (fun k k0 k1 => by rw [zm_F_a f5 348, s5 k k0 k1, c3]) (fun hz => ?_)
            obtain ⟨z1, z2⟩ := x5 hz
            obtain ⟨e, y1, y2, y3, y4⟩ := s6 z1
            rw [zm_F_a f5 348]
            rw [c3] at y2 y3 y4
            exact ⟨e, y1, y2, y3, by omega⟩
          · -- not
            have hn2 := hb cb
            obtain ⟨h4', e4, Q4⟩ := zm_fact j (D0 + 2) (by omega) (by omega) h3 P3 d3
            obtain ⟨s1, s2, s3, s4, s5, s6⟩ := Q4
            have hM4 := zm_F_M s1 P3.1.1
            have hr4 := s3.2.1
            have P3b := P3.2.2
            obtain ⟨h5, e5, f5, k5, t5⟩ := zm_emits hM4 (D0 + 8) (-1) s4 (fun z => by
              obtain ⟨e, x1, x2, x3, x4⟩ := s6 z
              have := s3.1
              omega)
            rw [zm_e e4, zm_e e5]
            refine up h5 (zm_F_t F3 (zm_F_t s1 (zm_F_s f5 rfl rfl))) ((zm_F_g f5 37).trans s2) (zm_RI_F s3 f5) (by rw [zm_F_g f5 30]; exact s4) (fun k k0 k1 => by rw [k5 k k0 k1, s5 k k0 k1, c3]) (fun hz => ?_)
            rw [zm_F_g f5 30] at hz
            obtain ⟨e, y1, y2, y3, y4⟩ := s6 hz
            obtain ⟨u1, u2⟩ := t5 hz
            rw [c3] at y2 y3 y4
            rw [u2, zm_F_g f5 32]
            refine ⟨e ++ [-1], zm_pe_n y1, by rw [u1, y2, List.append_assoc], by omega, by omega⟩
      rw [qL9_fact_38, zm_e (zm_gI hM 37)]
      exact zm_if (fun c => l53 1 (fun _ => c)) (fun _ => l53 0 (fun q => absurd rfl q))
    have l17 : ∀ b : Int, (b ≠ 0 → zv_I h 347 34 = 1 ∧ zv_I h 347 32 + 2 ≤ zv_I h 347 33) → zm_R (L9_fact_17 (D + 6) 347 b h) (zm_V (zm_Q h)) := by
      intro b hb
      rw [qL9_fact_17, zm_e (zm_gI hM 30), if_pos hw]
      refine zm_if (fun c1 => ?_) (fun c1 => ?_)
      · obtain ⟨s, es, qs⟩ := zm_isSign hM (D + 5) r 91
        rw [zm_e es]
        dsimp only
        refine zm_if (fun _ => zm_fact117 D p) (fun c2 => ?_)
        rcases qs with z | z
        · exact absurd z c2
        · exact l38 b (by rw [z.2.2]; decide) (fun q => absurd c1 q)
      · have := hb c1
        exact l38 b (by rw [this.1]; decide) (fun _ => this.2)
    rw [qE9_fact, zm_e (zm_f40 hM), zm_e ev]
    dsimp only
    refine zm_if (fun c => l17 1 (fun _ => ?_)) (fun _ => l17 0 (fun q => absurd rfl q))
    rcases qv with z | ⟨z1, z2, z3, z4⟩
    · rw [z] at c
      exact absurd c (by decide)
    · refine ⟨z2, ?_⟩
      have h9 := r.2.2.2.2 z2
      by_cases cx : zv_I h 347 33 = zv_I h 347 32 + 1
      · have h10 := (h9 cx).2.2
        rw [c] at z4
        rw [← z4] at h10
        exact absurd K.2.2.1 h10
      · omega
theorem zm_test (D : Nat) {h : zv_H} (p : zm_Pq h) (hd : zv_I h 347 37 = 0) : zm_R (C9_test (D + 27) 347 h) (zm_Q h) :=
  zm_Q1 (D + 20) (deep := 6 - ((6 : Nat) : Int)) (zm_Q0 (D + 19) (zm_fact 6 (D + 18) (by omega) (by omega))) h p (by rw [hd]; rfl)
