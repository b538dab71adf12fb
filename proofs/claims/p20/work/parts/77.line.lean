/-! ===== the reference: a LINE ===== -/
theorem zm_does {h : zv_H} {c : Nat → Int} (hM : zm_M h) (hc : zv_I h 348 = c) (w : zm_W c) (d : Nat) (k : Int) (hk : k = 0 → 0 ≤ zv_I h 347 19 ∧ zv_I h 347 19 ≤ 12) (h42 : 0 ≤ zv_I h 347 42 ∧ zv_I h 347 42 ≤ 999) : zm_R (C9_does (d + 10) 347 k h) (fun q => zm_F [348, 351, 352, 353, 354, 355, 358, 359, 360, 362, 363, 364, 365] [3, 10, 11, 12, 19, 24] h q.2 ∧ zm_W (zv_I q.2 348)) := by
  refine zm_cI (P := fun _ h' => zm_F [348, 351, 352, 353, 354, 355, 358, 359, 360, 362, 363, 364, 365] [3, 10, 11, 12, 19, 24] h h' ∧ zm_W (zv_I h' 348)) (lC9_does (zm_ob hM)) ?_
  have ret : ∀ {o : Option (Int × zv_H)} {A B : List Nat} {Q : Int × zv_H → Prop}, (A.all fun r => List.contains [348, 351, 352, 353, 354, 355, 358, 359, 360, 362, 363, 364, 365] r) = true → (B.all fun r => List.contains [3, 10, 11, 12, 19, 24] r) = true → zm_R o Q → (∀ q, Q q → zm_F A B h q.2 ∧ zm_W (zv_I q.2 348)) → zm_R (o.bind fun q => (some (some (zv_i q.1), q.2) : zv_O)) (zm_I fun _ h' => zm_F [348, 351, 352, 353, 354, 355, 358, 359, 360, 362, 363, 364, 365] [3, 10, 11, 12, 19, 24] h h' ∧ zm_W (zv_I h' 348)) := by
    intro o A B Q hA hB ⟨q, e, hq⟩ himp
    have := himp q hq
    rw [zm_e e]
    exact zm_iI ⟨zm_F_s this.1 hA hB, this.2⟩
  rw [qE9_does]
  refine zm_if (fun c0 => ?_) (fun _ => zm_if (fun _ => ?_) (fun _ => zm_if (fun _ => ?_) (fun _ => zm_if (fun _ => ?_) (fun _ => zm_if (fun _ => ?_) (fun _ => zm_if (fun _ => ?_) (fun _ => zm_if (fun _ => ?_) (fun _ => zm_if (fun _ => ?_) (fun _ => zm_if (fun _ => ?_) (fun _ => zm_if (fun _ => ?_) (fun _ => zm_if (fun _ => ?_) (fun _ => ?_)))))))))))
  · have h19 := hk c0
    obtain ⟨m, em⟩ : ∃ m : Nat, zv_I h 347 19 = m := ⟨(zv_I h 347 19).toNat, by omega⟩
    rw [zm_e (zm_gI hM 42)]
    exact ret rfl rfl (zm_putNow hM hc w (d + 3) (m := m) (by omega) em _) (fun q hq => ⟨hq.1, hq.2.1⟩)
  · rw [zm_e (zm_gI hM 42), zm_e (zm_gI hM 43)]
    exact ret rfl rfl (zm_cutNow hM hc w (d + 3) _ _ (by omega)) (fun q hq => ⟨hq.1, hq.2.1⟩)
  · rw [zm_e (zm_f0 hM), zm_e (zm_aI hM zm_l348 rfl (by decide) (by decide)), zm_e (zm_gI hM 42), zm_e (zm_wI hM zm_l348 rfl (by decide) (by decide) _)]
    refine zm_iI ⟨zm_F_I (zm_F_r _ _ h) rfl _ _, ?_⟩
    rw [zm_ss, hc]
    have o : ∀ k : Nat, k ≠ 1 → zm_u c (Int.toNat 1) (zv_w (c (Int.toNat 1) + zv_I h 347 42)) k = c k := fun k hk => zm_u_o _ _ hk
    exact zm_W_alt w (fun k h1 _ => o k (by omega)) (by rw [o 0 (by decide)]; exact w.2.1) (by rw [o 3 (by decide)]; exact w.2.2.1) (o 4 (by decide)) (fun k h1 _ => o k (by omega)) (by rw [o 5 (by decide)]; exact w.2.2.2.2.2)
  · exact ret rfl rfl (zm_undoNow hM hc w (d + 6)) (fun q hq => hq)
  · exact ret rfl rfl (zm_redoNow hM hc w (d + 4)) (fun q hq => hq)
  · rw [zm_e (zm_gI hM 42)]
    exact ret rfl rfl (zm_goNow hM hc w (d + 4) _) (fun q hq => hq)
  · exact ret rfl rfl (zm_nameNow hM hc w (d + 6)) (fun q hq => hq)
  · rw [zm_e (zm_gI hM 42)]
    exact ret rfl rfl (zm_turnNow hM hc w (d + 2) (Or.inl rfl) _) (fun q hq => hq)
  · rw [zm_e (zm_gI hM 42)]
    exact ret rfl rfl (zm_turnNow hM hc w (d + 2) (Or.inr rfl) _) (fun q hq => hq)
  · rw [zm_e (zm_gI hM 42)]
    exact ret rfl rfl (zm_carryNow hM hc w d _) (fun q hq => ⟨hq.1, hq.2.1⟩)
  · rw [zm_e (zm_gI hM 42)]
    exact ret rfl rfl (zm_mergeNow hM hc w d _) (fun q hq => ⟨hq.1, hq.2.1⟩)
  · rw [zm_e (zm_gI hM 42)]
    exact ret rfl rfl (zm_pruneNow hM hc w (d + 4) _) (fun q hq => hq)
/-- within a LINE: what has been read changed no state -/
def zm_In (h0 h : zv_H) : Prop := zm_F [348, 351, 352, 353, 354, 355, 358, 359, 360, 362, 363, 364, 365] [3, 10, 11, 12, 19, 24, 30, 31, 32, 33, 34, 35, 38, 42, 43] h0 h ∧ zm_RI h ∧ 0 ≤ zv_I h 347 30 ∧ (zv_I h 347 30 = 0 → zv_I h0 347 32 + 1 ≤ zv_I h 347 32) ∧ zv_I h 348 = zv_I h0 348 ∧ 0 ≤ zv_I h 347 42 ∧ zv_I h 347 42 ≤ 999
/-- behind it -/
def zm_Lo (h0 h : zv_H) : Prop := zm_F [348, 351, 352, 353, 354, 355, 358, 359, 360, 362, 363, 364, 365] [3, 10, 11, 12, 19, 24, 30, 31, 32, 33, 34, 35, 38, 42, 43] h0 h ∧ zm_RI h ∧ 0 ≤ zv_I h 347 30 ∧ (zv_I h 347 30 = 0 → zm_W (zv_I h 348) ∧ zv_I h0 347 32 + 1 ≤ zv_I h 347 32)
theorem zm_In_n {h0 h h' : zv_H} (i : zm_In h0 h) (f : zm_F [] [30, 31, 32, 33, 34, 35, 38] h h') (ok : zm_Ok 1 h h') : zm_In h0 h' := by
  obtain ⟨i1, i2, i3, i4, i5, i6⟩ := i
  obtain ⟨k1, k2, k3⟩ := ok
  refine ⟨zm_F_t i1 (zm_F_s f rfl rfl), k1, k2, fun z => ?_, (zm_F_a f 348).trans i5, by rw [zm_F_g f 42]; exact i6⟩
  obtain ⟨k4, k5⟩ := k3 z
  have := i4 k4
  omega
theorem zm_readsLine {h : zv_H} (hM : zm_M h) (r : zm_RI h) (hw : zv_I h 347 30 = 0) (w : zm_W (zv_I h 348)) (d : Nat) : zm_R (C9_readsLine (d + 11) 347 h) (zm_Lo h) := by
  refine zm_cV (lC9_readsLine (zm_ob hM)) ?_
  obtain ⟨k, ek, qk⟩ := zm_which hM (d + 9) zm_l367 rfl (by decide)
  have hr := r.2.1
  -- behind the word and the numbers
  have l104 : ∀ h1 : zv_H, zm_In h h1 → (k = 0 → zv_I h1 347 30 = 0 → 0 ≤ zv_I h1 347 19 ∧ zv_I h1 347 19 ≤ 12) → zm_R (L9_readsLine_104 (d + 10) 347 k h1) (zm_V (zm_Lo h)) := by
    intro h1 i1 hk0
    obtain ⟨f1, r1, w1, x1, c1, n1⟩ := id i1
    have hM1 := zm_F_M f1 hM
    have l132 : ∀ b : Int, (b ≠ 0 → zv_I h1 347 34 = 3) → zm_R (L9_readsLine_132 (d + 10) 347 k 347 b h1) (zm_V (zm_Lo h)) := by
      intro b hb
      obtain ⟨h2, e2, f2, w2, k2⟩ := zm_must hM1 (d + 9) b 2 (by decide) w1
      have hM2 := zm_F_M f2 hM1
      rw [qL9_readsLine_132, zm_e e2, zm_e (zm_gI hM2 30)]
      refine zm_if (fun z1 => ?_) (fun z1 => zm_iV ⟨zm_F_t f1 (zm_F_s f2 rfl rfl), zm_RI_F r1 f2, w2, fun q => absurd q (by omega)⟩)
      have z2 : zv_I h2 347 30 = 0 := by omega
      obtain ⟨b0, eh⟩ := k2 z2
      subst eh
      have s3 := hb b0
      obtain ⟨⟨v, h3⟩, e3, f3, w3⟩ := zm_does hM1 c1 w d k (fun q => hk0 q z2) n1
      dsimp only at f3 w3
      have hM3 := zm_F_M f3 hM1
      have r3 := zm_RI_F r1 f3
      have y30 : zv_I h3 347 30 = zv_I h2 347 30 := zm_F_g f3 30
      have y32 : zv_I h3 347 32 = zv_I h2 347 32 := zm_F_g f3 32
      have y34 : zv_I h3 347 34 = zv_I h2 347 34 := zm_F_g f3 34
      have hr3 := r3.2.1
      have hx := x1 z2
      rw [zm_e e3]
      dsimp only
      have l158 : ∀ g : Int, zm_R (L9_readsLine_158 (d + 10) 347 347 g h3) (zm_V (zm_Lo h)) := by
        intro g
        obtain ⟨h4, e4, f4, w4, k4⟩ := zm_must hM3 (d + 9) g 7 (by decide) (by omega)
        have hM4 := zm_F_M f4 hM3
        rw [qL9_readsLine_158, zm_e e4, zm_e (zm_gI hM4 30)]
        refine zm_if (fun z4 => ?_) (fun z4 => zm_iV ⟨zm_F_t f1 (zm_F_t (zm_F_s f3 rfl rfl) (zm_F_s f4 rfl rfl)), zm_RI_F r3 f4, w4, fun q => absurd q z4⟩)
        obtain ⟨g0, eh4⟩ := k4 z4
        subst eh4
        obtain ⟨h5, e5, f5, r5, p5, w5⟩ := zm_rd (d + 5) hM3 r3 (by rw [y34, s3]; decide)
        rw [zm_e e5]
        exact zm_iV ⟨zm_F_t f1 (zm_F_t (zm_F_s f3 rfl rfl) (zm_F_s f5 rfl rfl)), r5, by omega, fun _ => ⟨by rw [zm_F_a f5 348]; exact w3, by omega⟩⟩
      exact zm_if (fun _ => l158 0) (fun _ => l158 1)
    have l131 : zm_R (L9_readsLine_131 (d + 10) 347 k 347 h1) (zm_V (zm_Lo h)) := by
      rw [qL9_readsLine_131]
      exact l132 0 (fun q => absurd rfl q)
    rw [qL9_readsLine_104, zm_e (zm_gI hM1 34)]
    refine zm_if (fun s3 => ?_) (fun _ => l131)
    have hr1 := r1.2.1
    have he1 := r1.1
    have hx1 := r1.2.2.1 (by rw [s3]; decide)
    rw [zm_e (zm_f26 hM1), zm_e (zm_gI hM1 32), zm_e (zm_aB hM1 zm_l366 (Or.inr rfl) rfl hr1.1 (by omega))]
    exact zm_if (fun _ => l132 1 (fun _ => s3)) (fun _ => l131)
  have l92 : ∀ h1 : zv_H, zm_In h h1 → (k = 0 → zv_I h1 347 30 = 0 → 0 ≤ zv_I h1 347 19 ∧ zv_I h1 347 19 ≤ 12) → zm_R (L9_readsLine_92 (d + 10) 347 k h1) (zm_V (zm_Lo h)) := by
    intro h1 i1 hk0
    have hM1 := zm_F_M i1.1 hM
    rw [qL9_readsLine_92]
    refine zm_if (fun k6 => ?_) (fun _ => l104 h1 i1 hk0)
    obtain ⟨h2, e2, f2, ok2, m2⟩ := zm_takesWord hM1 (d + 4) i1.2.1 i1.2.2.1 (most := 6) (by decide)
    rw [zm_e e2]
    obtain ⟨i1a, i1b, i1c, i1d, i1e, i1f⟩ := i1
    obtain ⟨o1, o2, o3⟩ := ok2
    refine l104 h2 ⟨zm_F_t i1a (zm_F_s f2 rfl rfl), o1, o2, fun z => ?_, (zm_F_a f2 348).trans i1e, by rw [zm_F_g f2 42]; exact i1f⟩ (fun q => by rw [q] at k6; exact absurd k6 (by decide))
    obtain ⟨z1, z2⟩ := o3 z
    have := i1d z1
    omega
  have l82 : ∀ h1 : zv_H, zm_In h h1 → zm_R (L9_readsLine_82 (d + 10) 347 k h1) (zm_V (zm_Lo h)) := by
    intro h1 i1
    have hM1 := zm_F_M i1.1 hM
    rw [qL9_readsLine_82]
    refine zm_if (fun k0 => ?_) (fun k0 => l92 h1 i1 (fun q => absurd q k0))
    obtain ⟨h2, e2, f2, ok2, m2⟩ := zm_takesWord hM1 (d + 4) i1.2.1 i1.2.2.1 (most := 12) (by decide)
    rw [zm_e e2]
    obtain ⟨i1a, i1b, i1c, i1d, i1e, i1f⟩ := i1
    obtain ⟨o1, o2, o3⟩ := ok2
    refine l92 h2 ⟨zm_F_t i1a (zm_F_s f2 rfl rfl), o1, o2, fun z => ?_, (zm_F_a f2 348).trans i1e, by rw [zm_F_g f2 42]; exact i1f⟩ (fun _ z => m2 z)
    obtain ⟨z1, z2⟩ := o3 z
    have := i1d z1
    omega
  have l69 : ∀ h1 : zv_H, zm_In h h1 → zm_R (L9_readsLine_69 (d + 10) 347 k h1) (zm_V (zm_Lo h)) := by
    intro h1 i1
    have hM1 := zm_F_M i1.1 hM
    rw [qL9_readsLine_69]
    refine zm_if (fun _ => ?_) (fun _ => l82 h1 i1)
    obtain ⟨n, h2, e2, f2, ok2, _⟩ := zm_takesNumber hM1 (d + 4) i1.2.1 i1.2.2.1
    have i2 := zm_In_n i1 f2 ok2
    rw [zm_e e2]
    dsimp only
    rw [zm_e (zm_pI (zm_F_M i2.1 hM) 43 _)]
    have f3 : zm_F [] [43] h2 (zv_sI h2 347 43 n) := zm_F_f (zm_F_r _ _ h2) rfl _
    obtain ⟨a1, a2, a3, a4, a5, a6⟩ := i2
    exact l82 _ ⟨zm_F_t a1 (zm_F_s f3 rfl rfl), zm_RI_F a2 f3, by rw [zm_F_g f3 30]; exact a3, by rw [zm_F_g f3 30, zm_F_g f3 32]; exact a4, (zm_F_a f3 348).trans a5, by rw [zm_F_g f3 42]; exact a6⟩
  have l61 : ∀ h1 : zv_H, zm_In h h1 → zm_R (L9_readsLine_61 (d + 10) 347 k h1) (zm_V (zm_Lo h)) := by
    intro h1 i1
    have hM1 := zm_F_M i1.1 hM
    obtain ⟨n, h2, e2, f2, ok2, n0, n1⟩ := zm_takesNumber hM1 (d + 4) i1.2.1 i1.2.2.1
    have i2 := zm_In_n i1 f2 ok2
    rw [qL9_readsLine_61, zm_e e2]
    dsimp only
    rw [zm_e (zm_pI (zm_F_M i2.1 hM) 42 _)]
    have f3 : zm_F [] [42] h2 (zv_sI h2 347 42 n) := zm_F_f (zm_F_r _ _ h2) rfl _
    have e42 : zv_I (zv_sI h2 347 42 n) 347 42 = n := by rw [zm_sgI, if_pos rfl]
    obtain ⟨a1, a2, a3, a4, a5, a6⟩ := i2
    exact l69 _ ⟨zm_F_t a1 (zm_F_s f3 rfl rfl), zm_RI_F a2 f3, by rw [zm_F_g f3 30]; exact a3, by rw [zm_F_g f3 30, zm_F_g f3 32]; exact a4, (zm_F_a f3 348).trans a5, by rw [e42]; exact ⟨n0, n1⟩⟩
  have l19 : ∀ b : Int, (b ≠ 0 → zv_I h 347 34 = 1) → zm_R (L9_readsLine_19 (d + 10) 347 k 347 b h) (zm_V (zm_Lo h)) := by
    intro b hb
    obtain ⟨h1, e1, f1, w1, k1⟩ := zm_must hM (d + 9) b 2 (by decide) (by omega)
    have hM1 := zm_F_M f1 hM
    rw [qL9_readsLine_19, zm_e e1, zm_e (zm_gI hM1 30)]
    refine zm_if (fun z1 => ?_) (fun z1 => zm_iV ⟨zm_F_s f1 rfl rfl, zm_RI_F r f1, w1, fun q => absurd q (by omega)⟩)
    have z2 : zv_I h1 347 30 = 0 := by omega
    obtain ⟨b0, eh⟩ := k1 z2
    subst eh
    obtain ⟨h2, e2, f2, r2, p2, w2⟩ := zm_rd (d + 5) hM r (by rw [hb b0]; decide)
    have hM2 := zm_F_M f2 hM
    rw [zm_e e2, zm_e (zm_pI hM2 42 _)]
    have f3 : zm_F [] [42] h2 (zv_sI h2 347 42 0) := zm_F_f (zm_F_r _ _ h2) rfl _
    have e42 : zv_I (zv_sI h2 347 42 0) 347 42 = 0 := by rw [zm_sgI, if_pos rfl]
    generalize zv_sI h2 347 42 0 = h3 at f3 e42
    have hM3 := zm_F_M f3 hM2
    rw [zm_e (zm_pI hM3 43 _)]
    have f4 : zm_F [] [43] h3 (zv_sI h3 347 43 0) := zm_F_f (zm_F_r _ _ h3) rfl _
    generalize zv_sI h3 347 43 0 = h4 at f4
    have i4 : zm_In h1 h4 := by
      refine ⟨zm_F_t (zm_F_s f2 rfl rfl) (zm_F_t (zm_F_s f3 rfl rfl) (zm_F_s f4 rfl rfl)), zm_RI_F (zm_RI_F r2 f3) f4, ?_, fun _ => ?_, ?_, ?_⟩
      · rw [zm_F_g f4 30, zm_F_g f3 30, w2]
        exact w1
      · rw [zm_F_g f4 32, zm_F_g f3 32]
        omega
      · rw [zm_F_a f4 348, zm_F_a f3 348, zm_F_a f2 348]
      · rw [zm_F_g f4 42, e42]
        decide
    exact zm_if (fun _ => l61 h4 i4) (fun _ => zm_if (fun _ => l61 h4 i4) (fun _ => zm_if (fun _ => l69 h4 i4) (fun _ => l61 h4 i4)))
  rw [qE9_readsLine, zm_e (zm_f39 hM), zm_e ek]
  dsimp only
  refine zm_if (fun _ => l19 0 (fun q => absurd rfl q)) (fun c => l19 1 (fun _ => ?_))
  rcases qk with z | z
  · rw [z] at c
    exact absurd (by decide) c
  · exact z.2.1
