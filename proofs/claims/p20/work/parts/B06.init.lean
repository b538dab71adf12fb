/-! ===== the tie: the object and the reference, as they are made ===== -/
theorem zt_sc_o {b m : Nat} {wd : Nat → Int} {h h' : zv_H} (S : zt_sc b m wd h) (o : ∀ r, b ≤ r → r < b + 169 → zk_o h h' r) : zt_sc b m wd h' := by
  have hb := zt_sc_la S
  have eI : ∀ x i, x < 169 → zv_I h' (b + x) i = zv_I h (b + x) i := fun x i hx => congrFun (o (b + x) (by omega) (by omega)).1 i
  have eJ : ∀ x i, x < 169 → zv_J h' (b + x) i = zv_J h (b + x) i := fun x i hx => congrFun (o (b + x) (by omega) (by omega)).2.1 i
  have eR : ∀ x i, x < 169 → zv_R h' (b + x) i = zv_R h (b + x) i := fun x i hx => congrFun (o (b + x) (by omega) (by omega)).2.2 i
  have eS : ∀ j i, j < 48 → zv_I h' (zc_stt b j) i = zv_I h (zc_stt b j) i := fun j i hj => by
    have := zc_sttb (a := b) hj
    exact congrFun (o (zc_stt b j) (by omega) (by omega)).1 i
  have l1 : (1 : Nat) < 169 := by decide
  exact ⟨hb, fun i hi => (eS i 0 hi).trans (zt_sc_nr S i hi), fun i hi => (eS i 3 hi).trans (zt_sc_lv S i hi), (eR 1 _ l1).trans (zt_sc_pa S), (eR 1 _ l1).trans (zt_sc_fi S), (eI 1 _ l1).trans (zt_sc_i6 S), (eI 1 _ l1).trans (zt_sc_i7 S), (eI 1 _ l1).trans (zt_sc_i8 S), (eI 1 _ l1).trans (zt_sc_i9 S), (eI 1 _ l1).trans (zt_sc_ia S), (eI 1 _ l1).trans (zt_sc_ib S), (eI 1 _ l1).trans (zt_sc_ic S), (eI 1 _ l1).trans (zt_sc_id S), (eI 1 _ l1).trans (zt_sc_ie S), (eJ 1 _ l1).trans (zt_sc_jg S), (eJ 1 _ l1).trans (zt_sc_jh S), fun i hi => (eI 5 i (by decide)).trans (zt_sc_gl S i hi), fun i hi => (eI 3 i (by decide)).trans (zt_sc_dc S i hi), (eR 0 _ (by decide)).trans (zt_sc_he S), (eI 0 _ (by decide)).trans (zt_sc_nw S), (eI 0 _ (by decide)).trans (zt_sc_ct S), (eI 14 _ (by decide)).trans (zt_sc_ns S), (eI 17 _ (by decide)).trans (zt_sc_vs S)⟩
/-- a History that was made all anew -/
theorem zt_from {a : Nat} {h : zv_H} (ha : zv_lay a = (1, 0)) (f : zk_from a h) : zt_sc a 0 (fun _ => 0) h ∧ zt_T0 a zt_usual h := by
  obtain ⟨d, z, hb, B, n0, e, o⟩ := f
  obtain ⟨hb', e', x⟩ := zt_begin (d := d) ha B
  have eb : hb' = hb := Option.some.inj (e'.symm.trans e)
  subst eb
  refine ⟨zt_sc_o (zt_sc_bx ha x n0) o, ?_⟩
  have T := zt_bx_T x
  have eI : ∀ y i, y < 169 → zv_I h (a + y) i = zv_I hb' (a + y) i := fun y i hy => congrFun (o (a + y) (by omega) (by omega)).1 i
  refine ⟨(eI 22 3 (by decide)).trans (zt_T0_sz T), fun k v hk => ?_, zt_T0_rg T⟩
  rw [eI 23 k (by decide), eI 24 k (by decide)]
  exact zt_T0_st T k v hk
/-- both as they are made -/
theorem zk_GG {g2 g4 z : zv_H} {d : Nat} (b8 : zk_ob8 g2) (o : ∀ r, r < 347 → zk_o g2 g4 r) (M4 : zm_MI g4) (t4 : zv_I g4 347 27 = 0) (hz : zm_M z) (e : C9_clears (d + 2) 347 z = some g4) (hk : ∀ k, zv_I z 347 k = if k = 29 then -1 else if k = 28 then -1 else 0) : zt_GG 0 9 178 g4 g4 := by
  obtain ⟨i0, q1, q2, q3, f9, f178, q4, q5, fr9, fr178⟩ := b8
  have l9 : zv_lay 9 = (1, 0) := rfl
  have l178 : zv_lay 178 = (1, 0) := rfl
  obtain ⟨S, T⟩ := zt_from l9 (zk_from_o fr9 (fun r h1 h2 => o r (by omega)))
  obtain ⟨g5, e5, F5, A, c4⟩ := zt_clears hz d
  have eg : g5 = g4 := Option.some.inj (e5.symm.trans e)
  subst eg
  have W : zm_W (zv_I g5 348) := M4.2.1
  obtain ⟨U, V, N⟩ := zt_alone A (by decide) S W
  have J : zt_J 9 (zv_I g5 348) g5 := ⟨zt_usual, ⟨zt_T0_sz T, by decide, zt_T0_st T, zt_T0_rg T, zt_us_ph⟩, Or.inl ⟨c4, rfl⟩⟩
  have eR : ∀ i, zv_R g5 1 i = zv_R g2 1 i := fun i => congrFun (o 1 (by decide)).2.2 i
  have F178 := zk_fresh_o (Or.inr rfl) f178 (fun r h1 h2 => o r (by omega))
  refine ⟨(eR 3).trans q2, (eR 4).trans q3, Or.inl ⟨rfl, rfl⟩, ⟨U, J, V, N⟩, fun i hi => (F178.2 i hi).2.1, fun i hi => ?_, ?_, ?_, Or.inl ⟨(congrFun (o 1 (by decide)).1 7).trans q5, ?_, ?_⟩, ⟨0, ?_, by decide, ⟨rfl, rfl, by decide, ?_, fun j hj => absurd hj (Nat.not_lt_zero j)⟩, fun j hj => absurd hj (Nat.not_lt_zero j)⟩⟩
  · rw [t4] at hi
    omega
  · rw [zt_sa_e1 A]
    omega
  · rw [zt_sa_e2 A]
    omega
  · rw [zm_F_g F5 28, hk]
    rfl
  · rw [zm_F_g F5 29, hk]
    rfl
  · rw [zm_F_g F5 20, hk]
    rfl
  · exact (congrFun (o 3 (by decide)).1 1).trans (i0.2.1 3 7 1 40 rfl rfl)
