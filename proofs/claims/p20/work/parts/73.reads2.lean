theorem zm_reads250 (d : Nat) {e a : Int} (he : 0 ≤ e ∧ e ≤ 700) (ha : 0 ≤ a) : ∀ (m : Nat) (h : zv_H) (x : Int), zm_M h → zv_I h 347 36 = e → zv_I h 347 32 = a → zv_I h 347 33 = x → e - x ≤ m → a ≤ x → x ≤ e → (x = a → a < e ∧ 48 ≤ zv_I h 366 a.toNat ∧ zv_I h 366 a.toNat ≤ 57) → (0 ≤ zv_I h 347 35 ∧ (x = a → zv_I h 347 35 = 0) ∧ (x = a + 1 → zv_I h 347 35 ≤ 9) ∧ (x = a + 2 → zv_I h 347 35 ≤ 99) ∧ zv_I h 347 35 ≤ 999) → ∃ h', L9_reads_250 (d + 2) 347 h = some (none, h') ∧ zm_rF h h' ∧ zm_RI h' ∧ zv_I h' 347 32 = a ∧ zv_I h' 347 34 ≠ 1
  | m, h, x, hM, e36, e32, e33, hm, hx0, hx1, hk0, hn => by
    rw [qL9_reads_250, zm_e (zm_gI hM 33), e33, zm_e (zm_isOf hM d (by omega) (by rw [e36]; omega) 48 57), e36]
    dsimp only
    by_cases c1 : x < e ∧ 48 ≤ zv_I h 366 x.toNat ∧ zv_I h 366 x.toNat ≤ 57
    · rw [if_pos c1, if_neg (by decide), zm_e (zm_gI hM 33), e33, zm_e (zm_gI hM 32), e32]
      cases m with
      | zero => exact absurd hm (by omega)
      | succ m =>
        have nx : ∀ h1 : zv_H, zm_rF h h1 → zv_I h1 347 36 = e → zv_I h1 347 32 = a → zv_I h1 347 33 = x + 1 → (0 ≤ zv_I h1 347 35 ∧ (x + 1 = a → zv_I h1 347 35 = 0) ∧ (x + 1 = a + 1 → zv_I h1 347 35 ≤ 9) ∧ (x + 1 = a + 2 → zv_I h1 347 35 ≤ 99) ∧ zv_I h1 347 35 ≤ 999) → ∃ h', L9_reads_250 (d + 2) 347 h1 = some (none, h') ∧ zm_rF h h' ∧ zm_RI h' ∧ zv_I h' 347 32 = a ∧ zv_I h' 347 34 ≠ 1 := by
          intro h1 f e36' e32' e33' hn'
          obtain ⟨h', i1, i2, i3⟩ := zm_reads250 d he ha m h1 (x + 1) (zm_F_M f hM) e36' e32' e33' (by omega) (by omega) (by omega) (fun q => by omega) hn'
          exact ⟨h', i1, zm_rF_t f i2, i3⟩
        have stp : ∀ v : Int, (0 ≤ v ∧ (x + 1 = a → v = 0) ∧ (x + 1 = a + 1 → v ≤ 9) ∧ (x + 1 = a + 2 → v ≤ 99) ∧ v ≤ 999) → ∃ h', ((zv_pI h 347 9 35 v).bind fun g13 => (zv_gI g13 347 9 33).bind fun v14 => (zv_pI g13 347 9 33 (zv_w (v14 + 1))).bind fun g15 => L9_reads_250 (d + 2) 347 g15) = some (none, h') ∧ zm_rF h h' ∧ zm_RI h' ∧ zv_I h' 347 32 = a ∧ zv_I h' 347 34 ≠ 1 := by
          intro v hv
          rw [zm_e (zm_pI hM 35 _)]
          have f1 : zm_rF h (zv_sI h 347 35 v) := zm_F_f (zm_F_r _ _ h) rfl v
          have eI : ∀ k, zv_I (zv_sI h 347 35 v) 347 k = if k = 35 then v else zv_I h 347 k := fun k => zm_sgI _ _ _ _
          generalize zv_sI h 347 35 v = h1 at f1 eI
          have hM1 := zm_F_M f1 hM
          rw [zm_e (zm_gI hM1 33), eI, if_neg (by decide), e33, zm_e (zm_pI hM1 33 _), zm_w (by omega)]
          refine nx _ (zm_rF_f f1 (Or.inr (Or.inl rfl)) _) ?_ ?_ ?_ ?_
          · rw [zm_sgI, if_neg (by decide), eI, if_neg (by decide)]
            exact e36
          · rw [zm_sgI, if_neg (by decide), eI, if_neg (by decide)]
            exact e32
          · rw [zm_sgI, if_pos rfl]
          · rw [zm_sgI, if_neg (by decide), eI, if_pos rfl]
            exact hv
        by_cases c2 : zv_w (x - a) < 3
        · have c3 : x - a < 3 := by
            rw [zm_w (by omega)] at c2
            exact c2
          rw [if_pos c2, zm_e (zm_gI hM 35), zm_e (zm_f26 hM), zm_e (zm_gI hM 33), e33, zm_e (zm_aB hM zm_l366 (Or.inr rfl) rfl (by omega) (by omega)), zm_w (x := 10 * zv_I h 347 35) (by omega), zm_w (x := 10 * zv_I h 347 35 + zv_I h 366 x.toNat) (by omega), zm_w (x := 10 * zv_I h 347 35 + zv_I h 366 x.toNat - 48) (by omega)]
          exact stp _ (by omega)
        · have c3 : ¬ x - a < 3 := by
            rw [zm_w (by omega)] at c2
            exact c2
          rw [if_neg c2, zm_e (zm_gI hM 35)]
          exact stp _ (by omega)
    · have hxa : ¬ x = a := by
        intro q
        have k1 := hk0 q
        rw [← q] at k1
        exact c1 k1
      have fin : ∀ v : Int, v ≠ 0 → v ≠ 1 → ∃ h', (((zv_pI h 347 9 34 v).bind fun g => some (none, g)) : zv_O) = some (none, h') ∧ zm_rF h h' ∧ zm_RI h' ∧ zv_I h' 347 32 = a ∧ zv_I h' 347 34 ≠ 1 := by
        intro v v0 v1
        rw [zm_e (zm_pI hM 34 _)]
        have eI : ∀ k, zv_I (zv_sI h 347 34 v) 347 k = if k = 34 then v else zv_I h 347 k := fun k => zm_sgI _ _ _ _
        refine ⟨_, rfl, zm_F_f (zm_F_r _ _ h) rfl v, ?_, by rw [eI, if_neg (by decide)]; exact e32, by rw [eI, if_pos rfl]; exact v1⟩
        unfold zm_RI
        rw [eI 36, eI 32, eI 33, eI 34, eI 35, if_neg (by decide), if_neg (by decide), if_neg (by decide), if_pos rfl, if_neg (by decide), e36, e32, e33]
        exact ⟨he, ⟨ha, by omega, by omega⟩, fun _ => hx1, ⟨hn.1, hn.2.2.2.2⟩, fun q => absurd q v1⟩
      rw [if_neg c1, if_pos rfl, zm_e (zm_gI hM 33), zm_e (zm_gI hM 32)]
      by_cases c2 : zv_w (zv_I h 347 33 - zv_I h 347 32) ≤ 3
      · rw [if_pos c2]
        exact fin 2 (by decide) (by decide)
      · rw [if_neg c2]
        exact fin 4 (by decide) (by decide)
theorem zm_reads110 (d : Nat) {e a : Int} (he : 0 ≤ e ∧ e ≤ 700) (ha : 0 ≤ a ∧ a ≤ e) {h : zv_H} (hM : zm_M h) (e36 : zv_I h 347 36 = e) (e32 : zv_I h 347 32 = a) (e33 : zv_I h 347 33 = a + 1) (hn : 0 ≤ zv_I h 347 35 ∧ zv_I h 347 35 ≤ 999) (v : Int) (hv : v ≠ 0 → a < e) (hv1 : v ≠ 1) : ∃ h', L9_reads_110 (d + 3) 347 347 v h = some (none, h') ∧ zm_rF h h' ∧ zm_RI h' ∧ zv_I h' 347 32 = a := by
  rw [qL9_reads_110, zm_e (zm_pI hM 34 v)]
  have f1 : zm_rF h (zv_sI h 347 34 v) := zm_F_f (zm_F_r _ _ h) rfl v
  have eI : ∀ k, zv_I (zv_sI h 347 34 v) 347 k = if k = 34 then v else zv_I h 347 k := fun k => zm_sgI _ _ _ _
  generalize zv_sI h 347 34 v = h1 at f1 eI
  have hM1 := zm_F_M f1 hM
  have r32 : zv_I h1 347 32 = a := by rw [eI, if_neg (by decide)]; exact e32
  have r33 : zv_I h1 347 33 = a + 1 := by rw [eI, if_neg (by decide)]; exact e33
  have r36 : zv_I h1 347 36 = e := by rw [eI, if_neg (by decide)]; exact e36
  have r34 : zv_I h1 347 34 = v := by rw [eI, if_pos rfl]
  have r35 : zv_I h1 347 35 = zv_I h 347 35 := by rw [eI, if_neg (by decide)]
  have rb : zv_I h1 347 36 ≤ 700 := by rw [r36]; omega
  rw [zm_e (zm_gI hM1 32), r32, zm_e (zm_isOf hM1 _ ha.1 rb 97 122), r36]
  dsimp only
  by_cases c1 : a < e ∧ 97 ≤ zv_I h1 366 a.toNat ∧ zv_I h1 366 a.toNat ≤ 122
  · rw [if_pos c1, if_neg (by decide), zm_e (zm_pI hM1 34 1)]
    have f2 : zm_rF h (zv_sI h1 347 34 1) := zm_rF_f f1 (Or.inr (Or.inr (Or.inl rfl))) 1
    have eI2 : ∀ k, zv_I (zv_sI h1 347 34 1) 347 k = if k = 34 then 1 else zv_I h1 347 k := fun k => zm_sgI _ _ _ _
    have t2 : zv_I (zv_sI h1 347 34 1) 366 = zv_I h1 366 := zm_so _ _ _
    generalize zv_sI h1 347 34 1 = h2 at f2 eI2 t2
    have hM2 := zm_F_M f2 hM
    rw [zm_e (zm_pJ hM2 38 _)]
    have f3 : zm_rF h (zv_sJ h2 347 38 (Int64.ofNat 0)) := zm_F_k f2 rfl _
    have eI3 : ∀ k, zv_I (zv_sJ h2 347 38 (Int64.ofNat 0)) 347 k = zv_I h2 347 k := fun k => rfl
    have t3 : zv_I (zv_sJ h2 347 38 (Int64.ofNat 0)) 366 = zv_I h2 366 := rfl
    have k3 : zv_J (zv_sJ h2 347 38 (Int64.ofNat 0)) 347 38 = Int64.ofNat 0 := zm_sJJ _ _
    generalize zv_sJ h2 347 38 (Int64.ofNat 0) = h3 at f3 eI3 t3 k3
    have hM3 := zm_F_M f3 hM
    have s32 : zv_I h3 347 32 = a := by rw [eI3, eI2, if_neg (by decide)]; exact r32
    rw [zm_e (zm_gI hM3 32), s32, zm_e (zm_pI hM3 33 _)]
    have eI4 : ∀ k, zv_I (zv_sI h3 347 33 a) 347 k = if k = 33 then a else zv_I h3 347 k := fun k => zm_sgI _ _ _ _
    have t4 : zv_I (zv_sI h3 347 33 a) 366 = zv_I h3 366 := zm_so _ _ _
    have k4 : zv_J (zv_sI h3 347 33 a) 347 38 = zv_J h3 347 38 := rfl
    have f4 : zm_rF h (zv_sI h3 347 33 a) := zm_rF_f f3 (Or.inr (Or.inl rfl)) a
    generalize zv_sI h3 347 33 a = h4 at f4 eI4 t4 k4
    obtain ⟨h', i1, i2, i3, i4, _⟩ := zm_reads146 (d + 1) he ha.1 (e - a).toNat h4 a (zm_F_M f4 hM) (by rw [eI4, if_neg (by decide), eI3, eI2, if_neg (by decide)]; exact r36) (by rw [eI4, if_neg (by decide)]; exact s32) (by rw [eI4, if_pos rfl]) (by omega) (Int.le_refl _) (by omega) (by rw [eI4, if_neg (by decide), eI3, eI2, if_pos rfl]) (fun _ => ⟨by rw [k4, k3], by rw [t4, t3, t2]; exact c1⟩) (fun q => by omega) (by rw [eI4, if_neg (by decide), eI3, eI2, if_neg (by decide), r35]; exact hn)
    exact ⟨h', i1, zm_rF_t f4 i2, i3, i4⟩
  · rw [if_neg c1, if_pos rfl, zm_e (zm_gI hM1 32), r32, zm_e (zm_isOf hM1 _ ha.1 rb 48 57), r36]
    dsimp only
    by_cases c2 : a < e ∧ 48 ≤ zv_I h1 366 a.toNat ∧ zv_I h1 366 a.toNat ≤ 57
    · rw [if_pos c2, if_neg (by decide), zm_e (zm_pI hM1 35 0)]
      have f2 : zm_rF h (zv_sI h1 347 35 0) := zm_rF_f f1 (Or.inr (Or.inr (Or.inr rfl))) 0
      have eI2 : ∀ k, zv_I (zv_sI h1 347 35 0) 347 k = if k = 35 then 0 else zv_I h1 347 k := fun k => zm_sgI _ _ _ _
      have t2 : zv_I (zv_sI h1 347 35 0) 366 = zv_I h1 366 := zm_so _ _ _
      generalize zv_sI h1 347 35 0 = h2 at f2 eI2 t2
      have hM2 := zm_F_M f2 hM
      have s32 : zv_I h2 347 32 = a := by rw [eI2, if_neg (by decide)]; exact r32
      rw [zm_e (zm_gI hM2 32), s32, zm_e (zm_pI hM2 33 _)]
      have eI4 : ∀ k, zv_I (zv_sI h2 347 33 a) 347 k = if k = 33 then a else zv_I h2 347 k := fun k => zm_sgI _ _ _ _
      have t4 : zv_I (zv_sI h2 347 33 a) 366 = zv_I h2 366 := zm_so _ _ _
      have f4 : zm_rF h (zv_sI h2 347 33 a) := zm_rF_f f2 (Or.inr (Or.inl rfl)) a
      generalize zv_sI h2 347 33 a = h4 at f4 eI4 t4
      have n4 : zv_I h4 347 35 = 0 := by rw [eI4, if_neg (by decide), eI2, if_pos rfl]
      obtain ⟨h', i1, i2, i3, i4, _⟩ := zm_reads250 (d + 1) he ha.1 (e - a).toNat h4 a (zm_F_M f4 hM) (by rw [eI4, if_neg (by decide), eI2, if_neg (by decide)]; exact r36) (by rw [eI4, if_neg (by decide)]; exact s32) (by rw [eI4, if_pos rfl]) (by omega) (Int.le_refl _) (by omega) (fun _ => by rw [t4, t2]; exact c2) (by rw [n4]; omega)
      exact ⟨h', i1, zm_rF_t f4 i2, i3, i4⟩
    · rw [if_neg c2, if_pos rfl]
      refine ⟨h1, rfl, f1, ?_, r32⟩
      unfold zm_RI
      rw [r36, r32, r33, r34, r35]
      exact ⟨he, ⟨ha.1, by omega, by omega⟩, fun q => by have := hv q; omega, hn, fun q => absurd q hv1⟩
theorem zm_reads60 (d : Nat) {e a : Int} (he : 0 ≤ e ∧ e ≤ 700) (ha : 0 ≤ a ∧ a ≤ e) {h : zv_H} (hM : zm_M h) (e36 : zv_I h 347 36 = e) (e32 : zv_I h 347 32 = a) (hn : 0 ≤ zv_I h 347 35 ∧ zv_I h 347 35 ≤ 999) : ∃ h', L9_reads_60 (d + 4) 347 h = some (none, h') ∧ zm_rF h h' ∧ zm_RI h' ∧ zv_I h' 347 32 = a := by
  rw [qL9_reads_60, zm_e (zm_gI hM 32), e32, zm_e (zm_pI hM 33 _), zm_w (by omega)]
  have f1 : zm_rF h (zv_sI h 347 33 (a + 1)) := zm_F_f (zm_F_r _ _ h) rfl _
  have eI : ∀ k, zv_I (zv_sI h 347 33 (a + 1)) 347 k = if k = 33 then a + 1 else zv_I h 347 k := fun k => zm_sgI _ _ _ _
  generalize zv_sI h 347 33 (a + 1) = h1 at f1 eI
  have hM1 := zm_F_M f1 hM
  have r32 : zv_I h1 347 32 = a := by rw [eI, if_neg (by decide)]; exact e32
  have r33 : zv_I h1 347 33 = a + 1 := by rw [eI, if_pos rfl]
  have r36 : zv_I h1 347 36 = e := by rw [eI, if_neg (by decide)]; exact e36
  have r35 : zv_I h1 347 35 = zv_I h 347 35 := by rw [eI, if_neg (by decide)]
  have go : ∀ v : Int, (v ≠ 0 → a < e) → v ≠ 1 → ∃ h', L9_reads_110 (d + 4) 347 347 v h1 = some (none, h') ∧ zm_rF h h' ∧ zm_RI h' ∧ zv_I h' 347 32 = a := by
    intro v hv hv1
    obtain ⟨h', i1, i2, i3⟩ := zm_reads110 (d + 1) he ha hM1 r36 r32 r33 (by rw [r35]; exact hn) v hv hv1
    exact ⟨h', i1, zm_rF_t f1 i2, i3⟩
  rw [zm_e (zm_gI hM1 32), r32, zm_e (zm_gI hM1 36), r36]
  by_cases c1 : a < e
  · obtain ⟨u, eu⟩ := zm_indexOf h1 d (r := 1000023) (by decide) (zv_i2c (zv_I h1 366 a.toNat))
    rw [if_pos c1, zm_e (zm_f26 hM1), zm_e (zm_gI hM1 32), r32, zm_e (zm_aB hM1 zm_l366 (Or.inr rfl) rfl ha.1 (by omega)), zm_e eu]
    dsimp only
    by_cases c2 : u < 0
    · rw [if_pos c2]
      exact go 4 (fun _ => c1) (by decide)
    · rw [if_neg c2]
      exact go 3 (fun _ => c1) (by decide)
  · rw [if_neg c1]
    exact go 0 (fun q => absurd rfl q) (by decide)
theorem zm_reads8 (d : Nat) {e : Int} (he : 0 ≤ e ∧ e ≤ 700) : ∀ (m : Nat) (a : Int) (h : zv_H), zm_M h → zv_I h 347 36 = e → zv_I h 347 32 = a → 0 ≤ a → a ≤ e → e - a ≤ m → (0 ≤ zv_I h 347 35 ∧ zv_I h 347 35 ≤ 999) → ∃ h', L9_reads_8 (d + 4) 347 h = some (none, h') ∧ zm_rF h h' ∧ zm_RI h' ∧ a ≤ zv_I h' 347 32
  | m, a, h, hM, e36, e32, ha0, ha1, hm, hn => by
    have end_ : ∃ h', L9_reads_60 (d + 4) 347 h = some (none, h') ∧ zm_rF h h' ∧ zm_RI h' ∧ a ≤ zv_I h' 347 32 := by
      obtain ⟨h', i1, i2, i3, i4⟩ := zm_reads60 d he ⟨ha0, ha1⟩ hM e36 e32 hn
      exact ⟨h', i1, i2, i3, by rw [i4]; exact Int.le_refl _⟩
    rw [qL9_reads_8, zm_e (zm_gI hM 32), zm_e (zm_gI hM 36), e32, e36]
    by_cases c1 : a < e
    · cases m with
      | zero => exact absurd hm (by omega)
      | succ m =>
        have nx : ∃ h', ((zv_gI h 347 9 32).bind fun v => (zv_pI h 347 9 32 (zv_w (v + 1))).bind fun g => L9_reads_8 (d + 4) 347 g) = some (none, h') ∧ zm_rF h h' ∧ zm_RI h' ∧ a ≤ zv_I h' 347 32 := by
          rw [zm_e (zm_gI hM 32), e32, zm_e (zm_pI hM 32 _), zm_w (by omega)]
          have f1 : zm_rF h (zv_sI h 347 32 (a + 1)) := zm_F_f (zm_F_r _ _ h) rfl _
          have eI : ∀ k, zv_I (zv_sI h 347 32 (a + 1)) 347 k = if k = 32 then a + 1 else zv_I h 347 k := fun k => zm_sgI _ _ _ _
          obtain ⟨h', i1, i2, i3, i4⟩ := zm_reads8 d he m (a + 1) (zv_sI h 347 32 (a + 1)) (zm_F_M f1 hM) (by rw [eI, if_neg (by decide)]; exact e36) (by rw [eI, if_pos rfl]) (by omega) (by omega) (by omega) (by rw [eI, if_neg (by decide)]; exact hn)
          exact ⟨h', i1, zm_rF_t f1 i2, i3, by omega⟩
        rw [if_pos c1, zm_e (zm_f26 hM), zm_e (zm_gI hM 32), e32, zm_e (zm_aB hM zm_l366 (Or.inr rfl) rfl ha0 (by omega))]
        by_cases c2 : zv_I h 366 a.toNat = 10
        · rw [if_pos c2]
          exact nx
        · rw [if_neg c2, zm_e (zm_f26 hM), zm_e (zm_gI hM 32), e32]
          rw [zm_e (zm_aB hM zm_l366 (Or.inr rfl) rfl ha0 (by omega))]
          by_cases c3 : zv_I h 366 a.toNat = 32
          · rw [if_pos c3]
            exact nx
          · rw [if_neg c3]
            exact end_
    · rw [if_neg c1]
      exact end_
theorem zm_reads (d : Nat) {h : zv_H} (hM : zm_M h) (he : 0 ≤ zv_I h 347 36 ∧ zv_I h 347 36 ≤ 700) (hx : 0 ≤ zv_I h 347 33 ∧ zv_I h 347 33 ≤ zv_I h 347 36) (hn : 0 ≤ zv_I h 347 35 ∧ zv_I h 347 35 ≤ 999) : ∃ h', C9_reads (d + 5) 347 h = some h' ∧ zm_rF h h' ∧ zm_RI h' ∧ zv_I h 347 33 ≤ zv_I h' 347 32 := by
  have main : ∃ h', E9_reads (d + 4) 347 h = some (none, h') ∧ zm_rF h h' ∧ zm_RI h' ∧ zv_I h 347 33 ≤ zv_I h' 347 32 := by
    rw [qE9_reads, zm_e (zm_gI hM 33), zm_e (zm_pI hM 32 _)]
    have f1 : zm_rF h (zv_sI h 347 32 (zv_I h 347 33)) := zm_F_f (zm_F_r _ _ h) rfl _
    have eI : ∀ k, zv_I (zv_sI h 347 32 (zv_I h 347 33)) 347 k = if k = 32 then zv_I h 347 33 else zv_I h 347 k := fun k => zm_sgI _ _ _ _
    obtain ⟨h', i1, i2, i3, i4⟩ := zm_reads8 d he (zv_I h 347 36 - zv_I h 347 33).toNat (zv_I h 347 33) (zv_sI h 347 32 (zv_I h 347 33)) (zm_F_M f1 hM) (by rw [eI, if_neg (by decide)]) (by rw [eI, if_pos rfl]) hx.1 hx.2 (by omega) (by rw [eI, if_neg (by decide)]; exact hn)
    exact ⟨h', i1, zm_rF_t f1 i2, i3, i4⟩
  obtain ⟨h', e, q⟩ := main
  exact ⟨h', lC9_reads (zm_ob hM) e, q⟩
