/-! ===== the tie: a START with letters ===== -/
/-- what it changes in the class -/
def zt_sw (b : Nat) (g g' : zv_H) : Prop := g'.1 = g.1 ∧ g'.2.2 = g.2.2 ∧ ∀ r k, ¬ (r = b + 1 ∧ (k = 9 ∨ k = 12)) → r ≠ b + 3 → r ≠ b + 5 → zv_I g' r k = zv_I g r k
theorem zt_sw_21 {d b m : Nat} {wd : Nat → Int} (hb : zv_lay b = (1, 0)) (hm : m ≤ 40) : ∀ (n i : Nat) (g : zv_H), i + n = m → zt_L g → zt_wd 7 m wd g → zv_I g (b + 1) 12 = i → (∀ j, j < i → zv_I g (b + 3) j = j ∧ zv_I g (b + 5) j = wd j) → ∃ g', L0_startWith_21 (d + 2) b 7 (i : Int) g = some (none, g') ∧ zt_sw b g g' ∧ zv_I g' (b + 1) 12 = m ∧ zv_I g' (b + 1) 9 = zv_I g (b + 1) 9 ∧ ∀ j, j < m → zv_I g' (b + 3) j = j ∧ zv_I g' (b + 5) j = wd j := by
  have hb' := zc_lh hb
  have ls : zv_lay (b + 1) = (1, 5) := (zc_stl hb (show 0 < 48 by decide)).1
  intro n
  induction n with
  | zero =>
    intro i g hi gL w h12 hj
    have e : i = m := hi
    subst e
    refine ⟨g, ?_, ⟨rfl, rfl, fun _ _ _ _ _ => rfl⟩, h12, rfl, hj⟩
    rw [qL0_startWith_21, zm_e (zl_gI gL zt_lay7 1), zt_wd_sz w, if_neg (Int.lt_irrefl _)]
  | succ n ih =>
    intro i g hi gL w h12 hj
    have im : i < m := by omega
    have iI : (i : Int) < (m : Int) := Int.ofNat_lt.mpr im
    have e1 : C4_id (d + 2) 0 (i : Int) g = some ((i : Int), g) := by
      rw [zt_C4_id (d := d + 1) (s := 0) (by decide) (by omega)]
      rfl
    have e2 := zt_C7_at (d := d + 1) gL w im
    have e3 := zt_C0_setGlyph (d := d + 1) gL hb (i := (i : Int)) (by omega) (wd i)
    rw [Int.toNat_natCast] at e3
    have L3 : zt_L (zv_sI g (b + 5) i (wd i)) := gL
    have h12' : zv_I (zv_sI g (b + 5) i (wd i)) (b + 1) 12 = i := (zy_In _ _ (fun q => absurd q.1 (by omega))).trans h12
    have e5 := zt_C5_addId (d := d + 1) L3 ls h12' (by omega) (i : Int)
    have eR : zv_gR (zv_sI g (b + 5) i (wd i)) b 0 0 = some (b + 1) := zl_gF L3 hb 0 1
    have w1 : zv_w ((i : Int) + 1) = ((i + 1 : Nat) : Int) := zt_tkw (by omega)
    rw [qL0_startWith_21, zm_e (zl_gI gL zt_lay7 1), zt_wd_sz w, if_pos iI, zm_e e1]
    dsimp only
    rw [zm_e e2]
    dsimp only
    rw [zm_e e3, zm_e eR, zm_e e5, w1]
    have e3' : b + 1 + 2 = b + 3 := rfl
    rw [e3']
    have sw : zt_sw b g (zv_sI (zv_sI (zv_sI g (b + 5) i (wd i)) (b + 3) i (i : Int)) (b + 1) 12 ((i : Int) + 1)) := ⟨rfl, rfl, fun r k q1 q2 q3 => by rw [zy_In _ _ (fun q => q1 ⟨q.1, Or.inr q.2⟩), zy_In _ _ (fun q => q2 q.1), zy_In _ _ (fun q => q3 q.1)]⟩
    have x12 : zv_I (zv_sI (zv_sI (zv_sI g (b + 5) i (wd i)) (b + 3) i (i : Int)) (b + 1) 12 ((i : Int) + 1)) (b + 1) 12 = ((i + 1 : Nat) : Int) := zy_I _ _ _ _
    have x9 : zv_I (zv_sI (zv_sI (zv_sI g (b + 5) i (wd i)) (b + 3) i (i : Int)) (b + 1) 12 ((i : Int) + 1)) (b + 1) 9 = zv_I g (b + 1) 9 := by rw [zy_In _ _ (fun q => absurd q.2 (by decide)), zy_In _ _ (fun q => absurd q.1 (by omega)), zy_In _ _ (fun q => absurd q.1 (by omega))]
    have xj : ∀ j, j < i + 1 → zv_I (zv_sI (zv_sI (zv_sI g (b + 5) i (wd i)) (b + 3) i (i : Int)) (b + 1) 12 ((i : Int) + 1)) (b + 3) j = j ∧ zv_I (zv_sI (zv_sI (zv_sI g (b + 5) i (wd i)) (b + 3) i (i : Int)) (b + 1) 12 ((i : Int) + 1)) (b + 5) j = wd j := fun j hj2 => by
      have a1 : zv_I (zv_sI (zv_sI (zv_sI g (b + 5) i (wd i)) (b + 3) i (i : Int)) (b + 1) 12 ((i : Int) + 1)) (b + 3) j = zv_I (zv_sI (zv_sI g (b + 5) i (wd i)) (b + 3) i (i : Int)) (b + 3) j := zy_In _ _ (fun q => absurd q.1 (by omega))
      have a2 : zv_I (zv_sI (zv_sI (zv_sI g (b + 5) i (wd i)) (b + 3) i (i : Int)) (b + 1) 12 ((i : Int) + 1)) (b + 5) j = zv_I (zv_sI g (b + 5) i (wd i)) (b + 5) j := (zy_In _ _ (fun q => absurd q.1 (by omega))).trans (zy_In _ _ (fun q => absurd q.1 (by omega)))
      rw [a1, a2]
      by_cases c : j = i
      · rw [c, zy_I, zy_I]
        exact ⟨rfl, rfl⟩
      · rw [zy_In _ _ (fun q => c q.2), zy_In _ _ (fun q => c q.2), zy_In _ _ (fun q => absurd q.1 (by omega))]
        exact hj j (by omega)
    have wd' : zt_wd 7 m wd (zv_sI (zv_sI (zv_sI g (b + 5) i (wd i)) (b + 3) i (i : Int)) (b + 1) 12 ((i : Int) + 1)) := ⟨zt_wd_l7 w, zt_wd_la w, zt_wd_m12 w, (sw.2.2 7 1 (fun q => by omega) (by omega) (by omega)).trans (zt_wd_sz w), fun j hj => (sw.2.2 (7 + 1) j (fun q => by omega) (by omega) (by omega)).trans (zt_wd_lt w j hj)⟩
    have gL' : zt_L (zv_sI (zv_sI (zv_sI g (b + 5) i (wd i)) (b + 3) i (i : Int)) (b + 1) 12 ((i : Int) + 1)) := gL
    generalize zv_sI (zv_sI (zv_sI g (b + 5) i (wd i)) (b + 3) i (i : Int)) (b + 1) 12 ((i : Int) + 1) = g1 at sw x12 x9 xj wd' gL'
    obtain ⟨g', y1, y2, y3, y4, y5⟩ := ih (i + 1) g1 (by omega) gL' wd' x12 xj
    exact ⟨g', y1, ⟨y2.1.trans sw.1, y2.2.1.trans sw.2.1, fun r k q1 q2 q3 => (y2.2.2 r k q1 q2 q3).trans (sw.2.2 r k q1 q2 q3)⟩, y3, y4.trans x9, y5⟩
theorem zt_startWith {d b m : Nat} {wd wd0 : Nat → Int} {g : zv_H} (gL : zt_L g) (B : zt_sc b 0 wd0 g) (w : zt_wd 7 m wd g) : ∃ g', C0_startWith (d + 3) b 7 g = some g' ∧ zt_sw b g g' ∧ zt_sc b m wd g' := by
  have hb := zt_sc_la B
  have hb' := zc_lh hb
  have ls : zv_lay (b + 1) = (1, 5) := (zc_stl hb (show 0 < 48 by decide)).1
  have s0 : zt_sw b g (zv_sI (zv_sI g (b + 1) 9 (m : Int)) (b + 1) 12 0) := ⟨rfl, rfl, fun r k q1 q2 q3 => by rw [zy_In _ _ (fun q => q1 ⟨q.1, Or.inr q.2⟩), zy_In _ _ (fun q => q1 ⟨q.1, Or.inl q.2⟩)]⟩
  have x12 : zv_I (zv_sI (zv_sI g (b + 1) 9 (m : Int)) (b + 1) 12 0) (b + 1) 12 = ((0 : Nat) : Int) := zy_I _ _ _ _
  have x9 : zv_I (zv_sI (zv_sI g (b + 1) 9 (m : Int)) (b + 1) 12 0) (b + 1) 9 = (m : Int) := by rw [zy_In _ _ (fun q => absurd q.2 (by decide)), zy_I]
  have gL1 : zt_L (zv_sI (zv_sI g (b + 1) 9 (m : Int)) (b + 1) 12 0) := gL
  have wd1 : zt_wd 7 m wd (zv_sI (zv_sI g (b + 1) 9 (m : Int)) (b + 1) 12 0) := ⟨zt_wd_l7 w, zt_wd_la w, zt_wd_m12 w, (s0.2.2 7 1 (fun q => by omega) (by omega) (by omega)).trans (zt_wd_sz w), fun j hj => (s0.2.2 (7 + 1) j (fun q => by omega) (by omega) (by omega)).trans (zt_wd_lt w j hj)⟩
  have top : E0_startWith (d + 2) b 7 g = L0_startWith_21 (d + 2) b 7 ((0 : Nat) : Int) (zv_sI (zv_sI g (b + 1) 9 (m : Int)) (b + 1) 12 0) := by
    have eR : zv_gR g b 0 0 = some (b + 1) := zl_gF gL hb 0 1
    have eR2 : zv_gR (zv_sI g (b + 1) 9 (m : Int)) b 0 0 = some (b + 1) := zl_gF (g := zv_sI g (b + 1) 9 (m : Int)) gL hb 0 1
    rw [qE0_startWith, zm_e eR, zm_e (zl_gI gL zt_lay7 1), zt_wd_sz w, zm_e (zl_pI gL ls 9 _), zm_e eR2, zm_e (zl_pI (g := zv_sI g (b + 1) 9 (m : Int)) gL ls 12 _)]
    rfl
  generalize zv_sI (zv_sI g (b + 1) 9 (m : Int)) (b + 1) 12 0 = g1 at s0 x12 x9 gL1 wd1 top
  obtain ⟨g', y1, y2, y3, y4, y5⟩ := zt_sw_21 (d := d) hb (zt_wd_m12 w) m 0 g1 (Nat.zero_add m) gL1 wd1 x12 (fun j hj => absurd hj (Nat.not_lt_zero j))
  have sw : zt_sw b g g' := ⟨y2.1.trans s0.1, y2.2.1.trans s0.2.1, fun r k q1 q2 q3 => (y2.2.2 r k q1 q2 q3).trans (s0.2.2 r k q1 q2 q3)⟩
  have eJ : ∀ r k, zv_J g' r k = zv_J g r k := fun r k => by unfold zv_J; rw [sw.2.1]
  have eR : ∀ r k, zv_R g' r k = zv_R g r k := fun r k => by unfold zv_R; rw [sw.2.1]
  have l3 : zv_lay (b + 3) ≠ (1, 5) := by
    have := (zc_l5 ls).2
    rw [show b + 1 + 2 = b + 3 from rfl] at this
    rw [this]
    decide
  have l5 : zv_lay (b + 5) ≠ (1, 5) := by rcases hb' with q | q <;> rw [q] <;> decide
  have st : ∀ i k, i < 48 → ¬ (k = 9 ∨ k = 12) → zv_I g' (zc_stt b i) k = zv_I g (zc_stt b i) k := fun i k hi hk => sw.2.2 _ k (fun q => hk q.2) (fun e => l3 (by rw [← e]; exact (zc_stl hb hi).1)) (fun e => l5 (by rw [← e]; exact (zc_stl hb hi).1))
  have s1 : ∀ k, ¬ (k = 9 ∨ k = 12) → zv_I g' (b + 1) k = zv_I g (b + 1) k := fun k hk => sw.2.2 _ k (fun q => hk q.2) (by omega) (by omega)
  refine ⟨g', lC0_startWith (zl_ob gL hb) (top.trans y1), sw, hb, fun i hi => (st i 0 hi (by decide)).trans (zt_sc_nr B i hi), fun i hi => (st i 3 hi (by decide)).trans (zt_sc_lv B i hi), (eR _ _).trans (zt_sc_pa B), (eR _ _).trans (zt_sc_fi B), (s1 6 (by decide)).trans (zt_sc_i6 B), (s1 7 (by decide)).trans (zt_sc_i7 B), (s1 8 (by decide)).trans (zt_sc_i8 B), y4.trans x9, (s1 10 (by decide)).trans (zt_sc_ia B), (s1 11 (by decide)).trans (zt_sc_ib B), y3, (s1 13 (by decide)).trans (zt_sc_id B), (s1 15 (by decide)).trans (zt_sc_ie B), (eJ _ _).trans (zt_sc_jg B), (eJ _ _).trans (zt_sc_jh B), fun i hi => (y5 i hi).2, fun i hi => (y5 i hi).1, (eR _ _).trans (zt_sc_he B), ?_, ?_, ?_, ?_⟩
  · exact (sw.2.2 b 11 (fun q => by omega) (by omega) (by omega)).trans (zt_sc_nw B)
  · exact (sw.2.2 b 12 (fun q => by omega) (by omega) (by omega)).trans (zt_sc_ct B)
  · exact (sw.2.2 (b + 14) 2 (fun q => by omega) (by omega) (by omega)).trans (zt_sc_ns B)
  · exact (sw.2.2 (b + 17) 4 (fun q => by omega) (by omega) (by omega)).trans (zt_sc_vs B)
/-- the reference writes the letters -/
theorem zt_104 {D m : Nat} (hm : m ≤ 40) : ∀ (n i : Nat) (k : zv_H), i + n = m → zm_M k → zv_I k 347 30 = 0 → zv_I k 347 19 = m → ∃ k', L9_load_104 (D + 1) 347 (i : Int) k = L9_load_140 (D + 1) 347 k' ∧ zm_F [348] [] k k' ∧ (∀ x, ¬ (444 + i ≤ x ∧ x < 444 + m) → zv_I k' 348 x = zv_I k 348 x) ∧ ∀ j, i ≤ j → j < m → zv_I k' 348 (444 + j) = zv_I k 360 j := by
  intro n
  induction n with
  | zero =>
    intro i k hi hM h30 h19
    have e : i = m := hi
    subst e
    refine ⟨k, ?_, zm_F_r _ _ k, fun _ _ => rfl, fun j h1 h2 => absurd h1 (Nat.not_le.mpr h2)⟩
    rw [qL9_load_104, zm_e (zm_gI hM 19), h19, if_neg (Int.lt_irrefl _)]
  | succ n ih =>
    intro i k hi hM h30 h19
    have im : i < m := by omega
    have iI : (i : Int) < (m : Int) := Int.ofNat_lt.mpr im
    have w12 : zv_w (12 + (i : Int)) = ((12 + i : Nat) : Int) := by rw [zm_w (by omega)]; rfl
    have w1 : zv_w ((i : Int) + 1) = ((i + 1 : Nat) : Int) := zt_tkw (by omega)
    have F1 : zm_F [348] [] k (zv_sI k 348 (444 + i) (zv_I k 360 i)) := zm_F_I (zm_F_r _ _ k) rfl _ _
    have es : C9_sets (D + 1) 347 0 ((12 + i : Nat) : Int) (zv_I k 360 i) k = some (zv_sI k 348 (444 + i) (zv_I k 360 i)) := by
      rw [zm_sets hM D (by decide) (by omega) _, Int.toNat_natCast, show 432 + 76 * Int.toNat 0 + (12 + i) = 444 + i by
        show 432 + 76 * 0 + (12 + i) = 444 + i
        omega]
    have top : L9_load_104 (D + 1) 347 (i : Int) k = L9_load_104 (D + 1) 347 ((i + 1 : Nat) : Int) (zv_sI k 348 (444 + i) (zv_I k 360 i)) := by
      rw [qL9_load_104, zm_e (zm_gI hM 19), h19, if_pos iI, zm_e (zm_gI hM 30), h30, if_pos rfl, zm_e (zm_f17 hM), zm_e (zm_aI hM zm_l360 rfl (Int.natCast_nonneg _) (by omega)), Int.toNat_natCast, w12, zm_e es, w1]
    have c1 : ∀ x, zv_I (zv_sI k 348 (444 + i) (zv_I k 360 i)) 348 x = if x = 444 + i then zv_I k 360 i else zv_I k 348 x := fun x => by
      by_cases q : x = 444 + i
      · rw [q, zy_I, if_pos rfl]
      · rw [zy_In _ _ (fun z => q z.2), if_neg q]
    generalize zv_sI k 348 (444 + i) (zv_I k 360 i) = k1 at F1 es top c1
    obtain ⟨k', y1, y2, y3, y4⟩ := ih (i + 1) k1 (by omega) (zm_F_M F1 hM) ((zm_F_g F1 30).trans h30) ((zm_F_g F1 19).trans h19)
    refine ⟨k', top.trans y1, zm_F_t F1 y2, fun x hx => ?_, fun j h1 h2 => ?_⟩
    · rw [y3 x (fun q => hx (by omega)), c1, if_neg (fun q => hx (by omega))]
    · by_cases c : j = i
      · rw [c, y3 (444 + i) (fun q => by omega), c1, if_pos rfl]
      · rw [y4 j (by omega) h2, zm_F_a F1 360]
theorem zt_140 {D : Nat} {k : zv_H} (hM : zm_M k) {m : Int} (h19 : zv_I k 347 19 = m) : L9_load_140 (D + 1) 347 k = (C9_takes (D + 1) 347 59 (zv_sI k 348 437 m)).bind fun g3 => L9_load_156 (D + 1) 347 g3 := by
  rw [qL9_load_140, zm_e (zm_gI hM 19), h19, zm_e (zm_sets hM D (by decide) (by decide) _)]
  rfl
/-- a START alone, with its letters -/
theorem zt_sa_m {c c' : Nat → Int} {m : Nat} {wd wd0 : Nat → Int} (A : zt_sa c 0 wd0) (e5 : c' 437 = m) (el : ∀ j, j < m → c' (444 + j) = wd j) (eo : ∀ x, x ≠ 437 → ¬ (444 ≤ x ∧ x < 444 + m) → c' x = c x) (hm : m ≤ 40) : zt_sa c' m wd := by
  have o : ∀ w : Int, 0 ≤ w → w < 12 → w ≠ 5 → zm_o c' 0 w = zm_o c 0 w := fun w h0 h1 h2 => eo _ (by show 432 + 76 * Int.toNat 0 + w.toNat ≠ 437; rw [show 432 + 76 * Int.toNat 0 = 432 from rfl]; omega) (by rw [show 432 + 76 * Int.toNat 0 = 432 from rfl]; omega)
  have O := zt_sa_O A
  refine ⟨⟨fun s s0 s1 => ?_, ⟨(o 1 (by decide) (by decide) (by decide)).trans O.2.1.1, (o 2 (by decide) (by decide) (by decide)).trans O.2.1.2.1, e5, (o 8 (by decide) (by decide) (by decide)).trans O.2.1.2.2.2⟩, (eo 0 (by decide) (by omega)).trans O.2.2.1, (eo 3 (by decide) (by omega)).trans O.2.2.2.1, (eo 5 (by decide) (by omega)).trans O.2.2.2.2⟩, (eo 1 (by decide) (by omega)).trans (zt_sa_e1 A), (eo 2 (by decide) (by omega)).trans (zt_sa_e2 A), (o 3 (by decide) (by decide) (by decide)).trans (zt_sa_o3 A), (o 4 (by decide) (by decide) (by decide)).trans (zt_sa_o4 A), (o 6 (by decide) (by decide) (by decide)).trans (zt_sa_o6 A), (o 7 (by decide) (by decide) (by decide)).trans (zt_sa_o7 A), (o 10 (by decide) (by decide) (by decide)).trans (zt_sa_oa A), (o 11 (by decide) (by decide) (by decide)).trans (zt_sa_ob A), fun i hi => ?_⟩
  · have e : zm_o c' s 0 = zm_o c s 0 := eo _ (by show 432 + 76 * s.toNat + Int.toNat 0 ≠ 437; rw [show Int.toNat 0 = 0 from rfl]; omega) (by rw [show Int.toNat 0 = 0 from rfl]; omega)
    rw [e]
    exact O.1 s s0 s1
  · have e : zm_o c' 0 (12 + (i : Int)) = c' (444 + i) := by
      unfold zm_o
      rw [show 432 + 76 * Int.toNat 0 = 432 from rfl, show (12 + (i : Int)).toNat = 12 + i by omega, ← Nat.add_assoc]
    rw [e]
    exact el i hi
