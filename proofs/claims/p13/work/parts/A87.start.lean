/-! A87.start -/
section
/-! ===== the tie: a START with letters ===== -/
/-- what it changes in the class -/
def zt_sw (b : Nat) (g g' : zv_H) : Prop := g'.1 = g.1 ∧ g'.2.2 = g.2.2 ∧ ∀ r k, ¬ (r = b + 1 ∧ (k = 9 ∨ k = 12)) → r ≠ b + 3 → r ≠ b + 5 → zv_I g' r k = zv_I g r k
theorem zt_sw_21 {d b m : Nat} {wd : Nat → Int} (hb : zv_lay b = (1, 0)) (hm : m ≤ 40) : ∀ (n i : Nat) (g : zv_H), i + n = m → zt_L g → zt_wd 7 m wd g → zv_I g (b + 1) 12 = i → (∀ j, j < i → zv_I g (b + 3) j = j ∧ zv_I g (b + 5) j = wd j) → ∃ g', L0_startWith_21 (d + 2) b 7 (i : Int) g = some (none, g') ∧ zt_sw b g g' ∧ zv_I g' (b + 1) 12 = m ∧ zv_I g' (b + 1) 9 = zv_I g (b + 1) 9 ∧ ∀ j, j < m → zv_I g' (b + 3) j = j ∧ zv_I g' (b + 5) j = wd j := by
  have hb' := zc_lh hb
  have ls : zv_lay (b + 1) = (1, 5) := (zc_stl hb (show 0 < 48 by decide)).1
  intro n
  induction n with
  | zero =>
    intro i g hi gL w h12 hj
    have e : i = m := hi
    subst e
    refine ⟨g, ?_, ⟨rfl, rfl, fun _ _ _ _ _ => rfl⟩, h12, rfl, hj⟩
    rw [qL0_startWith_21, zm_e (zl_gI gL zt_lay7 1), zt_wd_sz w, if_neg (Int.lt_irrefl _)]
  | succ n ih =>
    intro i g hi gL w h12 hj
    have im : i < m := by omega
    have iI : (i : Int) < (m : Int) := Int.ofNat_lt.mpr im
    have e1 : C4_id (d + 2) 0 (i : Int) g = some ((i : Int), g) := by
      rw [zt_C4_id (d := d + 1) (s := 0) (by decide) (by omega)]
      rfl
    have e2 := zt_C7_at (d := d + 1) gL w im
    have e3 := zt_C0_setGlyph (d := d + 1) gL hb (i := (i : Int)) (by omega) (wd i)
    rw [Int.toNat_natCast] at e3
    have L3 : zt_L (zv_sI g (b + 5) i (wd i)) := gL
    have h12' : zv_I (zv_sI g (b + 5) i (wd i)) (b + 1) 12 = i := (zy_In _ _ (fun q => absurd q.1 (by omega))).trans h12
    have e5 := zt_C5_addId (d := d + 1) L3 ls h12' (by omega) (i : Int)
    have eR : zv_gR (zv_sI g (b + 5) i (wd i)) b 0 0 = some (b + 1) := zl_gF L3 hb 0 1
    have w1 : zv_w ((i : Int) + 1) = ((i + 1 : Nat) : Int) := zt_tkw (by omega)
    rw [qL0_startWith_21, zm_e (zl_gI gL zt_lay7 1), zt_wd_sz w, if_pos iI, zm_e e1]
    dsimp only
    rw [zm_e e2]
    dsimp only
    rw [zm_e e3, zm_e eR, zm_e e5, w1]
    have e3' : b + 1 + 2 = b + 3 := rfl
    rw [e3']
    have sw : zt_sw b g (zv_sI (zv_sI (zv_sI g (b + 5) i (wd i)) (b + 3) i (i : Int)) (b + 1) 12 ((i : Int) + 1)) := ⟨rfl, rfl, fun r k q1 q2 q3 => by rw [zy_In _ _ (fun q => q1 ⟨q.1, Or.inr q.2⟩), zy_In _ _ (fun q => q2 q.1), zy_In _ _ (fun q => q3 q.1)]⟩
    have x12 : zv_I (zv_sI (zv_sI (zv_sI g (b + 5) i (wd i)) (b + 3) i (i : Int)) (b + 1) 12 ((i : Int) + 1)) (b + 1) 12 = ((i + 1 : Nat) : Int) := zy_I _ _ _ _
    have x9 : zv_I (zv_sI (zv_sI (zv_sI g (b + 5) i (wd i)) (b + 3) i (i : Int)) (b + 1) 12 ((i : Int) + 1)) (b + 1) 9 = zv_I g (b + 1) 9 := by rw [zy_In _ _ (fun q => absurd q.2 (by decide)), zy_In _ _ (fun q => absurd q.1 (by omega)), zy_In _ _ (fun q => absurd q.1 (by omega))]
    have xj : ∀ j, j < i + 1 → zv_I (zv_sI (zv_sI (zv_sI g (b + 5) i (wd i)) (b + 3) i (i : Int)) (b + 1) 12 ((i : Int) + 1)) (b + 3) j = j ∧ zv_I (zv_sI (zv_sI (zv_sI g (b + 5) i (wd i)) (b + 3) i (i : Int)) (b + 1) 12 ((i : Int) + 1)) (b + 5) j = wd j := fun j hj2 => by
      have a1 : zv_I (zv_sI (zv_sI (zv_sI g (b + 5) i (wd i)) (b + 3) i (i : Int)) (b + 1) 12 ((i : Int) + 1)) (b + 3) j = zv_I (zv_sI (zv_sI g (b + 5) i (wd i)) (b + 3) i (i : Int)) (b + 3) j := zy_In _ _ (fun q => absurd q.1 (by omega))
      have a2 : zv_I (zv_sI (zv_sI (zv_sI g (b + 5) i (wd i)) (b + 3) i (i : Int)) (b + 1) 12 ((i : Int) + 1)) (b + 5) j = zv_I (zv_sI g (b + 5) i (wd i)) (b + 5) j := (zy_In _ _ (fun q => absurd q.1 (by omega))).trans (zy_In _ _ (fun q => absurd q.1 (by omega)))
      rw [a1, a2]
      by_cases c : j = i
      · rw [c, zy_I, zy_I]
        exact ⟨rfl, rfl⟩
      · rw [zy_In _ _ (fun q => c q.2), zy_In _ _ (fun q => c q.2), zy_In _ _ (fun q => absurd q.1 (by omega))]
        exact hj j (by omega)
    have wd' : zt_wd 7 m wd (zv_sI (zv_sI (zv_sI g (b + 5) i (wd i)) (b + 3) i (i : Int)) (b + 1) 12 ((i : Int) + 1)) := ⟨zt_wd_l7 w, zt_wd_la w, zt_wd_m12 w, (sw.2.2 7 1 (fun q => by omega) (by omega) (by omega)).trans (zt_wd_sz w), fun j hj => (sw.2.2 (7 + 1) j (fun q => by omega) (by omega) (by omega)).trans (zt_wd_lt w j hj)⟩
    have gL' : zt_L (zv_sI (zv_sI (zv_sI g (b + 5) i (wd i)) (b + 3) i (i : Int)) (b + 1) 12 ((i : Int) + 1)) := gL
    generalize zv_sI (zv_sI (zv_sI g (b + 5) i (wd i)) (b + 3) i (i : Int)) (b + 1) 12 ((i : Int) + 1) = g1 at sw x12 x9 xj wd' gL'
    obtain ⟨g', y1, y2, y3, y4, y5⟩ := ih (i + 1) g1 (by omega) gL' wd' x12 xj
    exact ⟨g', y1, ⟨y2.1.trans sw.1, y2.2.1.trans sw.2.1, fun r k q1 q2 q3 => (y2.2.2 r k q1 q2 q3).trans (sw.2.2 r k q1 q2 q3)⟩, y3, y4.trans x9, y5⟩
theorem zt_startWith {d b m : Nat} {wd wd0 : Nat → Int} {g : zv_H} (gL : zt_L g) (B : zt_sc b 0 wd0 g) (w : zt_wd 7 m wd g) : ∃ g', C0_startWith (d + 3) b 7 g = some g' ∧ zt_sw b g g' ∧ zt_sc b m wd g' := by
  have hb := zt_sc_la B
  have hb' := zc_lh hb
  have ls : zv_lay (b + 1) = (1, 5) := (zc_stl hb (show 0 < 48 by decide)).1
  have s0 : zt_sw b g (zv_sI (zv_sI g (b + 1) 9 (m : Int)) (b + 1) 12 0) := ⟨rfl, rfl, fun r k q1 q2 q3 => by rw [zy_In _ _ (fun q => q1 ⟨q.1, Or.inr q.2⟩), zy_In _ _ (fun q => q1 ⟨q.1, Or.inl q.2⟩)]⟩
  have x12 : zv_I (zv_sI (zv_sI g (b + 1) 9 (m : Int)) (b + 1) 12 0) (b + 1) 12 = ((0 : Nat) : Int) := zy_I _ _ _ _
  have x9 : zv_I (zv_sI (zv_sI g (b + 1) 9 (m : Int)) (b + 1) 12 0) (b + 1) 9 = (m : Int) := by rw [zy_In _ _ (fun q => absurd q.2 (by decide)), zy_I]
  have gL1 : zt_L (zv_sI (zv_sI g (b + 1) 9 (m : Int)) (b + 1) 12 0) := gL
  have wd1 : zt_wd 7 m wd (zv_sI (zv_sI g (b + 1) 9 (m : Int)) (b + 1) 12 0) := ⟨zt_wd_l7 w, zt_wd_la w, zt_wd_m12 w, (s0.2.2 7 1 (fun q => by omega) (by omega) (by omega)).trans (zt_wd_sz w), fun j hj => (s0.2.2 (7 + 1) j (fun q => by omega) (by omega) (by omega)).trans (zt_wd_lt w j hj)⟩
  have top : E0_startWith (d + 2) b 7 g = L0_startWith_21 (d + 2) b 7 ((0 : Nat) : Int) (zv_sI (zv_sI g (b + 1) 9 (m : Int)) (b + 1) 12 0) := by
    have eR : zv_gR g b 0 0 = some (b + 1) := zl_gF gL hb 0 1
    have eR2 : zv_gR (zv_sI g (b + 1) 9 (m : Int)) b 0 0 = some (b + 1) := zl_gF (g := zv_sI g (b + 1) 9 (m : Int)) gL hb 0 1
    rw [qE0_startWith, zm_e eR, zm_e (zl_gI gL zt_lay7 1), zt_wd_sz w, zm_e (zl_pI gL ls 9 _), zm_e eR2, zm_e (zl_pI (g := zv_sI g (b + 1) 9 (m : Int)) gL ls 12 _)]
    rfl
  generalize zv_sI (zv_sI g (b + 1) 9 (m : Int)) (b + 1) 12 0 = g1 at s0 x12 x9 gL1 wd1 top
  obtain ⟨g', y1, y2, y3, y4, y5⟩ := zt_sw_21 (d := d) hb (zt_wd_m12 w) m 0 g1 (Nat.zero_add m) gL1 wd1 x12 (fun j hj => absurd hj (Nat.not_lt_zero j))
  have sw : zt_sw b g g' := ⟨y2.1.trans s0.1, y2.2.1.trans s0.2.1, fun r k q1 q2 q3 => (y2.2.2 r k q1 q2 q3).trans (s0.2.2 r k q1 q2 q3)⟩
  have eJ : ∀ r k, zv_J g' r k = zv_J g r k := fun r k => by unfold zv_J; rw [sw.2.1]
  have eR : ∀ r k, zv_R g' r k = zv_R g r k := fun r k => by unfold zv_R; rw [sw.2.1]
  have l3 : zv_lay (b + 3) ≠ (1, 5) := by
    have := (zc_l5 ls).2
    rw [show b + 1 + 2 = b + 3 from rfl] at this
    rw [this]
    decide
  have l5 : zv_lay (b + 5) ≠ (1, 5) := by rcases hb' with q | q <;> rw [q] <;> decide
  have st : ∀ i k, i < 48 → ¬ (k = 9 ∨ k = 12) → zv_I g' (zc_stt b i) k = zv_I g (zc_stt b i) k := fun i k hi hk => sw.2.2 _ k (fun q => hk q.2) (fun e => l3 (by rw [← e]; exact (zc_stl hb hi).1)) (fun e => l5 (by rw [← e]; exact (zc_stl hb hi).1))
  have s1 : ∀ k, ¬ (k = 9 ∨ k = 12) → zv_I g' (b + 1) k = zv_I g (b + 1) k := fun k hk => sw.2.2 _ k (fun q => hk q.2) (by omega) (by omega)
  refine ⟨g', lC0_startWith (zl_ob gL hb) (top.trans y1), sw, hb, fun i hi => (st i 0 hi (by decide)).trans (zt_sc_nr B i hi), fun i hi => (st i 3 hi (by decide)).trans (zt_sc_lv B i hi), (eR _ _).trans (zt_sc_pa B), (eR _ _).trans (zt_sc_fi B), (s1 6 (by decide)).trans (zt_sc_i6 B), (s1 7 (by decide)).trans (zt_sc_i7 B), (s1 8 (by decide)).trans (zt_sc_i8 B), y4.trans x9, (s1 10 (by decide)).trans (zt_sc_ia B), (s1 11 (by decide)).trans (zt_sc_ib B), y3, (s1 13 (by decide)).trans (zt_sc_id B), (s1 15 (by decide)).trans (zt_sc_ie B), (eJ _ _).trans (zt_sc_jg B), (eJ _ _).trans (zt_sc_jh B), fun i hi => (y5 i hi).2, fun i hi => (y5 i hi).1, (eR _ _).trans (zt_sc_he B), ?_, ?_, ?_, ?_⟩
  · exact (sw.2.2 b 11 (fun q => by omega) (by omega) (by omega)).trans (zt_sc_nw B)
  · exact (sw.2.2 b 12 (fun q => by omega) (by omega) (by omega)).trans (zt_sc_ct B)
  · exact (sw.2.2 (b + 14) 2 (fun q => by omega) (by omega) (by omega)).trans (zt_sc_ns B)
  · exact (sw.2.2 (b + 17) 4 (fun q => by omega) (by omega) (by omega)).trans (zt_sc_vs B)
/-- the reference writes the letters -/
theorem zt_104 {D m : Nat} (hm : m ≤ 40) : ∀ (n i : Nat) (k : zv_H), i + n = m → zm_M k → zv_I k 347 30 = 0 → zv_I k 347 19 = m → ∃ k', L9_load_104 (D + 1) 347 (i : Int) k = L9_load_140 (D + 1) 347 k' ∧ zm_F [348] [] k k' ∧ (∀ x, ¬ (444 + i ≤ x ∧ x < 444 + m) → zv_I k' 348 x = zv_I k 348 x) ∧ ∀ j, i ≤ j → j < m → zv_I k' 348 (444 + j) = zv_I k 360 j := by
  intro n
  induction n with
  | zero =>
    intro i k hi hM h30 h19
    have e : i = m := hi
    subst e
    refine ⟨k, ?_, zm_F_r _ _ k, fun _ _ => rfl, fun j h1 h2 => absurd h1 (Nat.not_le.mpr h2)⟩
    rw [qL9_load_104, zm_e (zm_gI hM 19), h19, if_neg (Int.lt_irrefl _)]
  | succ n ih =>
    intro i k hi hM h30 h19
    have im : i < m := by omega
    have iI : (i : Int) < (m : Int) := Int.ofNat_lt.mpr im
    have w12 : zv_w (12 + (i : Int)) = ((12 + i : Nat) : Int) := by rw [zm_w (by omega)]; rfl
    have w1 : zv_w ((i : Int) + 1) = ((i + 1 : Nat) : Int) := zt_tkw (by omega)
    have F1 : zm_F [348] [] k (zv_sI k 348 (444 + i) (zv_I k 360 i)) := zm_F_I (zm_F_r _ _ k) rfl _ _
    have es : C9_sets (D + 1) 347 0 ((12 + i : Nat) : Int) (zv_I k 360 i) k = some (zv_sI k 348 (444 + i) (zv_I k 360 i)) := by
      rw [zm_sets hM D (by decide) (by omega) _, Int.toNat_natCast, show 432 + 76 * Int.toNat 0 + (12 + i) = 444 + i by
        show 432 + 76 * 0 + (12 + i) = 444 + i
        omega]
    have top : L9_load_104 (D + 1) 347 (i : Int) k = L9_load_104 (D + 1) 347 ((i + 1 : Nat) : Int) (zv_sI k 348 (444 + i) (zv_I k 360 i)) := by
      rw [qL9_load_104, zm_e (zm_gI hM 19), h19, if_pos iI, zm_e (zm_gI hM 30), h30, if_pos rfl, zm_e (zm_f17 hM), zm_e (zm_aI hM zm_l360 rfl (Int.natCast_nonneg _) (by omega)), Int.toNat_natCast, w12, zm_e es, w1]
    have c1 : ∀ x, zv_I (zv_sI k 348 (444 + i) (zv_I k 360 i)) 348 x = if x = 444 + i then zv_I k 360 i else zv_I k 348 x := fun x => by
      by_cases q : x = 444 + i
      · rw [q, zy_I, if_pos rfl]
      · rw [zy_In _ _ (fun z => q z.2), if_neg q]
    generalize zv_sI k 348 (444 + i) (zv_I k 360 i) = k1 at F1 es top c1
    obtain ⟨k', y1, y2, y3, y4⟩ := ih (i + 1) k1 (by omega) (zm_F_M F1 hM) ((zm_F_g F1 30).trans h30) ((zm_F_g F1 19).trans h19)
    refine ⟨k', top.trans y1, zm_F_t F1 y2, fun x hx => ?_, fun j h1 h2 => ?_⟩
    · rw [y3 x (fun q => hx (by omega)), c1, if_neg (fun q => hx (by omega))]
    · by_cases c : j = i
      · rw [c, y3 (444 + i) (fun q => by omega), c1, if_pos rfl]
      · rw [y4 j (by omega) h2, zm_F_a F1 360]
theorem zt_140 {D : Nat} {k : zv_H} (hM : zm_M k) {m : Int} (h19 : zv_I k 347 19 = m) : L9_load_140 (D + 1) 347 k = (C9_takes (D + 1) 347 59 (zv_sI k 348 437 m)).bind fun g3 => L9_load_156 (D + 1) 347 g3 := by
  rw [qL9_load_140, zm_e (zm_gI hM 19), h19, zm_e (zm_sets hM D (by decide) (by decide) _)]
  rfl
/-- a START alone, with its letters -/
theorem zt_sa_m {c c' : Nat → Int} {m : Nat} {wd wd0 : Nat → Int} (A : zt_sa c 0 wd0) (e5 : c' 437 = m) (el : ∀ j, j < m → c' (444 + j) = wd j) (eo : ∀ x, x ≠ 437 → ¬ (444 ≤ x ∧ x < 444 + m) → c' x = c x) (hm : m ≤ 40) : zt_sa c' m wd := by
  have o : ∀ w : Int, 0 ≤ w → w < 12 → w ≠ 5 → zm_o c' 0 w = zm_o c 0 w := fun w h0 h1 h2 => eo _ (by show 432 + 76 * Int.toNat 0 + w.toNat ≠ 437; rw [show 432 + 76 * Int.toNat 0 = 432 from rfl]; omega) (by rw [show 432 + 76 * Int.toNat 0 = 432 from rfl]; omega)
  have O := zt_sa_O A
  refine ⟨⟨fun s s0 s1 => ?_, ⟨(o 1 (by decide) (by decide) (by decide)).trans O.2.1.1, (o 2 (by decide) (by decide) (by decide)).trans O.2.1.2.1, e5, (o 8 (by decide) (by decide) (by decide)).trans O.2.1.2.2.2⟩, (eo 0 (by decide) (by omega)).trans O.2.2.1, (eo 3 (by decide) (by omega)).trans O.2.2.2.1, (eo 5 (by decide) (by omega)).trans O.2.2.2.2⟩, (eo 1 (by decide) (by omega)).trans (zt_sa_e1 A), (eo 2 (by decide) (by omega)).trans (zt_sa_e2 A), (o 3 (by decide) (by decide) (by decide)).trans (zt_sa_o3 A), (o 4 (by decide) (by decide) (by decide)).trans (zt_sa_o4 A), (o 6 (by decide) (by decide) (by decide)).trans (zt_sa_o6 A), (o 7 (by decide) (by decide) (by decide)).trans (zt_sa_o7 A), (o 10 (by decide) (by decide) (by decide)).trans (zt_sa_oa A), (o 11 (by decide) (by decide) (by decide)).trans (zt_sa_ob A), fun i hi => ?_⟩
  · have e : zm_o c' s 0 = zm_o c s 0 := eo _ (by show 432 + 76 * s.toNat + Int.toNat 0 ≠ 437; rw [show Int.toNat 0 = 0 from rfl]; omega) (by rw [show Int.toNat 0 = 0 from rfl]; omega)
    rw [e]
    exact O.1 s s0 s1
  · have e : zm_o c' 0 (12 + (i : Int)) = c' (444 + i) := by
      unfold zm_o
      rw [show 432 + 76 * Int.toNat 0 = 432 from rfl, show (12 + (i : Int)).toNat = 12 + i by omega, ← Nat.add_assoc]
    rw [e]
    exact el i hi
end
/-! A88.head -/
section
/-! ===== the tie: the head of a TEXT: its TEST ===== -/
/-- what the head changes in the class -/
def zt_hf (b : Nat) (g g' : zv_H) : Prop := g'.1 = g.1 ∧ g'.2.2 = g.2.2 ∧ ∀ r k, ¬ (r = 5 ∧ 4 ≤ k) → r ≠ 7 → r ≠ 8 → ¬ (r = b + 1 ∧ (k = 9 ∨ k = 12)) → r ≠ b + 3 → r ≠ b + 5 → r ≠ b + 22 → r ≠ b + 23 → r ≠ b + 24 → zv_I g' r k = zv_I g r k
theorem zt_hf_r (b : Nat) (g : zv_H) : zt_hf b g g := ⟨rfl, rfl, fun _ _ _ _ _ _ _ _ _ _ _ => rfl⟩
theorem zt_hf_t {b : Nat} {g g1 g2 : zv_H} (f : zt_hf b g g1) (h : zt_hf b g1 g2) : zt_hf b g g2 := ⟨h.1.trans f.1, h.2.1.trans f.2.1, fun r k q1 q2 q3 q4 q5 q6 q7 q8 q9 => (h.2.2 r k q1 q2 q3 q4 q5 q6 q7 q8 q9).trans (f.2.2 r k q1 q2 q3 q4 q5 q6 q7 q8 q9)⟩
theorem zt_hf_tj {b : Nat} {g g' : zv_H} (f : zt_tj b g g') : zt_hf b g g' := ⟨f.1, f.2.1, fun r k q1 _ _ _ _ _ q7 q8 q9 => f.2.2 r k (fun z => q1 ⟨z.1, z.2.1⟩) q7 q8 q9⟩
theorem zt_hf_w {b : Nat} {g g' : zv_H} (f : zt_w5 g g') : zt_hf b g g' := ⟨f.1, f.2.1, fun r k q1 q2 q3 _ _ _ _ _ _ => f.2.2 r k (fun z => q1 ⟨z.1, z.2.1⟩) (fun z => q2 z.1) q3⟩
theorem zt_hf_sw {b : Nat} {g g' : zv_H} (f : zt_sw b g g') : zt_hf b g g' := ⟨f.1, f.2.1, fun r k _ _ _ q4 q5 q6 _ _ _ => f.2.2 r k q4 q5 q6⟩
theorem zt_hf_rf {b : Nat} {g g' : zv_H} (f : zt_rf g g') : zt_hf b g g' := zt_hf_w (zt_w5_rf f)
theorem zt_in_b {b : Nat} (hb : zv_lay b = (1, 0)) {x : Nat} (hx : x = 1 ∨ x = 3 ∨ x = 5 ∨ x = 22 ∨ x = 23 ∨ x = 24) : zt_in b (b + x) := by
  rcases zc_lh hb with q | q <;> rw [q] <;> rcases hx with z | z | z | z | z | z <;> rw [z] <;> exact ⟨by decide, by decide, rfl⟩
theorem zt_H_hf {a b : Nat} {c : Nat → Int} {g g' : zv_H} (hb : zv_lay b = (1, 0)) (hab : a ≠ b) (H : zt_H a c g) (f : zt_hf b g g') : zt_H a c g' := by
  have hb' := zc_lh hb
  have H1 : zt_H a c ((g.1, ((fun r k => if r < 9 then zv_I g' r k else zv_I g r k), g.2.2)) : zv_H) := zt_H_lo H rfl (fun r k hr => if_neg (by omega))
  refine zt_H_k H1 (b := b) ⟨f.1, ?_, fun r k hx hr => ?_, fun r _ _ => ?_, fun r _ _ _ => ?_⟩ hab
  · show g'.2.2.2.2 = g.2.2.2.2
    rw [f.2.1]
  · show zv_I g' r k = if r < 9 then zv_I g' r k else zv_I g r k
    by_cases c : r < 9
    · rw [if_pos c]
    · rw [if_neg c]
      have ne : ∀ x, x = 1 ∨ x = 3 ∨ x = 5 ∨ x = 22 ∨ x = 23 ∨ x = 24 → r ≠ b + x := fun x hx e => hr (by rw [e]; exact zt_in_b hb hx)
      exact f.2.2 r k (fun q => by omega) (by omega) (by omega) (fun q => ne 1 (Or.inl rfl) q.1) (ne 3 (Or.inr (Or.inl rfl))) (ne 5 (Or.inr (Or.inr (Or.inl rfl)))) (ne 22 (by decide)) (ne 23 (by decide)) (ne 24 (by decide))
  · show g'.2.2.1 r = g.2.2.1 r
    rw [f.2.1]
  · show g'.2.2.2.1 r = g.2.2.2.1 r
    rw [f.2.1]
theorem zt_hf_1 {b : Nat} (hb : zv_lay b = (1, 0)) {g g' : zv_H} (f : zt_hf b g g') : (∀ i, zv_I g' 1 i = zv_I g 1 i) ∧ (∀ r i, zv_R g' r i = zv_R g r i) ∧ ∀ i, i < 48 → zv_I g' (zc_stt b i) 0 = zv_I g (zc_stt b i) 0 := by
  have hb' := zc_lh hb
  refine ⟨fun i => f.2.2 1 i (fun q => absurd q.1 (by decide)) (by decide) (by decide) (fun q => by omega) (by omega) (by omega) (by omega) (by omega) (by omega), fun r i => by unfold zv_R; rw [f.2.1], fun i hi => ?_⟩
  have sl := (zc_stl hb hi).1
  have sb := zc_sttb (a := b) hi
  have no : ∀ x, zv_lay (b + x) ≠ (1, 5) → zc_stt b i ≠ b + x := fun x hx e => hx (by rw [← e]; exact sl)
  have l : zv_lay (b + 3) ≠ (1, 5) ∧ zv_lay (b + 5) ≠ (1, 5) ∧ zv_lay (b + 22) ≠ (1, 5) ∧ zv_lay (b + 23) ≠ (1, 5) ∧ zv_lay (b + 24) ≠ (1, 5) := by rcases hb' with q | q <;> rw [q] <;> decide
  exact f.2.2 _ 0 (fun q => absurd q.2 (by decide)) (by omega) (by omega) (fun q => by rcases q.2 with z | z <;> exact absurd z (by decide)) (no 3 l.1) (no 5 l.2.1) (no 22 l.2.2.1) (no 23 l.2.2.2.1) (no 24 l.2.2.2.2)
theorem zt_sc_tj {b m : Nat} {wd : Nat → Int} {g g' : zv_H} (B : zt_sc b m wd g) (f : zt_tj b g g') : zt_sc b m wd g' := by
  have hb := zt_sc_la B
  have hb' := zc_lh hb
  have l : zv_lay (b + 22) ≠ (1, 5) ∧ zv_lay (b + 23) ≠ (1, 5) ∧ zv_lay (b + 24) ≠ (1, 5) := by rcases hb' with q | q <;> rw [q] <;> decide
  have e : ∀ r k, 9 ≤ r → r ≠ b + 22 → r ≠ b + 23 → r ≠ b + 24 → zv_I g' r k = zv_I g r k := fun r k h1 => f.2.2 r k (fun q => by omega)
  have st : ∀ i k, i < 48 → zv_I g' (zc_stt b i) k = zv_I g (zc_stt b i) k := fun i k hi => by
    have sl := (zc_stl hb hi).1
    have sb := zc_sttb (a := b) hi
    exact e _ _ (by omega) (fun z => l.1 (by rw [← z]; exact sl)) (fun z => l.2.1 (by rw [← z]; exact sl)) (fun z => l.2.2 (by rw [← z]; exact sl))
  have eJ : ∀ r k, zv_J g' r k = zv_J g r k := fun r k => by unfold zv_J; rw [f.2.1]
  have eR : ∀ r k, zv_R g' r k = zv_R g r k := fun r k => by unfold zv_R; rw [f.2.1]
  have s1 : ∀ k, zv_I g' (b + 1) k = zv_I g (b + 1) k := fun k => st 0 k (by decide)
  exact ⟨hb, fun i hi => (st i 0 hi).trans (zt_sc_nr B i hi), fun i hi => (st i 3 hi).trans (zt_sc_lv B i hi), (eR _ _).trans (zt_sc_pa B), (eR _ _).trans (zt_sc_fi B), (s1 _).trans (zt_sc_i6 B), (s1 _).trans (zt_sc_i7 B), (s1 _).trans (zt_sc_i8 B), (s1 _).trans (zt_sc_i9 B), (s1 _).trans (zt_sc_ia B), (s1 _).trans (zt_sc_ib B), (s1 _).trans (zt_sc_ic B), (s1 _).trans (zt_sc_id B), (s1 _).trans (zt_sc_ie B), (eJ _ _).trans (zt_sc_jg B), (eJ _ _).trans (zt_sc_jh B), fun i hi => (e _ _ (by omega) (by omega) (by omega) (by omega)).trans (zt_sc_gl B i hi), fun i hi => (e _ _ (by omega) (by omega) (by omega) (by omega)).trans (zt_sc_dc B i hi), (eR _ _).trans (zt_sc_he B), (e _ _ (by omega) (by omega) (by omega) (by omega)).trans (zt_sc_nw B), (e _ _ (by omega) (by omega) (by omega) (by omega)).trans (zt_sc_ct B), (e _ _ (by omega) (by omega) (by omega) (by omega)).trans (zt_sc_ns B), (e _ _ (by omega) (by omega) (by omega) (by omega)).trans (zt_sc_vs B)⟩
theorem zt_sa_k {c c' : Nat → Int} {m : Nat} {wd : Nat → Int} (A : zt_sa c m wd) (h : ∀ i : Nat, i ≠ 4 → ¬ (8 ≤ i ∧ i < 408) → c' i = c i) : zt_sa c' m wd := by
  have o : ∀ s w : Int, zm_o c' s w = zm_o c s w := fun s w => h _ (by omega) (by omega)
  have O := zt_sa_O A
  exact ⟨⟨fun s s0 s1 => (o s 0).trans (O.1 s s0 s1), ⟨(o _ _).trans O.2.1.1, (o _ _).trans O.2.1.2.1, (o _ _).trans O.2.1.2.2.1, (o _ _).trans O.2.1.2.2.2⟩, (h 0 (by decide) (by omega)).trans O.2.2.1, (h 3 (by decide) (by omega)).trans O.2.2.2.1, (h 5 (by decide) (by omega)).trans O.2.2.2.2⟩, (h 1 (by decide) (by omega)).trans (zt_sa_e1 A), (h 2 (by decide) (by omega)).trans (zt_sa_e2 A), (o _ _).trans (zt_sa_o3 A), (o _ _).trans (zt_sa_o4 A), (o _ _).trans (zt_sa_o6 A), (o _ _).trans (zt_sa_o7 A), (o _ _).trans (zt_sa_oa A), (o _ _).trans (zt_sa_ob A), fun i hi => (o _ _).trans (zt_sa_lt A i hi)⟩
section
variable {b : Nat} {T : Nat → Int} {n : Nat} {g k : zv_H} {f t E m : Nat} {wd : Nat → Int}
theorem zt_closed {e : Nat} (G : zt_gd T n g k f t E) : C3_closed (e + 2) 5 g = if t = 3 ∧ T f = 59 then some (1, g) else some (0, zv_sI (zv_sI g 5 8 2) 5 9 (zv_I g 5 5)) := by
  have gL := zt_tx_L (zt_gd_X G)
  have es := zt_isSignC (d := e) G 59
  by_cases c : t = 3 ∧ T f = 59
  · rw [if_pos c] at es ⊢
    refine lC3_closed (zl_ob gL zt_lay5) ?_
    rw [qE3_closed, zm_e es]
    dsimp only
    rw [if_neg (by decide)]
  · rw [if_neg c] at es ⊢
    refine lC3_closed (zl_ob gL zt_lay5) ?_
    rw [qE3_closed, zm_e es]
    dsimp only
    rw [if_pos rfl, zm_e (zt_fail (d := e) gL 2)]
    dsimp only
    rw [if_pos rfl]
theorem zt_156_b {D : Nat} (B : zt_bd T n g k) : L9_load_156 (D + 27) 347 k = L9_load_182 (D + 27) 347 k := by
  rw [qL9_load_156, zm_e (zm_f40 (zt_ty_M (zt_bd_Y B))), zm_e (zt_which_b (d := D + 26) B zm_l368 rfl)]
  dsimp only
  rw [if_neg (by decide)]
theorem zt_52_b {d : Nat} (B : zt_bd T n g k) : L3_head_52 (d + 26) 5 b g = some (none, g) := by
  have f0 := zt_bd_f0 B
  rw [qL3_head_52, zm_e (zl_gI (zt_tx_L (zt_bd_X B)) zt_lay5 8), if_neg (by omega)]
/-- behind the head: all is well -/
def zt_hdd (b : Nat) (T : Nat → Int) (n : Nat) (g : zv_H) (k : zv_H) (f : Nat) (y : Nat) (E : Nat) : Prop := (zt_gd T n g k f y E) ∧ (zm_RI k) ∧ (zt_H b (zv_I k 348) g) ∧ (zv_I k 348 1 = 0) ∧ (zv_I k 348 2 = 0)
theorem zt_hdd_G {b : Nat} {T : Nat → Int} {n : Nat} {g : zv_H} {k : zv_H} {f : Nat} {y : Nat} {E : Nat} (t : zt_hdd b T n g k f y E) : zt_gd T n g k f y E := t.1
theorem zt_hdd_R {b : Nat} {T : Nat → Int} {n : Nat} {g : zv_H} {k : zv_H} {f : Nat} {y : Nat} {E : Nat} (t : zt_hdd b T n g k f y E) : zm_RI k := t.2.1
theorem zt_hdd_H {b : Nat} {T : Nat → Int} {n : Nat} {g : zv_H} {k : zv_H} {f : Nat} {y : Nat} {E : Nat} (t : zt_hdd b T n g k f y E) : zt_H b (zv_I k 348) g := t.2.2.1
theorem zt_hdd_e1 {b : Nat} {T : Nat → Int} {n : Nat} {g : zv_H} {k : zv_H} {f : Nat} {y : Nat} {E : Nat} (t : zt_hdd b T n g k f y E) : zv_I k 348 1 = 0 := t.2.2.2.1
theorem zt_hdd_e2 {b : Nat} {T : Nat → Int} {n : Nat} {g : zv_H} {k : zv_H} {f : Nat} {y : Nat} {E : Nat} (t : zt_hdd b T n g k f y E) : zv_I k 348 2 = 0 := t.2.2.2.2
theorem zt_us_ph : zt_ph zt_usual 0 := by
  have h : zt_pz 2 zt_usual := zt_pz_b (m := 1) (v := -2) (zt_pz_b (m := 1) (v := -2) (zt_pz_b (m := 1) (v := -2) (zt_pz_1 (m := 2) (v := 54) (by decide)) (zt_pz_1 (v := 27) (by decide)) (by decide) (by decide)) (zt_pz_1 (v := 28) (by decide)) (by decide) (by decide)) (zt_pz_1 (v := 145) (by decide)) (by decide) (by decide)
  have := h [] 0 (by decide) rfl
  rw [List.append_nil] at this
  exact this
/-- the head's TEST, for both -/
theorem zj_head52 {d D : Nat} (G : zt_gd T n g k f t E) (K : zm_K k) (R : zm_RI k) (h37 : zv_I k 347 37 = 0) (B : zt_sc b m wd g) (A : zt_sa (zv_I k 348) m wd) (c4 : zv_I k 348 4 = 0) (S : zt_T0 b zt_usual g) (hm : m ≤ 40) (hlt : ∀ i, i < m → 0 ≤ wd i) : ∃ g' k', L3_head_52 (d + 26) 5 b g = some (none, g') ∧ L9_load_156 (D + 27) 347 k = L9_load_182 (D + 27) 347 k' ∧ zt_tj b g g' ∧ zm_F [348] [30, 31, 32, 33, 34, 35, 37, 38] k k' ∧ ((∃ f' t' E', zt_hdd b T n g' k' f' t' E') ∨ zt_bd T n g' k') := by
  have hb := zt_sc_la B
  have gL := zt_tx_L (zt_gd_X G)
  have hM := zt_ty_M (zt_gd_Y G)
  obtain ⟨v, ew, hw⟩ := zt_oth (d := d + 22) (D := D + 26) G K
  have qC := qL3_head_52 (d + 26) 5 b g
  rw [zm_e (zl_gI gL zt_lay5 8), zt_gd_f1 G, if_pos rfl] at qC
  have qR := qL9_load_156 (D + 27) 347 k
  rw [zm_e (zm_f40 hM), zm_e ew] at qR
  dsimp only at qR
  rcases hw 1 (by decide) with ⟨p1, p2, p3⟩ | ⟨p1, p2, p3⟩
  rotate_left
  · -- no join
    rw [zm_e (show C3_is (d + 26) 5 1000001 g = some (0, g) from p3)] at qC
    dsimp only at qC
    rw [if_pos rfl] at qC
    rw [if_neg (show ¬ v = 1 from p1)] at qR
    have W := zt_sa_W A hm (by rw [c4]; decide) (Or.inl c4)
    obtain ⟨U, V, N⟩ := zt_alone A hm B W hlt
    have J : zt_J b (zv_I k 348) g := ⟨zt_usual, ⟨zt_T0_sz S, by decide, zt_T0_st S, zt_T0_rg S, zt_us_ph⟩, Or.inl ⟨c4, rfl⟩⟩
    exact ⟨g, k, qC, qR, zt_tj_r b g, zm_F_r _ _ k, Or.inl ⟨f, t, E, G, R, ⟨U, J, V, N⟩, zt_sa_e1 A, zt_sa_e2 A⟩⟩
  rw [zm_e (show C3_is (d + 26) 5 1000001 g = some (1, g) from p3)] at qC
  dsimp only at qC
  rw [if_neg (by decide)] at qC
  rw [if_pos (show v = 1 from p1)] at qR
  have t1 : t = 1 := p2.1
  obtain ⟨v1, g1, k1, n1, r1, f1, F1, R1, o1⟩ := zj_nx3 (d := d + 24) (D := D + 22) G R (by rw [t1]; decide)
  have gL1 := zt_L_12 gL f1.1 f1.2.1
  have hM1 := zm_F_M F1 hM
  rw [zm_e n1] at qC
  dsimp only at qC
  rw [zm_e r1] at qR
  rcases o1 with ⟨w1, f1', t1', E1', G1, l1⟩ | ⟨w1, B1⟩
  rotate_left
  · rw [if_pos w1] at qC
    have tb := zt_test_b (D := D + 18) B1
    have B2 := zt_bd_ms B1
    rw [zm_e tb, zm_e (zt_takes_b (D := D + 21) B2.1 59), zt_ms_f B2.2] at qR
    exact ⟨g1, zt_ms 0 2 k1, qC, qR, zt_tj_rf f1, zm_F_t (zm_F_s F1 rfl rfl) (zm_F_s (zt_ms_F 0 2 k1) rfl rfl), Or.inr B2.1⟩
  obtain ⟨l22, _, _, _⟩ := zt_jn_l hb
  have e22 : zv_gR g1 b 0 8 = some (b + 22) := zl_gF gL1 hb 8 22
  have ec : C1_clear (d + 26) (b + 22) g1 = some (zv_sI g1 (b + 22) 3 0) := lC1_clear (zl_ob gL1 l22) (by
    rw [qE1_clear, zm_e (zl_pI gL1 l22 3 0)])
  have gL2 : zt_L (zv_sI g1 (b + 22) 3 0) := gL1
  have e22' : zv_gR (zv_sI g1 (b + 22) 3 0) b 0 8 = some (b + 22) := zl_gF gL2 hb 8 22
  rw [if_neg (by omega), zm_e e22, zm_e ec, zm_e e22'] at qC
  have J2 : zt_ja b g1 (zv_sI g1 (b + 22) 3 0) := ⟨rfl, rfl, fun r k q _ _ => zy_In _ _ (fun z => q z.1)⟩
  have S2 : zt_T0 b [] (zv_sI g1 (b + 22) 3 0) := zt_T0_0 (zy_I _ _ _ _)
  generalize zv_sI g1 (b + 22) 3 0 = g2 at qC gL2 J2 S2
  have G2 := zt_gd_ja hb G1 J2
  have c348 : zv_I k1 348 = zv_I k 348 := zm_F_a F1 348
  have cd0 : zm_cd (zv_I k 348) = [] := List.length_eq_zero_iff.mp (by rw [zt_cd_len, c4]; rfl)
  have tg : zt_tg b T n g2 k1 f1' t1' E1' := ⟨G2, zm_K_F K F1, by rw [c348, cd0]; exact S2, by rw [c348, c4]; exact Int.le_refl _, by rw [c348, c4]; omega⟩
  have h37' : zv_I k1 347 37 = 0 := (zm_F_g F1 37).trans h37
  obtain ⟨v3, g3, k3, s3, u3, to3⟩ := zj_tst (d := d) (D := D) hb tg h37'
  have hr1 := R1.2.1
  have P1 : zm_Pq k1 := ⟨⟨hM1, R1, zm_K_F K F1⟩, zt_gd_f2 G1, by rw [c348, c4]; exact Int.le_refl _, by rw [c348, c4]; omega⟩
  obtain ⟨k3', e3', Q3⟩ := zm_test D P1 h37'
  have ek : k3' = k3 := Option.some.inj (e3'.symm.trans u3)
  subst ek
  obtain ⟨_, _, R3, _, _, q3e⟩ := Q3
  have J3 : zt_tj b g g3 := zt_tj_t (zt_tj_rf f1) (zt_tj_t (zt_tj_ja J2) (zt_to_g to3))
  have F3 : zm_F [348] [30, 31, 32, 33, 34, 35, 37, 38] k k3' := zm_F_t (zm_F_s F1 rfl rfl) (zt_to_k to3)
  rw [zm_e s3] at qC
  dsimp only at qC
  rw [zm_e u3] at qR
  rcases zt_to_o to3 with ⟨w3, e, f3, t3, E3, ok⟩ | ⟨w3, B3⟩
  rotate_left
  · have B3' := zt_bd_ms (zt_bq_B B3)
    rw [if_pos w3] at qC
    rw [zm_e (zt_takes_b (D := D + 21) (zt_bq_B B3) 59)] at qR
    exact ⟨g3, zt_ms 0 2 k3', qC, qR, J3, zm_F_t F3 (zm_F_s (zt_ms_F 0 2 k3') rfl rfl), Or.inr B3'.1⟩
  have tg3 := zt_gk_t ok
  have G3 := zt_tg_G tg3
  have ecl := zt_closed (e := d + 24) G3
  rw [if_neg (by omega)] at qC
  by_cases c : t3 = 3 ∧ T f3 = 59
  rotate_left
  · rw [if_neg c] at ecl
    rw [zm_e ecl] at qC
    dsimp only at qC
    rw [if_pos rfl] at qC
    rw [zm_e (zt_takesR0 (D := D + 21) G3 (x := 59) (by decide) c)] at qR
    exact ⟨_, zt_ms 0 2 k3', qC, qR, zt_tj_t J3 (zt_tj_rf (zt_rf_fail g3 2)), zm_F_t F3 (zm_F_s (zt_ms_F 0 2 k3') rfl rfl), Or.inr (zj_fail G3 (by decide))⟩
  rw [if_pos c] at ecl
  obtain ⟨v4, g4, k4, n4, r4, f4, F4, R4, o4⟩ := zj_nx3 (d := d + 24) (D := D + 21) G3 R3 (by rw [c.1]; decide)
  rw [zm_e ecl] at qC
  dsimp only at qC
  rw [if_neg (by decide), zm_e n4] at qC
  rw [zm_e (zt_takesR1 (D := D + 21) G3 (x := 59) (by decide) c r4)] at qR
  have J4 : zt_tj b g g4 := zt_tj_t J3 (zt_tj_rf f4)
  have F04 : zm_F [348] [30, 31, 32, 33, 34, 35, 37, 38] k k4 := zm_F_t F3 (zm_F_s F4 rfl rfl)
  refine ⟨g4, k4, qC, qR, J4, F04, ?_⟩
  rcases o4 with ⟨w4, f4', t4', E4', G4, l4⟩ | ⟨w4, B4⟩
  rotate_left
  · exact Or.inr B4
  have c448 : zv_I k4 348 = zv_I k3' 348 := zm_F_a F4 348
  have A4 : zt_sa (zv_I k4 348) m wd := zt_sa_k A (fun i i1 i2 => by rw [c448, zt_gk_k ok i i1 i2, c348])
  have ecd : zm_cd (zv_I k4 348) = e := by
    rw [c448, zt_gk_e ok, c348, cd0]
    rfl
  have el := zt_gk_l ok
  have c175 := zt_c175 tg3
  have c40 := zt_tg_c0 tg3
  have elen : (e.length : Int) = zv_I k4 348 4 := by
    have := congrArg List.length ecd
    rw [zt_cd_len, c448] at this
    rw [c448]
    omega
  obtain ⟨e', pe, y2, _⟩ := q3e (zt_gd_f2 G3)
  have ee : e' = e := by
    rw [c348, cd0] at y2
    rw [c448, y2] at ecd
    exact ecd
  have W := zt_sa_W A4 hm (by rw [c448]; omega) (Or.inr (by rw [ecd, ← ee]; exact zm_pe_ph pe))
  have B4 := zt_sc_tj B J4
  obtain ⟨U, V, N⟩ := zt_alone A4 hm B4 W hlt
  have S4 : zt_T0 b e g4 := by
    have := zt_T0_rf (zt_tg_S tg3) f4 hb
    rw [← c448, ecd] at this
    exact this
  have ph : zt_ph e 0 := by
    have := zt_gk_p ok [] 0 (by decide) rfl
    rw [List.append_nil] at this
    exact this
  have J : zt_J b (zv_I k4 348) g4 := ⟨e, ⟨zt_T0_sz S4, by rw [c448] at elen; omega, zt_T0_st S4, zt_T0_rg S4, ph⟩, Or.inr ⟨by omega, ecd.symm⟩⟩
  exact Or.inl ⟨f4', t4', E4', G4, R4, ⟨U, J, V, N⟩, zt_sa_e1 A4, zt_sa_e2 A4⟩
end
end
/-! A89.head2 -/
section
/-! ===== the tie: the head of a TEXT, whole ===== -/
section
variable {b : Nat} {T : Nat → Int} {n : Nat} {g k : zv_H} {f t E : Nat}
/-- behind a fault the reference writes a START yet -/
theorem zt_104_b {D : Nat} (B : zt_bd T n g k) (h19 : zv_I k 347 30 = 0 → 0 ≤ zv_I k 347 19 ∧ zv_I k 347 19 ≤ 40) : ∃ k', L9_load_104 (D + 27) 347 0 k = L9_load_182 (D + 27) 347 k' ∧ zm_F [348] [30, 31] k k' ∧ zt_bd T n g k' := by
  have hM := zt_ty_M (zt_bd_Y B)
  have fin : ∀ k1 : zv_H, zm_F [348] [] k k1 → L9_load_104 (D + 27) 347 0 k = L9_load_140 (D + 27) 347 k1 → ∃ k', L9_load_104 (D + 27) 347 0 k = L9_load_182 (D + 27) 347 k' ∧ zm_F [348] [30, 31] k k' ∧ zt_bd T n g k' := fun k1 F1 e1 => by
    have B1 : zt_bd T n g k1 := zt_bd_x B rfl rfl (fun _ _ => rfl) (fun _ => rfl) F1
    have hM1 := zm_F_M F1 hM
    have F2 : zm_F [348] [] k1 (zv_sI k1 348 437 (zv_I k1 347 19)) := zm_F_I (zm_F_r _ _ k1) rfl _ _
    have B2 : zt_bd T n g (zv_sI k1 348 437 (zv_I k1 347 19)) := zt_bd_x B1 rfl rfl (fun _ _ => rfl) (fun _ => rfl) F2
    have B3 := zt_bd_ms B2
    have e2 := zt_140 (D := D + 26) hM1 rfl
    rw [zm_e (zt_takes_b (D := D + 21) B2 59), zt_156_b B3.1] at e2
    exact ⟨_, e1.trans e2, zm_F_t (zm_F_s F1 rfl rfl) (zm_F_t (zm_F_s F2 rfl rfl) (zm_F_s (zt_ms_F 0 2 _) rfl rfl)), B3.1⟩
  by_cases c : zv_I k 347 30 = 0
  · have h := h19 c
    obtain ⟨m, em⟩ : ∃ m : Nat, zv_I k 347 19 = m := ⟨(zv_I k 347 19).toNat, by omega⟩
    obtain ⟨k1, e1, F1, _, _⟩ := zt_104 (D := D + 26) (m := m) (by omega) m 0 k (Nat.zero_add m) hM c em
    exact fin k1 F1 e1
  · refine fin k (zm_F_r _ _ k) ?_
    rw [qL9_load_104, zm_e (zm_gI hM 19)]
    by_cases c2 : (0 : Int) < zv_I k 347 19
    · rw [if_pos c2, zm_e (zm_gI hM 30), if_neg c]
    · rw [if_neg c2]
theorem zj_head {d D : Nat} (G : zt_gd T n g k f t E) (K : zm_K k) (R : zm_RI k) (h37 : zv_I k 347 37 = 0) {wd0 : Nat → Int} (B : zt_sc b 0 wd0 g) (A : zt_sa (zv_I k 348) 0 wd0) (c4 : zv_I k 348 4 = 0) (S : zt_T0 b zt_usual g) : ∃ g' k', C3_head (d + 27) 5 b g = some g' ∧ ((C9_which (D + 27) 347 368 k).bind fun q8 => if q8.1 = 0 then (C9_reads (D + 27) 347 q8.2).bind fun g9 => (C9_takesWord (D + 27) 347 40 g9).bind fun g10 => L9_load_104 (D + 27) 347 0 g10 else L9_load_156 (D + 27) 347 q8.2) = L9_load_182 (D + 27) 347 k' ∧ zt_hf b g g' ∧ zm_F [348, 360] [19, 30, 31, 32, 33, 34, 35, 37, 38] k k' ∧ ((∃ f' t' E', zt_hdd b T n g' k' f' t' E') ∨ zt_bd T n g' k') := by
  have hb := zt_sc_la B
  have gL := zt_tx_L (zt_gd_X G)
  have hM := zt_ty_M (zt_gd_Y G)
  obtain ⟨v, ew, hw⟩ := zt_oth (d := d + 22) (D := D + 26) G K
  have qC := qE3_head (d + 26) 5 b g
  rw [zm_e (zl_gI gL zt_lay5 8), zt_gd_f1 G, if_pos rfl] at qC
  have fin : ∀ {g' : zv_H}, E3_head (d + 26) 5 b g = some (none, g') → C3_head (d + 27) 5 b g = some g' := fun {g'} h => lC3_head (zl_ob gL zt_lay5) h
  rw [zm_e ew]
  dsimp only
  rcases hw 0 (by decide) with ⟨p1, p2, p3⟩ | ⟨p1, p2, p3⟩
  rotate_left
  · -- no start
    rw [zm_e (show C3_is (d + 26) 5 1000000 g = some (0, g) from p3)] at qC
    dsimp only at qC
    rw [if_pos rfl] at qC
    rw [if_neg (show ¬ v = 0 from p1)]
    obtain ⟨g', k', y1, y2, y3, y4, y5⟩ := zj_head52 (d := d) (D := D) G K R h37 B A c4 S (by decide) (fun i hi => absurd hi (Nat.not_lt_zero i))
    exact ⟨g', k', fin (qC.trans y1), y2, zt_hf_tj y3, zm_F_s y4 rfl rfl, y5⟩
  rw [zm_e (show C3_is (d + 26) 5 1000000 g = some (1, g) from p3)] at qC
  dsimp only at qC
  rw [if_neg (by decide)] at qC
  rw [if_pos (show v = 0 from p1)]
  have t1 : t = 1 := p2.1
  obtain ⟨v1, g1, k1, n1, r1, f1, F1, R1, o1⟩ := zj_nx3 (d := d + 24) (D := D + 22) G R (by rw [t1]; decide)
  have gL1 := zt_L_12 gL f1.1 f1.2.1
  have hM1 := zm_F_M F1 hM
  rw [zm_e n1] at qC
  dsimp only at qC
  rw [zm_e r1]
  have F1' : zm_F [348, 360] [19, 30, 31, 32, 33, 34, 35, 37, 38] k k1 := zm_F_s F1 rfl rfl
  have c348 : zv_I k1 348 = zv_I k 348 := zm_F_a F1 348
  rcases o1 with ⟨w1, f1', t1', E1', G1, l1⟩ | ⟨w1, B1⟩
  rotate_left
  · rw [if_pos w1, zt_52_b B1] at qC
    obtain ⟨k2, e2, F2, B2, p2'⟩ := zt_word_b (D := D + 21) B1 40
    obtain ⟨k3, e3, F3, B3⟩ := zt_104_b (D := D) B2 (fun z => absurd z (by omega))
    rw [zm_e e2]
    exact ⟨g1, k3, fin qC, e3, zt_hf_rf f1, zm_F_t F1' (zm_F_t (zm_F_s F2 rfl rfl) (zm_F_s F3 rfl rfl)), Or.inr B3⟩
  rw [if_neg (by omega)] at qC
  obtain ⟨bv, g2, k2, a1, a2, a3, a4, a5⟩ := zj_word2 (d := d + 23) (D := D + 21) G1 (most := 40) (by decide)
  obtain ⟨k2', e2', _, ok2, w19⟩ := zm_takesWord hM1 (D + 21) R1 (by rw [zt_gd_f2 G1]; exact Int.le_refl _) (most := 40) (by decide)
  have ek : k2' = k2 := Option.some.inj (e2'.symm.trans a2)
  subst ek
  have gL2 := zt_L_12 gL1 a3.1 a3.2.1
  rw [zm_e (show C3_spelled (d + 26) 5 40 g1 = some (bv, g2) from a1)] at qC
  dsimp only at qC
  rw [zm_e (show C9_takesWord (D + 27) 347 40 k1 = some k2' from a2)]
  have F2 : zm_F [348, 360] [19, 30, 31, 32, 33, 34, 35, 37, 38] k k2' := zm_F_t F1' (zm_F_s a4 rfl rfl)
  have J2 : zt_hf b g g2 := zt_hf_t (zt_hf_rf f1) (zt_hf_w a3)
  rcases a5 with ⟨b1, wd, h19, _, Em, ⟨lt, lw⟩, f2, t2, E2, G2, l2⟩ | ⟨b0, B2⟩
  rotate_left
  · rw [if_pos b0, zt_52_b B2] at qC
    obtain ⟨k3, e3, F3, B3⟩ := zt_104_b (D := D) B2 w19
    exact ⟨g2, k3, fin qC, e3, J2, zm_F_t F2 (zm_F_s F3 rfl rfl), Or.inr B3⟩
  rw [if_neg (by omega)] at qC
  have hM2 := zt_ty_M (zt_gd_Y G2)
  have ecl := zt_closed (e := d + 24) G2
  -- the reference's START
  have m40 : E1' - f1' ≤ 40 := by omega
  obtain ⟨k3, e3, F3, x3, l3⟩ := zt_104 (D := D + 26) m40 (E1' - f1') 0 k2' (Nat.zero_add _) hM2 (zt_gd_f2 G2) h19
  have hM3 := zm_F_M F3 hM2
  have e4 := zt_140 (D := D + 26) hM3 ((zm_F_g F3 19).trans h19)
  have F4 : zm_F [348] [] k3 (zv_sI k3 348 437 ((E1' - f1' : Nat) : Int)) := zm_F_I (zm_F_r _ _ k3) rfl _ _
  have G4 : zt_gd T n g2 (zv_sI k3 348 437 ((E1' - f1' : Nat) : Int)) f2 t2 E2 := zt_gd_x (zt_gd_x G2 rfl rfl (fun _ _ => rfl) (fun _ => rfl) F3) rfl rfl (fun _ _ => rfl) (fun _ => rfl) F4
  have F04 := zm_F_t F2 (zm_F_t (zm_F_s F3 rfl rfl) (zm_F_s F4 rfl rfl))
  have c2 : zv_I k2' 348 = zv_I k 348 := (zm_F_a a4 348).trans c348
  have v4 : ∀ x, zv_I (zv_sI k3 348 437 ((E1' - f1' : Nat) : Int)) 348 x = if x = 437 then ((E1' - f1' : Nat) : Int) else zv_I k3 348 x := fun x => by
    by_cases q : x = 437
    · rw [q, zy_I, if_pos rfl]
    · rw [zy_In _ _ (fun z => q z.2), if_neg q]
  have A4 : zt_sa (zv_I (zv_sI k3 348 437 ((E1' - f1' : Nat) : Int)) 348) (E1' - f1') (zv_I k2' 360) := by
    refine zt_sa_m A (by rw [v4, if_pos rfl]) (fun j hj => ?_) (fun x x1 x2 => ?_) m40
    · rw [v4, if_neg (by omega), l3 j (Nat.zero_le _) hj]
    · rw [v4, if_neg x1, x3 x (fun q => x2 (by omega)), c2]
  have c44 : zv_I (zv_sI k3 348 437 ((E1' - f1' : Nat) : Int)) 348 4 = 0 := by
    rw [v4, if_neg (by decide), x3 4 (fun q => by omega), c2, c4]
  have R4 : zm_RI (zv_sI k3 348 437 ((E1' - f1' : Nat) : Int)) := zm_RI_F (zm_RI_F ok2.1 F3) F4
  have h374 : zv_I (zv_sI k3 348 437 ((E1' - f1' : Nat) : Int)) 347 37 = 0 := by rw [zm_F_g F4 37, zm_F_g F3 37, zm_F_g a4 37, zm_F_g F1 37, h37]
  have K4 : zm_K (zv_sI k3 348 437 ((E1' - f1' : Nat) : Int)) := zm_K_F (zm_K_F (zm_K_F (zm_K_F K F1) a4) F3) F4
  generalize zv_sI k3 348 437 ((E1' - f1' : Nat) : Int) = k4 at e4 F4 G4 F04 A4 c44 R4 h374 K4
  have top : ∀ {o : zv_O}, ((C9_takes (D + 26 + 1) 347 59 k4).bind fun g3 => L9_load_156 (D + 26 + 1) 347 g3) = o → L9_load_104 (D + 27) 347 0 k2' = o := fun {o} h => (e3.trans e4).trans h
  by_cases c : t2 = 3 ∧ T f2 = 59
  rotate_left
  · rw [if_neg c] at ecl
    have bd := zj_fail G4 (w := 2) (by decide)
    rw [zm_e ecl] at qC
    dsimp only at qC
    rw [if_pos rfl, zt_52_b bd] at qC
    refine ⟨_, zt_ms 0 2 k4, fin qC, top ?_, zt_hf_t J2 (zt_hf_rf (zt_rf_fail g2 2)), zm_F_t F04 (zm_F_s (zt_ms_F 0 2 k4) rfl rfl), Or.inr bd⟩
    rw [zm_e (zt_takesR0 (D := D + 21) G4 (x := 59) (by decide) c), zt_156_b bd]
  rw [if_pos c] at ecl
  -- the class's START
  have B2 : zt_sc b 0 wd0 g2 := by
    have e9 : ∀ r i, 9 ≤ r → zv_I g2 r i = zv_I g r i := fun r i hr => (a3.2.2 r i (fun q => absurd q.1 (by omega)) (fun q => absurd q.1 (by omega)) (by omega)).trans (f1.2.2 r i (fun q => absurd q.1 (by omega)))
    have e2 : g2.2.2 = g.2.2 := a3.2.1.trans f1.2.1
    have h : zt_tj b g ((g.1, ((fun r i => if r < 9 then zv_I g r i else zv_I g2 r i), g.2.2)) : zv_H) := ⟨rfl, rfl, fun r i _ _ _ _ => by
      show (if r < 9 then zv_I g r i else zv_I g2 r i) = zv_I g r i
      by_cases z : r < 9
      · rw [if_pos z]
      · rw [if_neg z]
        exact e9 r i (by omega)⟩
    have hb' := zc_lh hb
    have eI : ∀ x i, zv_I g2 (b + x) i = zv_I g (b + x) i := fun x i => e9 _ _ (by omega)
    have eS : ∀ j i, j < 48 → zv_I g2 (zc_stt b j) i = zv_I g (zc_stt b j) i := fun j i hj => e9 _ _ (by have := zc_sttb (a := b) hj; omega)
    have eJ : ∀ r i, zv_J g2 r i = zv_J g r i := fun r i => by unfold zv_J; rw [e2]
    have eR : ∀ r i, zv_R g2 r i = zv_R g r i := fun r i => by unfold zv_R; rw [e2]
    exact ⟨hb, fun i hi => (eS i 0 hi).trans (zt_sc_nr B i hi), fun i hi => (eS i 3 hi).trans (zt_sc_lv B i hi), (eR _ _).trans (zt_sc_pa B), (eR _ _).trans (zt_sc_fi B), (eI _ _).trans (zt_sc_i6 B), (eI _ _).trans (zt_sc_i7 B), (eI _ _).trans (zt_sc_i8 B), (eI _ _).trans (zt_sc_i9 B), (eI _ _).trans (zt_sc_ia B), (eI _ _).trans (zt_sc_ib B), (eI _ _).trans (zt_sc_ic B), (eI _ _).trans (zt_sc_id B), (eI _ _).trans (zt_sc_ie B), (eJ _ _).trans (zt_sc_jg B), (eJ _ _).trans (zt_sc_jh B), fun i hi => (eI _ _).trans (zt_sc_gl B i hi), fun i hi => (eI _ _).trans (zt_sc_dc B i hi), (eR _ _).trans (zt_sc_he B), (e9 _ _ (by omega)).trans (zt_sc_nw B), (e9 _ _ (by omega)).trans (zt_sc_ct B), (eI _ _).trans (zt_sc_ns B), (eI _ _).trans (zt_sc_vs B)⟩
  obtain ⟨g3, e5, sw, B3⟩ := zt_startWith (d := d + 23) gL2 B2 wd
  have hb' := zc_lh hb
  have s5 : ∀ i, zv_I g3 5 i = zv_I g2 5 i := fun i => sw.2.2 5 i (fun q => by omega) (by omega) (by omega)
  have s6 : ∀ i, zv_I g3 6 i = zv_I g2 6 i := fun i => sw.2.2 6 i (fun q => by omega) (by omega) (by omega)
  have G5 : zt_gd T n g3 k4 f2 t2 E2 := zt_gd_x G4 sw.1 sw.2.1 (fun i _ => s5 i) s6 (zm_F_r [] [] k4)
  obtain ⟨v5, g5, k5, n5, r5, f5, F5, R5, o5⟩ := zj_nx3 (d := d + 24) (D := D + 21) G5 R4 (by rw [c.1]; decide)
  have e7 : zv_gR g2 5 3 1 = some 7 := zl_gF gL2 zt_lay5 1 2
  rw [zm_e ecl] at qC
  dsimp only at qC
  rw [if_neg (by decide), zm_e e7, zm_e (show C0_startWith (d + 26) b 7 g2 = some g3 from e5), zm_e n5] at qC
  have J5 : zt_hf b g g5 := zt_hf_t (zt_hf_t J2 (zt_hf_sw sw)) (zt_hf_rf f5)
  have F05 := zm_F_t F04 (zm_F_s F5 rfl rfl : zm_F [348, 360] [19, 30, 31, 32, 33, 34, 35, 37, 38] k4 k5)
  have topR : L9_load_104 (D + 27) 347 0 k2' = L9_load_156 (D + 27) 347 k5 := top (by rw [zm_e (zt_takesR1 (D := D + 21) G5 (x := 59) (by decide) c r5)])
  rcases o5 with ⟨w5, f5', t5', E5', G6, l5⟩ | ⟨w5, B5⟩
  rotate_left
  · rw [zt_52_b B5] at qC
    rw [zt_156_b B5] at topR
    exact ⟨g5, k5, fin qC, topR, J5, F05, Or.inr B5⟩
  have c5 : zv_I k5 348 = zv_I k4 348 := zm_F_a F5 348
  have S2 : zt_T0 b zt_usual g2 := zt_T0_k S (fun r i hr => (a3.2.2 r i (fun q => absurd q.1 (by omega)) (fun q => absurd q.1 (by omega)) (by omega)).trans (f1.2.2 r i (fun q => absurd q.1 (by omega)))) hb
  have S3 : zt_T0 b zt_usual g3 := by
    have e22 : ∀ i, zv_I g3 (b + 22) i = zv_I g2 (b + 22) i := fun i => sw.2.2 _ _ (fun q => by omega) (by omega) (by omega)
    have e23 : ∀ i, zv_I g3 (b + 23) i = zv_I g2 (b + 23) i := fun i => sw.2.2 _ _ (fun q => by omega) (by omega) (by omega)
    have e24 : ∀ i, zv_I g3 (b + 24) i = zv_I g2 (b + 24) i := fun i => sw.2.2 _ _ (fun q => by omega) (by omega) (by omega)
    exact ⟨(e22 3).trans (zt_T0_sz S2), fun i v hi => by rw [e23, e24]; exact zt_T0_st S2 i v hi, zt_T0_rg S2⟩
  obtain ⟨g6, k6, y1, y2, y3, y4, y5⟩ := zj_head52 (d := d) (D := D) G6 (zm_K_F K4 F5) R5 ((zm_F_g F5 37).trans h374) (zt_sc_tj B3 (zt_tj_rf f5)) (by rw [c5]; exact A4) (by rw [c5]; exact c44) (zt_T0_rf S3 f5 hb) m40 (fun i hi => (lw i hi).1)
  exact ⟨g6, k6, fin (qC.trans y1), topR.trans y2, zt_hf_t J5 (zt_hf_tj y3), zm_F_t F05 (zm_F_s y4 rfl rfl), y5⟩
end
end
/-! A90.load -/
section
/-! ===== the tie: a TEXT is loaded: what is between two calls ===== -/
theorem zt_U_9 {a : Nat} {c : Nat → Int} {h h' : zv_H} (t : zt_U a c h) (fI : ∀ r k, 9 ≤ r → zv_I h' r k = zv_I h r k) (fJ : ∀ r k, 9 ≤ r → zv_J h' r k = zv_J h r k) (fR : ∀ r k, 9 ≤ r → zv_R h' r k = zv_R h r k) : zt_U a c h' := by
  have la := zt_U_la t
  have a9 := zc_lh la
  have r9 : ∀ s, zm_st c s → 9 ≤ zt_r a s := fun s hs => by
    rw [zt_r_p hs.1.1]
    have := zc_sttb (a := a) (show s.toNat < 48 by have := hs.1; omega)
    omega
  have eI : ∀ s, zm_st c s → ∀ k, zv_I h' (zt_r a s) k = zv_I h (zt_r a s) k := fun s hs k => fI _ _ (r9 s hs)
  have eJ : ∀ s, zm_st c s → ∀ k, zv_J h' (zt_r a s) k = zv_J h (zt_r a s) k := fun s hs k => fJ _ _ (r9 s hs)
  have eR : ∀ s, zm_st c s → ∀ k, zv_R h' (zt_r a s) k = zv_R h (zt_r a s) k := fun s hs k => fR _ _ (r9 s hs)
  have eA : ∀ s, zm_st c s → ∀ x k, zv_I h' (zt_r a s + x) k = zv_I h (zt_r a s + x) k := fun s hs x k => fI _ _ (by have := r9 s hs; omega)
  have eS : ∀ i, i < 48 → ∀ k, zv_I h' (zc_stt a i) k = zv_I h (zc_stt a i) k := fun i hi k => fI _ _ (by have := zc_sttb (a := a) hi; omega)
  refine ⟨la, zt_U_W t, fun i hi => (eS i hi 3).trans (zt_U_lv t i hi), fun i hi => (eS i hi 0).trans (zt_U_nr t i hi), fun s hs => ?_, ?_, ?_, ?_⟩
  · have u := zt_U_st t s hs
    exact ⟨(eR s hs 4).trans (zt_S_pa u), (eR s hs 5).trans (zt_S_fi u), (eI s hs 6).trans (zt_S_ac u), (eI s hs 7).trans (zt_S_ti u), (eI s hs 8).trans (zt_S_pl u), (eI s hs 9).trans (zt_S_sz u), (eI s hs 13).trans (zt_S_vi u), (eI s hs 15).trans (zt_S_an u), fun k hk => by rw [eJ s hs]; exact zt_S_nm u k hk, fun k hk => by rw [eJ s hs]; exact zt_S_bs u k hk, fun q k x hx => (eA s hs 1 k).trans (zt_S_tk u q k x hx), fun q k hk => (fI _ _ (by omega)).trans (zt_S_gl u q k hk), fun l hl => (eI s hs 12).trans (zt_S_ln u l hl), fun l hl n x hx => (eA s hs 2 n).trans (zt_S_dc u l hl n x hx), fun l hl => (eI s hs 10).trans (zt_S_de u l hl), (eI s hs 11).trans (zt_S_ch u), zt_S_cw u⟩
  · exact (fR _ _ (by omega)).trans (zt_U_he t)
  · exact (fI _ _ (by omega)).trans (zt_U_nw t)
  · exact (fI _ _ (by omega)).trans (zt_U_ct t)
theorem zt_H_9 {a : Nat} {c : Nat → Int} {h h' : zv_H} (H : zt_H a c h) (fI : ∀ r k, 9 ≤ r → zv_I h' r k = zv_I h r k) (fJ : ∀ r k, 9 ≤ r → zv_J h' r k = zv_J h r k) (fR : ∀ r k, 9 ≤ r → zv_R h' r k = zv_R h r k) : zt_H a c h' := by
  have la := zt_U_la (zt_H_U H)
  have a9 := zc_lh la
  have V := zt_H_V H
  refine ⟨zt_U_9 (zt_H_U H) fI fJ fR, zt_J_cg (zt_H_J H) (fun r k r1 r2 => fI r k (by omega)), ⟨?_, zt_V_c0 V, zt_V_c5 V, fun j hj => ?_, fun j hj => ?_, zt_V_vb V, zt_V_vd V⟩, zt_N_c (zt_H_N H) ((zt_U_W (zt_H_U H)).2.2.1.2) rfl (fun _ _ _ => rfl) (fun r k r1 r2 => fI r k (by omega))⟩
  · rw [fI _ _ (by omega)]; exact zt_V_ct V
  · rw [fI _ _ (by omega)]; exact zt_V_ls V j hj
  · rw [fI _ _ (by omega)]; exact zt_V_lt V j hj
/-- the reference's numbers alone count, and of them the first -/
theorem zt_H_4236 {a : Nat} {c c' : Nat → Int} {g : zv_H} (H : zt_H a c g) (hA : zc_A g) (e : ∀ k : Nat, k < 4236 → c' k = c k) : zt_H a c' g := zt_H_hd H hA (zm_W_eq (zt_U_W (zt_H_U H)) e) (fun k _ k2 _ => e k k2) (e 0 (by decide)) (e 2 (by decide)) (e 4 (by decide)) (e 5 (by decide)) (fun k _ k2 => e k (by omega)) (fun _ _ _ _ _ _ => rfl) (fun _ _ => rfl) (fun _ _ => rfl) ((zt_U_nw (zt_H_U H)).trans (e 1 (by decide)).symm) (zt_N_c (zt_H_N H) ((zt_U_W (zt_H_U H)).2.2.1.2) (e 3 (by decide)) (fun k _ k2 => e k (by omega)) (fun _ _ _ _ => rfl))
/-- the typed word -/
def zt_wt (g k : zv_H) : Prop := ∃ x : Nat, zv_I k 347 20 = x ∧ x ≤ 12 ∧ zt_wd 3 x (zv_I k 361) g ∧ zt_lw x (zv_I k 361)
theorem zt_wt_k {g g' k k' : zv_H} (w : zt_wt g k) (hg : ∀ r i, r = 3 ∨ r = 4 → zv_I g' r i = zv_I g r i) (h20 : zv_I k' 347 20 = zv_I k 347 20) (h361 : zv_I k' 361 = zv_I k 361) : zt_wt g' k' := by
  obtain ⟨x, w1, w2, w3, w4⟩ := w
  exact ⟨x, h20.trans w1, w2, ⟨zt_wd_l7 w3, zt_wd_la w3, zt_wd_m12 w3, (hg 3 1 (Or.inl rfl)).trans (zt_wd_sz w3), fun i hi => by rw [h361]; exact (hg 4 i (Or.inr rfl)).trans (zt_wd_lt w3 i hi)⟩, by rw [h361]; exact w4⟩
/-- between two calls: the class's cells, the reference's -/
def zt_GG (m : Nat) (a : Nat) (b : Nat) (g : zv_H) (k : zv_H) : Prop := (zv_R g 1 3 = a) ∧ (zv_R g 1 4 = b) ∧ ((a = 9 ∧ b = 178) ∨ (a = 178 ∧ b = 9)) ∧ (zt_H a (zv_I k 348) g) ∧ (zt_num0 b g) ∧ (∀ i : Nat, (i : Int) < zv_I k 347 27 → (0 ≤ zv_I g 6 i ∧ zv_I g 6 i ≤ 255) ∧ zv_I k 366 i = zt_sb (zv_I g 6 i)) ∧ (0 ≤ zv_I k 348 1 ∧ zv_I k 348 1 ≤ 1000000 + 1000 * m) ∧ (zv_I k 348 2 ≤ 100000 + 100 * m) ∧ ((zv_I g 1 7 = 0 ∧ zv_I k 347 28 = -1 ∧ zv_I k 347 29 = -1) ∨ (zv_I g 1 7 = 1 ∧ zv_I g 5 8 = zv_I k 347 28 ∧ zv_I g 5 9 = zv_I k 347 29)) ∧ (zt_wt g k)
theorem zt_GG_r {m : Nat} {a : Nat} {b : Nat} {g : zv_H} {k : zv_H} (t : zt_GG m a b g k) : zv_R g 1 3 = a := t.1
theorem zt_GG_s {m : Nat} {a : Nat} {b : Nat} {g : zv_H} {k : zv_H} (t : zt_GG m a b g k) : zv_R g 1 4 = b := t.2.1
theorem zt_GG_ab {m : Nat} {a : Nat} {b : Nat} {g : zv_H} {k : zv_H} (t : zt_GG m a b g k) : (a = 9 ∧ b = 178) ∨ (a = 178 ∧ b = 9) := t.2.2.1
theorem zt_GG_H {m : Nat} {a : Nat} {b : Nat} {g : zv_H} {k : zv_H} (t : zt_GG m a b g k) : zt_H a (zv_I k 348) g := t.2.2.2.1
theorem zt_GG_N {m : Nat} {a : Nat} {b : Nat} {g : zv_H} {k : zv_H} (t : zt_GG m a b g k) : zt_num0 b g := t.2.2.2.2.1
theorem zt_GG_tp {m : Nat} {a : Nat} {b : Nat} {g : zv_H} {k : zv_H} (t : zt_GG m a b g k) : ∀ i : Nat, (i : Int) < zv_I k 347 27 → (0 ≤ zv_I g 6 i ∧ zv_I g 6 i ≤ 255) ∧ zv_I k 366 i = zt_sb (zv_I g 6 i) := t.2.2.2.2.2.1
theorem zt_GG_n1 {m : Nat} {a : Nat} {b : Nat} {g : zv_H} {k : zv_H} (t : zt_GG m a b g k) : 0 ≤ zv_I k 348 1 ∧ zv_I k 348 1 ≤ 1000000 + 1000 * m := t.2.2.2.2.2.2.1
theorem zt_GG_n2 {m : Nat} {a : Nat} {b : Nat} {g : zv_H} {k : zv_H} (t : zt_GG m a b g k) : zv_I k 348 2 ≤ 100000 + 100 * m := t.2.2.2.2.2.2.2.1
theorem zt_GG_fl {m : Nat} {a : Nat} {b : Nat} {g : zv_H} {k : zv_H} (t : zt_GG m a b g k) : (zv_I g 1 7 = 0 ∧ zv_I k 347 28 = -1 ∧ zv_I k 347 29 = -1) ∨ (zv_I g 1 7 = 1 ∧ zv_I g 5 8 = zv_I k 347 28 ∧ zv_I g 5 9 = zv_I k 347 29) := t.2.2.2.2.2.2.2.2.1
theorem zt_GG_wt {m : Nat} {a : Nat} {b : Nat} {g : zv_H} {k : zv_H} (t : zt_GG m a b g k) : zt_wt g k := t.2.2.2.2.2.2.2.2.2
theorem zt_lab {a b : Nat} (h : (a = 9 ∧ b = 178) ∨ (a = 178 ∧ b = 9)) : zv_lay a = (1, 0) ∧ zv_lay b = (1, 0) ∧ a ≠ b := by
  rcases h with ⟨h1, h2⟩ | ⟨h1, h2⟩ <;> rw [h1, h2] <;> exact ⟨rfl, rfl, by decide⟩
/-- the first TOKEN, for both -/
theorem zj_first {T : Nat → Int} {n d D : Nat} {g k : zv_H} (X : zt_tx T n g) (Y : zt_ty T n k) (h6 : zv_I g 5 6 = 0) (h8 : zv_I g 5 8 = 0) (h9 : zv_I g 5 9 = -1) (h33 : zv_I k 347 33 = 0) (h30 : zv_I k 347 30 = 0) : ∃ (v : Int) (g' k' : zv_H), C3_next (d + 2) 5 g = some (v, g') ∧ C9_reads (D + 5) 347 k = some k' ∧ zt_rf g g' ∧ zm_rF k k' ∧ ((v = 1 ∧ ∃ f' t' E', zt_gd T n g' k' f' t' E') ∨ (v = 0 ∧ zt_bd T n g' k')) := by
  obtain ⟨f', t', E', g', k', a1, a2, a3, a4, a5, a6, a7⟩ := zj_next (d := d) (D := D) (Nat.zero_le n) X Y h6 h33
  have X' := zt_tx_r X a4
  have Y' := zt_ty_r Y a5
  have f30 : zv_I k' 347 30 = 0 := (zm_F_g a5 30).trans h30
  refine ⟨_, g', k', a2, a3, a4, a5, ?_⟩
  rcases a6.2 with ⟨q1, q2, q3⟩ | ⟨q1, q2, q3, q4, q5, q6, q7⟩
  · rw [if_pos q1]
    exact Or.inr ⟨rfl, X', Y', by rw [q2]; decide, Or.inl ⟨q2, f30, by rw [a7.2.1, q1]; rfl, q3.trans a7.1.symm⟩⟩
  · rw [if_neg q1]
    exact Or.inl ⟨rfl, f', t', E', X', Y', ⟨_, a1⟩, q1, a6.1, q2, q3, q4, q5, a7, q6.trans h8, f30, q7.trans h9⟩
theorem zt_refused {d : Nat} {g : zv_H} (gL : zt_L g) (v : Int) : C8_refused (d + 1) 1 v g = some (-1, zv_sI g 1 6 v) := by
  have l1 : zv_lay 1 = (1, 8) := rfl
  refine lC8_refused (zl_ob gL l1) ?_
  rw [qE8_refused, zm_e (zl_pI gL l1 6 v)]
theorem zt_given {d : Nat} {g : zv_H} (gL : zt_L g) (v : Int) : C8_given (d + 1) 1 v g = some (v, zv_sI g 1 6 0) := by
  have l1 : zv_lay 1 = (1, 8) := rfl
  refine lC8_given (zl_ob gL l1) ?_
  rw [qE8_given, zm_e (zl_pI gL l1 6 0)]
/-- the STATUS alone -/
theorem zt_GG_st {m a b : Nat} {g k : zv_H} (S : zt_GG m a b g k) (v : Int) {B : List Nat} {k' : zv_H} (F : zm_F [] B k k') (b0 : B.contains 20 = false) (b1 : B.contains 27 = false) (b2 : B.contains 28 = false) (b3 : B.contains 29 = false) : zt_GG m a b (zv_sI g 1 6 v) k' := by
  have eI : ∀ r i, ¬ (r = 1 ∧ i = 6) → zv_I (zv_sI g 1 6 v) r i = zv_I g r i := fun r i q => zy_In _ _ q
  have lab := zt_lab (zt_GG_ab S)
  refine ⟨(show zv_R g 1 3 = a from zt_GG_r S), (show zv_R g 1 4 = b from zt_GG_s S), zt_GG_ab S, ?_, fun i hi => ?_, fun i hi => ?_, ?_, ?_, ?_, zt_wt_k (zt_GG_wt S) (fun r i hr => eI r i (fun q => by omega)) (zm_F_g F 20 b0) (zm_F_a F 361)⟩
  · rw [zm_F_a F 348]
    exact zt_H_9 (zt_GG_H S) (fun r i hr => eI r i (fun q => by omega)) (fun _ _ _ => rfl) (fun _ _ _ => rfl)
  · exact (eI _ _ (fun q => by have := zc_sttb (a := b) hi; have := zc_lh lab.2.1; omega)).trans (zt_GG_N S i hi)
  · rw [zm_F_g F 27 b1] at hi
    rw [eI _ _ (fun q => by omega), zm_F_a F 366]
    exact zt_GG_tp S i hi
  · rw [zm_F_a F 348]
    exact zt_GG_n1 S
  · rw [zm_F_a F 348]
    exact zt_GG_n2 S
  · rw [eI 1 7 (fun q => by omega), eI 5 8 (fun q => by omega), eI 5 9 (fun q => by omega), zm_F_g F 28 b2, zm_F_g F 29 b3]
    exact zt_GG_fl S
end
/-! A91.load2 -/
section
/-! ===== the tie: a TEXT is loaded ===== -/
/-- the class, up to its first TOKEN -/
theorem zt_C3_begin {d : Nat} {g : zv_H} (gL : zt_L g) {n : Int} (hn : n ≤ zv_I g 5 2) : ∃ g1, E3_begin (d + 2) 5 n g = ((C3_next (d + 2) 5 g1).bind fun q7 => (some (none, q7.2) : zv_O)) ∧ g1.1 = g.1 ∧ g1.2.2 = g.2.2 ∧ (∀ r k, r ≠ 5 → zv_I g1 r k = zv_I g r k) ∧ (∀ k, 10 ≤ k → zv_I g1 5 k = zv_I g 5 k) ∧ zv_I g1 5 3 = n ∧ zv_I g1 5 2 = 0 ∧ zv_I g1 5 8 = 0 ∧ zv_I g1 5 9 = -1 ∧ zv_I g1 5 6 = 0 := by
  have em : min n (zv_I g 5 2) = n := Int.min_eq_left hn
  refine ⟨zv_sI (zv_sI (zv_sI (zv_sI (zv_sI g 5 3 n) 5 2 0) 5 8 0) 5 9 (-1)) 5 6 0, ?_, rfl, rfl, fun r k hr => ?_, fun k hk => ?_, ?_, ?_, ?_, ?_, zy_I _ _ _ _⟩
  · rw [qE3_begin, zm_e (zl_gI gL zt_lay5 2), em, zm_e (zl_pI gL zt_lay5 3 _), zm_e (zl_pI (g := zv_sI g 5 3 n) gL zt_lay5 2 _), zm_e (zl_pI (g := zv_sI (zv_sI g 5 3 n) 5 2 0) gL zt_lay5 8 _), zm_e (zl_pI (g := zv_sI (zv_sI (zv_sI g 5 3 n) 5 2 0) 5 8 0) gL zt_lay5 9 _), zm_e (zl_pI (g := zv_sI (zv_sI (zv_sI (zv_sI g 5 3 n) 5 2 0) 5 8 0) 5 9 (-1)) gL zt_lay5 6 _)]
  · rw [zy_In _ _ (fun q => hr q.1), zy_In _ _ (fun q => hr q.1), zy_In _ _ (fun q => hr q.1), zy_In _ _ (fun q => hr q.1), zy_In _ _ (fun q => hr q.1)]
  · rw [zy_In _ _ (fun q => by omega), zy_In _ _ (fun q => by omega), zy_In _ _ (fun q => by omega), zy_In _ _ (fun q => by omega), zy_In _ _ (fun q => by omega)]
  · rw [zy_In _ _ (fun q => absurd q.2 (by decide)), zy_In _ _ (fun q => absurd q.2 (by decide)), zy_In _ _ (fun q => absurd q.2 (by decide)), zy_In _ _ (fun q => absurd q.2 (by decide)), zy_I]
  · rw [zy_In _ _ (fun q => absurd q.2 (by decide)), zy_In _ _ (fun q => absurd q.2 (by decide)), zy_In _ _ (fun q => absurd q.2 (by decide)), zy_I]
  · rw [zy_In _ _ (fun q => absurd q.2 (by decide)), zy_In _ _ (fun q => absurd q.2 (by decide)), zy_I]
  · rw [zy_In _ _ (fun q => absurd q.2 (by decide)), zy_I]
section
variable {a b m : Nat} {u : Nat → Nat → Int}
/-- behind the LINES: the end of the class's load, of the reference's -/
theorem zt_117_1 {d : Nat} {c0 : Nat → Int} {k0 g k : zv_H} (o : zt_lo1 a b u c0 k0 g k) : L8_load_117 (d + 7) 1 g = some (some (zv_i (zm_nst (zv_I k 348))), zv_sI (zv_sR (zv_sR g 1 3 b) 1 4 a) 1 6 0) := by
  have gL := zt_L_A (zt_lo1_A o)
  have l1 : zv_lay 1 = (1, 8) := rfl
  have U := zt_H_U (zt_lo1_H o)
  have e5 : zv_gR g 1 8 2 = some 5 := zl_gF gL l1 2 4
  have L3 : zt_L (zv_sR (zv_sR g 1 3 b) 1 4 a) := zl_sR (zl_sR gL (fun _ => rfl) (by decide) (by decide)) (fun _ => rfl) (by decide) (by decide)
  have L2 : zt_L (zv_sR g 1 3 b) := zl_sR gL (fun _ => rfl) (by decide) (by decide)
  have r3 : zv_R (zv_sR (zv_sR g 1 3 b) 1 4 a) 1 3 = b := by
    show (if (1 = 1 ∧ 3 = 4) then a else zv_R (zv_sR g 1 3 b) 1 3) = b
    rw [if_neg (by decide)]
    show (if (1 = 1 ∧ 3 = 3) then b else zv_R g 1 3) = b
    exact if_pos (by decide)
  have eg := zt_given (d := d + 6) L3 (zm_nst (zv_I k 348))
  rw [qL8_load_117, zm_e e5, zm_e (zl_gI gL zt_lay5 8), zt_lo1_f8 o, if_pos rfl, zm_e (zl_gR gL l1 3), zm_e (zl_gR gL l1 4), zt_lo1_r3 o, zt_lo1_r4 o, zm_e (zl_pR gL l1 3 _), zm_e (zl_pR L2 l1 4 _), zm_e (zl_gR L3 l1 3), r3, zm_e (zl_gI L3 (zt_U_la U) 12), show zv_I (zv_sR (zv_sR g 1 3 b) 1 4 a) b 12 = zm_nst (zv_I k 348) from (show zv_I g b 12 = zm_nst (zv_I k 348) from zt_U_ct U), zm_e eg]
theorem zt_117_0 {d : Nat} {c0 T : Nat → Int} {n : Nat} {k0 g k : zv_H} (o : zt_lo0 a b u c0 T n k0 g k) : L8_load_117 (d + 7) 1 g = some (some (zv_i (-1)), zv_sI g 1 6 9) := by
  have gL := zt_L_A (zt_lo0_A o)
  have e5 : zv_gR g 1 8 2 = some 5 := zl_gF gL (show zv_lay 1 = (1, 8) from rfl) 2 4
  have f0 := zt_bd_f0 (zt_lo0_B o)
  rw [qL8_load_117, zm_e e5, zm_e (zl_gI gL zt_lay5 8), if_neg (by omega), zm_e (zt_refused (d := d + 6) gL 9)]
theorem zt_203_1 {D : Nat} {k : zv_H} (hM : zm_M k) (W : zm_W (zv_I k 348)) (z : zv_I k 347 30 = 0) : ∃ k', L9_load_203 (D + 11) 347 k = some (some (zv_i (zm_nst (zv_I k 348))), k') ∧ zm_F [] [3, 27, 28, 29] k k' ∧ zv_I k' 347 27 = 0 ∧ zv_I k' 347 28 = 0 ∧ zv_I k' 347 29 = -1 := by
  have F : zm_F [] [3, 27, 28, 29] k (zv_sI (zv_sI (zv_sI (zv_sI k 347 27 0) 347 28 0) 347 29 (-1)) 347 3 0) := zm_F_f (zm_F_f (zm_F_f (zm_F_f (zm_F_r _ _ k) rfl _) rfl _) rfl _) rfl _
  have c : zv_I (zv_sI (zv_sI (zv_sI (zv_sI k 347 27 0) 347 28 0) 347 29 (-1)) 347 3 0) 348 = zv_I k 348 := zm_F_a F 348
  have m1 : zm_M (zv_sI k 347 27 0) := hM
  have m2 : zm_M (zv_sI (zv_sI k 347 27 0) 347 28 0) := hM
  have m3 : zm_M (zv_sI (zv_sI (zv_sI k 347 27 0) 347 28 0) 347 29 (-1)) := hM
  have m4 : zm_M (zv_sI (zv_sI (zv_sI (zv_sI k 347 27 0) 347 28 0) 347 29 (-1)) 347 3 0) := hM
  have z1 : zv_I (zv_sI k 347 27 0) 347 30 = 0 := (zy_In _ _ (fun q => absurd q.2 (by decide))).trans z
  have z2 : zv_I (zv_sI (zv_sI k 347 27 0) 347 28 0) 347 30 = 0 := (zy_In _ _ (fun q => absurd q.2 (by decide))).trans z1
  have z4 : zv_I (zv_sI (zv_sI (zv_sI (zv_sI k 347 27 0) 347 28 0) 347 29 (-1)) 347 3 0) 347 30 = 0 := (zy_In _ _ (fun q => absurd q.2 (by decide))).trans ((zy_In _ _ (fun q => absurd q.2 (by decide))).trans z2)
  refine ⟨_, ?_, F, ?_, ?_, ?_⟩
  · rw [qL9_load_203, zm_e (zm_pI hM 27 0), zm_e (zm_gI m1 30), z1, zm_e (zm_pI m1 28 0), zm_e (zm_gI m2 30), z2, if_pos (by decide), qL9_load_232, zm_e (zm_pI m2 29 (-1)), zm_e (zm_pI m3 3 0), zm_e (zm_gI m4 30), z4, if_pos rfl, zm_e (zm_states m4 (D + 9) (by rw [c]; exact W.1.1)), c]
  · rw [zy_In _ _ (fun q => absurd q.2 (by decide)), zy_In _ _ (fun q => absurd q.2 (by decide)), zy_In _ _ (fun q => absurd q.2 (by decide)), zy_I]
  · rw [zy_In _ _ (fun q => absurd q.2 (by decide)), zy_In _ _ (fun q => absurd q.2 (by decide)), zy_I]
  · rw [zy_In _ _ (fun q => absurd q.2 (by decide)), zy_I]
theorem zt_203_0 {D : Nat} {k : zv_H} (hM : zm_M k) (p : 0 < zv_I k 347 30) : ∃ k', L9_load_203 (D + 11) 347 k = some (some (zv_i (-1)), k') ∧ zm_F [348] [3, 27, 28, 29] k k' ∧ (∀ x : Nat, x < 4236 → zv_I k' 348 x = zv_I k 349 x) ∧ zv_I k' 347 27 = 0 ∧ zv_I k' 347 28 = zv_I k 347 30 ∧ zv_I k' 347 29 = zv_I k 347 31 := by
  have F : zm_F [] [3, 27, 28, 29] k (zv_sI (zv_sI (zv_sI (zv_sI k 347 27 0) 347 28 (zv_I k 347 30)) 347 29 (zv_I k 347 31)) 347 3 0) := zm_F_f (zm_F_f (zm_F_f (zm_F_f (zm_F_r _ _ k) rfl _) rfl _) rfl _) rfl _
  have m1 : zm_M (zv_sI k 347 27 0) := hM
  have m2 : zm_M (zv_sI (zv_sI k 347 27 0) 347 28 (zv_I k 347 30)) := hM
  have m3 : zm_M (zv_sI (zv_sI (zv_sI k 347 27 0) 347 28 (zv_I k 347 30)) 347 29 (zv_I k 347 31)) := hM
  have m4 : zm_M (zv_sI (zv_sI (zv_sI (zv_sI k 347 27 0) 347 28 (zv_I k 347 30)) 347 29 (zv_I k 347 31)) 347 3 0) := hM
  have z1 : zv_I (zv_sI k 347 27 0) 347 30 = zv_I k 347 30 := zy_In _ _ (fun q => absurd q.2 (by decide))
  have z2 : zv_I (zv_sI (zv_sI k 347 27 0) 347 28 (zv_I k 347 30)) 347 30 = zv_I k 347 30 := (zy_In _ _ (fun q => absurd q.2 (by decide))).trans z1
  have y2 : zv_I (zv_sI (zv_sI k 347 27 0) 347 28 (zv_I k 347 30)) 347 31 = zv_I k 347 31 := (zy_In _ _ (fun q => absurd q.2 (by decide))).trans (zy_In _ _ (fun q => absurd q.2 (by decide)))
  have z4 : zv_I (zv_sI (zv_sI (zv_sI (zv_sI k 347 27 0) 347 28 (zv_I k 347 30)) 347 29 (zv_I k 347 31)) 347 3 0) 347 30 = zv_I k 347 30 := (zy_In _ _ (fun q => absurd q.2 (by decide))).trans ((zy_In _ _ (fun q => absurd q.2 (by decide))).trans z2)
  have w27 : zv_I (zv_sI (zv_sI (zv_sI (zv_sI k 347 27 0) 347 28 (zv_I k 347 30)) 347 29 (zv_I k 347 31)) 347 3 0) 347 27 = 0 := by rw [zy_In _ _ (fun q => absurd q.2 (by decide)), zy_In _ _ (fun q => absurd q.2 (by decide)), zy_In _ _ (fun q => absurd q.2 (by decide)), zy_I]
  have w28 : zv_I (zv_sI (zv_sI (zv_sI (zv_sI k 347 27 0) 347 28 (zv_I k 347 30)) 347 29 (zv_I k 347 31)) 347 3 0) 347 28 = zv_I k 347 30 := by rw [zy_In _ _ (fun q => absurd q.2 (by decide)), zy_In _ _ (fun q => absurd q.2 (by decide)), zy_I]
  have w29 : zv_I (zv_sI (zv_sI (zv_sI (zv_sI k 347 27 0) 347 28 (zv_I k 347 30)) 347 29 (zv_I k 347 31)) 347 3 0) 347 29 = zv_I k 347 31 := by rw [zy_In _ _ (fun q => absurd q.2 (by decide)), zy_I]
  have top : L9_load_203 (D + 11) 347 k = L9_load_254 (D + 11) 347 0 (zv_sI (zv_sI (zv_sI (zv_sI k 347 27 0) 347 28 (zv_I k 347 30)) 347 29 (zv_I k 347 31)) 347 3 0) := by
    rw [qL9_load_203, zm_e (zm_pI hM 27 0), zm_e (zm_gI m1 30), z1, zm_e (zm_pI m1 28 _), zm_e (zm_gI m2 30), z2, if_neg (by omega), zm_e (zm_gI m2 31), y2, qL9_load_232, zm_e (zm_pI m2 29 _), zm_e (zm_pI m3 3 0), zm_e (zm_gI m4 30), z4, if_neg (by omega)]
  generalize zv_sI (zv_sI (zv_sI (zv_sI k 347 27 0) 347 28 (zv_I k 347 30)) 347 29 (zv_I k 347 31)) 347 3 0 = k4 at F m4 w27 w28 w29 top
  obtain ⟨k5, e5, F5, x5⟩ := zm_load254 (D + 11) 4236 0 k4 rfl m4 (fun x hx => absurd hx (Nat.not_lt_zero x))
  have m5 := zm_F_M F5 m4
  have F6 : zm_F [] [3] k5 (zv_sI k5 347 3 9) := zm_F_f (zm_F_r _ _ k5) rfl _
  refine ⟨_, ?_, zm_F_t (zm_F_s F rfl rfl) (zm_F_t (zm_F_s F5 rfl rfl) (zm_F_s F6 rfl rfl)), fun x hx => ?_, ?_, ?_, ?_⟩
  · rw [top, show L9_load_254 (D + 11) 347 0 k4 = _ from e5, qL9_load_254, if_neg (by decide), zm_e (zm_refuse m5 (D + 10) 9)]
  · rw [zm_F_a F6 348, x5 x hx, zm_F_a F 349]
  · rw [zm_F_g F6 27, zm_F_g F5 27, w27]
  · rw [zm_F_g F6 28, zm_F_g F5 28, w28]
  · rw [zm_F_g F6 29, zm_F_g F5 29, w29]
end
end
/-! A92.load3 -/
section
/-! ===== the tie: a TEXT is loaded, both ===== -/
section
variable {a b m : Nat} {g k : zv_H} {u : Nat → Nat → Int}
/-- all is well at its end -/
theorem zt_GG_1 {d D : Nat} {c0 : Nat → Int} {k0 : zv_H} (ab : (a = 9 ∧ b = 178) ∨ (a = 178 ∧ b = 9)) (o : zt_lo1 a b u c0 k0 g k) (hM : zm_M k) (hw : ∀ g' k' : zv_H, (∀ r i, r = 3 ∨ r = 4 → zv_I g' r i = u r i) → zv_I k' 347 20 = zv_I k 347 20 → zv_I k' 361 = zv_I k 361 → zt_wt g' k') : ∃ (v : Int) (g' k' : zv_H), L8_load_117 (d + 7) 1 g = some (some (zv_i v), g') ∧ L9_load_203 (D + 11) 347 k = some (some (zv_i v), k') ∧ zt_GG m b a g' k' := by
  have e1 := zt_117_1 (d := d) o
  have W := zt_U_W (zt_H_U (zt_lo1_H o))
  obtain ⟨k', e2, F, x27, x28, x29⟩ := zt_203_1 (D := D) hM W (zt_lo1_z o)
  have lab := zt_lab ab
  have la9 := zc_lh lab.1
  have eI : ∀ r i, ¬ (r = 1 ∧ i = 6) → zv_I (zv_sI (zv_sR (zv_sR g 1 3 b) 1 4 a) 1 6 0) r i = zv_I g r i := fun r i q => zy_In _ _ q
  have r3 : zv_R (zv_sR (zv_sR g 1 3 b) 1 4 a) 1 3 = b := by
    show (if (1 = 1 ∧ 3 = 4) then a else zv_R (zv_sR g 1 3 b) 1 3) = b
    rw [if_neg (by decide)]
    show (if (1 = 1 ∧ 3 = 3) then b else zv_R g 1 3) = b
    exact if_pos (by decide)
  have r4 : zv_R (zv_sR (zv_sR g 1 3 b) 1 4 a) 1 4 = a := by
    show (if (1 = 1 ∧ 4 = 4) then a else zv_R (zv_sR g 1 3 b) 1 4) = a
    exact if_pos (by decide)
  have eR : ∀ r i, 9 ≤ r → zv_R (zv_sI (zv_sR (zv_sR g 1 3 b) 1 4 a) 1 6 0) r i = zv_R g r i := fun r i hr => by
    show (if (r = 1 ∧ i = 4) then a else zv_R (zv_sR g 1 3 b) r i) = zv_R g r i
    rw [if_neg (fun q => by omega)]
    show (if (r = 1 ∧ i = 3) then b else zv_R g r i) = zv_R g r i
    exact if_neg (fun q => by omega)
  have c : zv_I k' 348 = zv_I k 348 := zm_F_a F 348
  have n1 := zt_lo1_n1 o
  have n2 := zt_lo1_n2 o
  refine ⟨_, _, k', e1, e2, (show zv_R (zv_sR (zv_sR g 1 3 b) 1 4 a) 1 3 = b from r3), (show zv_R (zv_sR (zv_sR g 1 3 b) 1 4 a) 1 4 = a from r4), ?_, ?_, fun i hi => ?_, fun i hi => ?_, ?_, ?_, Or.inr ⟨?_, ?_, ?_⟩, ?_⟩
  · rcases ab with q | q
    · exact Or.inr ⟨q.2, q.1⟩
    · exact Or.inl ⟨q.2, q.1⟩
  · rw [c]
    exact zt_H_9 (zt_lo1_H o) (fun r i hr => eI r i (fun q => by omega)) (fun _ _ _ => rfl) (fun r i hr => eR r i hr)
  · exact (eI _ _ (fun q => by have := zc_sttb (a := a) hi; omega)).trans (zt_U_nr (zt_H_U (zt_lo1_O o)) i hi)
  · rw [x27] at hi
    omega
  · rw [c]
    omega
  · rw [c]
    omega
  · rw [eI 1 7 (fun q => by omega)]
    exact zt_lo1_l o
  · rw [eI 5 8 (fun q => by omega), x28]
    exact zt_lo1_f8 o
  · rw [eI 5 9 (fun q => by omega), x29]
    exact zt_lo1_f9 o
  · exact hw _ _ (fun r i hr => (eI r i (fun q => by omega)).trans (zt_lo1_t3 o r i hr)) (zm_F_g F 20) (zm_F_a F 361)
/-- a fault at its end -/
theorem zt_GG_0 {d D : Nat} {c0 T : Nat → Int} {n : Nat} {k0 : zv_H} (ab : (a = 9 ∧ b = 178) ∨ (a = 178 ∧ b = 9)) (o : zt_lo0 a b u c0 T n k0 g k) (hc : ∀ x : Nat, x < 4236 → zv_I k 349 x = c0 x) (n1 : 0 ≤ c0 1 ∧ c0 1 ≤ 1000000 + 1000 * m) (n2 : c0 2 ≤ 100000 + 100 * m) (hw : ∀ g' k' : zv_H, (∀ r i, r = 3 ∨ r = 4 → zv_I g' r i = u r i) → zv_I k' 347 20 = zv_I k 347 20 → zv_I k' 361 = zv_I k 361 → zt_wt g' k') : ∃ (v : Int) (g' k' : zv_H), L8_load_117 (d + 7) 1 g = some (some (zv_i v), g') ∧ L9_load_203 (D + 11) 347 k = some (some (zv_i v), k') ∧ zt_GG m a b g' k' := by
  have e1 := zt_117_0 (d := d) o
  have hM := zt_ty_M (zt_bd_Y (zt_lo0_B o))
  obtain ⟨k', e2, F, cx, x27, x28, x29⟩ := zt_203_0 (D := D) hM (zt_lo0_p o)
  have lab := zt_lab ab
  have la9 := zc_lh lab.2.1
  have eI : ∀ r i, ¬ (r = 1 ∧ i = 6) → zv_I (zv_sI g 1 6 9) r i = zv_I g r i := fun r i q => zy_In _ _ q
  have ec : ∀ x : Nat, x < 4236 → zv_I k' 348 x = c0 x := fun x hx => (cx x hx).trans (hc x hx)
  have A' : zc_A g := zt_lo0_A o
  have H0 : zt_H a (zv_I k' 348) g := zt_H_4236 (zt_lo0_O o) A' ec
  have fl := zt_bd_f (zt_lo0_B o)
  have p := zt_lo0_p o
  refine ⟨_, _, k', e1, e2, (show zv_R g 1 3 = a from zt_lo0_r3 o), (show zv_R g 1 4 = b from zt_lo0_r4 o), ab, ?_, fun i hi => ?_, fun i hi => ?_, ?_, ?_, Or.inr ⟨?_, ?_, ?_⟩, ?_⟩
  · exact zt_H_9 H0 (fun r i hr => eI r i (fun q => by omega)) (fun _ _ _ => rfl) (fun _ _ _ => rfl)
  · exact (eI _ _ (fun q => by have := zc_sttb (a := b) hi; omega)).trans (zt_lo0_N o i hi)
  · rw [x27] at hi
    omega
  · rw [ec 1 (by decide)]
    exact n1
  · rw [ec 2 (by decide)]
    exact n2
  · rw [eI 1 7 (fun q => by omega)]
    exact zt_lo0_l o
  · rw [eI 5 8 (fun q => by omega), x28]
    rcases fl with q | q
    · omega
    · exact q.1.symm
  · rw [eI 5 9 (fun q => by omega), x29]
    rcases fl with q | q
    · omega
    · exact q.2.symm
  · exact hw _ _ (fun r i hr => (eI r i (fun q => by omega)).trans (zt_lo0_t3 o r i hr)) (zm_F_g F 20) (zm_F_a F 361)
/-- a TEXT is loaded -/
theorem zj_load {d D : Nat} (hA : zc_A g) (I : zm_MI k) (S : zt_GG m a b g k) (ts : zv_I g 5 2 = zv_I k 347 27) {n : Int} (rn : zv_rg n) : ∃ (v : Int) (g' k' : zv_H) (a' b' : Nat), C8_load (d + 28) 1 n g = some (v, g') ∧ C9_load (D + 28) 347 n k = some (v, k') ∧ zt_GG m a' b' g' k' := by
  have gL := zt_L_A hA
  obtain ⟨hM, W, K, t27, t35, _, _⟩ := id I
  have l1 : zv_lay 1 = (1, 8) := rfl
  have e5 : zv_gR g 1 8 2 = some 5 := zl_gF gL l1 2 4
  have finC : ∀ {v : Int} {g' : zv_H}, E8_load (d + 27) 1 n g = some (some (zv_i v), g') → C8_load (d + 28) 1 n g = some (v, g') := fun {v g'} h => lC8_load (zl_ob gL l1) h
  have finR : ∀ {v : Int} {k' : zv_H}, E9_load (D + 27) 347 n k = some (some (zv_i v), k') → C9_load (D + 28) 347 n k = some (v, k') := fun {v k'} h => lC9_load (zm_ob hM) h
  have qC := qE8_load (d + 27) 1 n g
  rw [zm_e e5, zm_e (zl_gI gL zt_lay5 2), zm_e (zc_within (d := d + 26) g n 0 (zv_I g 5 2))] at qC
  dsimp only at qC
  have qR := qE9_load (D + 27) 347 n k
  rw [zm_e (zm_gI hM 27), zm_e (zm_isIn (d := D + 26) n 0 (zv_I k 347 27))] at qR
  dsimp only at qR
  by_cases c : 0 ≤ n ∧ n ≤ zv_I g 5 2
  rotate_left
  · -- no such text
    rw [if_neg c, if_pos rfl, zm_e (zt_refused (d := d + 26) gL 1)] at qC
    have F : zm_F [] [3, 4] k (zv_sI (zv_sI k 347 4 0) 347 3 1) := zm_F_f (zm_F_f (zm_F_r _ _ k) rfl _) rfl _
    rw [← ts, if_neg c, if_pos rfl, qL9_load_18, zm_e (zm_is hM (D + 26) 1)] at qR
    dsimp only at qR
    rw [if_neg (show ¬ (1 : Int) = 0 by decide), if_pos rfl] at qR
    exact ⟨-1, _, _, a, b, finC qC, finR qR, zt_GG_st S 1 F rfl rfl rfl rfl⟩
  rw [if_pos c, if_neg (by decide)] at qC
  rw [← ts, if_pos c, if_neg (by decide), qL9_load_18, zm_e (zm_is hM (D + 26) 0)] at qR
  dsimp only at qR
  rw [if_pos rfl, if_neg (by decide)] at qR
  obtain ⟨nn, rfl⟩ : ∃ nn : Nat, n = nn := ⟨n.toNat, by omega⟩
  have lab := zt_lab (zt_GG_ab S)
  have hb := lab.2.1
  have hb9 := zc_lh hb
  have n7 : nn ≤ 700 := by omega
  -- the class: all anew
  have Z := zc_QI hA (r := 1) (k := 7) (v := 1) (zc_frO zc_h8 (by decide) (by decide) rfl (by decide)) (by unfold zv_rg; omega)
  have L1 : zt_L (zv_sI g 1 7 1) := gL
  have z7 : zv_I (zv_sI g 1 7 1) 1 7 = 1 := zy_I _ _ _ _
  have zI : ∀ r i, ¬ (r = 1 ∧ i = 7) → zv_I (zv_sI g 1 7 1) r i = zv_I g r i := fun r i q => zy_In _ _ q
  have O1 : zt_H a (zv_I k 348) (zv_sI g 1 7 1) := zt_H_9 (zt_GG_H S) (fun r i hr => zI r i (fun q => by omega)) (fun _ _ _ => rfl) (fun _ _ _ => rfl)
  have r31 : zv_R (zv_sI g 1 7 1) 1 3 = a := (show zv_R g 1 3 = a from zt_GG_r S)
  have r41 : zv_R (zv_sI g 1 7 1) 1 4 = b := (show zv_R g 1 4 = b from zt_GG_s S)
  have e4 : zv_gR (zv_sI g 1 7 1) 1 8 4 = some b := (zl_gR L1 l1 4).trans (by rw [r41])
  rw [zm_e (zl_pZ gL l1 7 (Or.inr rfl)), zm_e e4] at qC
  have num1 : ∀ i : Nat, i < 48 → zv_I (zv_sI g 1 7 1) (zc_stt b i) 0 = i := fun i hi => (zI _ _ (fun q => by have := zc_sttb (a := b) hi; omega)).trans (zt_GG_N S i hi)
  generalize zv_sI g 1 7 1 = g1 at qC Z L1 z7 zI O1 r31 r41 num1
  obtain ⟨g2, y2, B2⟩ := zt_begin (d := d + 23) hb (zc_Bh_of Z.2 hb)
  obtain ⟨g2', y2', X2⟩ := zc_C0_begin (d := d + 23) Z.2 hb
  have eg2 : g2' = g2 := Option.some.inj (y2'.symm.trans y2)
  subst eg2
  have L2 := zt_L_A X2.2
  have sc := zt_sc_bx hb B2 num1
  have stn : ∀ r, r < 9 → ∀ j, j < 48 → r ≠ zc_stt b j := fun r hr j hj e => by have := zc_sttb (a := b) hj; omega
  have lo2 : (∀ r i, r < 9 → zv_I g2' r i = zv_I g1 r i) ∧ (∀ r i, r < 9 → zv_R g2' r i = zv_R g1 r i) := ⟨fun r i hr => zt_bx_oI B2 r i (stn r hr) (by omega) (by omega) (by omega) (by omega) (by omega) (by omega), fun r i hr => zt_bx_oR B2 r i (stn r hr) (fun q => by omega)⟩
  have kb : zt_k b g1 g2' := by
    have inS : ∀ r, ¬ zt_in b r → ∀ j, j < 48 → r ≠ zc_stt b j := fun r hr j hj e => by
      have sl := zc_stl hb hj
      exact hr (by rw [e]; exact ⟨by have := zc_sttb (a := b) hj; omega, by have := zc_sttb (a := b) hj; omega, sl.2.1⟩)
    have inB : ∀ x, x = 0 ∨ x = 14 ∨ x = 17 ∨ x = 22 ∨ x = 23 ∨ x = 24 → zt_in b (b + x) := fun x hx => by
      rcases hb9 with q | q <;> rw [q] <;> rcases hx with z | z | z | z | z | z <;> rw [z] <;> exact ⟨by decide, by decide, rfl⟩
    have ne : ∀ r, ¬ zt_in b r → ∀ x, x = 0 ∨ x = 14 ∨ x = 17 ∨ x = 22 ∨ x = 23 ∨ x = 24 → r ≠ b + x := fun r hr x hx e => hr (by rw [e]; exact inB x hx)
    refine zt_k_of (zt_bx_f1 B2) (zt_bx_f2 B2) (fun r i hr => ?_) (fun r i hr => zt_bx_oJ B2 r i (inS r hr)) (fun r i hr => zt_bx_oR B2 r i (inS r hr) (fun q => ne r hr 0 (Or.inl rfl) q.1))
    exact zt_bx_oI B2 r i (inS r hr) (ne r hr 0 (Or.inl rfl)) (ne r hr 14 (by decide)) (ne r hr 17 (by decide)) (ne r hr 22 (by decide)) (ne r hr 23 (by decide)) (ne r hr 24 (by decide))
  have O2 : zt_H a (zv_I k 348) g2' := zt_H_k O1 kb lab.2.2
  have e52 : zv_gR g2' 1 8 2 = some 5 := zl_gF L2 l1 2 4
  have sz2 : zv_I g2' 5 2 = zv_I g 5 2 := (lo2.1 5 2 (by decide)).trans (zI 5 2 (fun q => by omega))
  obtain ⟨g3, y3, f31, f32, f3I, f3k, x3, x2, x8, x9, x6⟩ := zt_C3_begin (d := d + 24) L2 (n := (nn : Int)) (by rw [sz2]; exact c.2)
  obtain ⟨g4, y4, P4, A4, t4⟩ := zc_C3_begin (d := d + 24) X2.2 rn
  have L3 := zt_L_12 L2 f31 f32
  -- the reference: the numbers are kept, all anew
  have F1 : zm_F [] [3, 4, 30, 33, 36, 37] k (zv_sI (zv_sI (zv_sI (zv_sI (zv_sI (zv_sI k 347 4 0) 347 3 0) 347 36 (nn : Int)) 347 33 0) 347 30 0) 347 37 0) := zm_F_f (zm_F_f (zm_F_f (zm_F_f (zm_F_f (zm_F_f (zm_F_r _ _ k) rfl _) rfl _) rfl _) rfl _) rfl _) rfl _
  have w36 : zv_I (zv_sI (zv_sI (zv_sI (zv_sI (zv_sI (zv_sI k 347 4 0) 347 3 0) 347 36 (nn : Int)) 347 33 0) 347 30 0) 347 37 0) 347 36 = nn := by rw [zy_In _ _ (fun q => absurd q.2 (by decide)), zy_In _ _ (fun q => absurd q.2 (by decide)), zy_In _ _ (fun q => absurd q.2 (by decide)), zy_I]
  have w33 : zv_I (zv_sI (zv_sI (zv_sI (zv_sI (zv_sI (zv_sI k 347 4 0) 347 3 0) 347 36 (nn : Int)) 347 33 0) 347 30 0) 347 37 0) 347 33 = 0 := by rw [zy_In _ _ (fun q => absurd q.2 (by decide)), zy_In _ _ (fun q => absurd q.2 (by decide)), zy_I]
  have w30 : zv_I (zv_sI (zv_sI (zv_sI (zv_sI (zv_sI (zv_sI k 347 4 0) 347 3 0) 347 36 (nn : Int)) 347 33 0) 347 30 0) 347 37 0) 347 30 = 0 := by rw [zy_In _ _ (fun q => absurd q.2 (by decide)), zy_I]
  have w37 : zv_I (zv_sI (zv_sI (zv_sI (zv_sI (zv_sI (zv_sI k 347 4 0) 347 3 0) 347 36 (nn : Int)) 347 33 0) 347 30 0) 347 37 0) 347 37 = 0 := zy_I _ _ _ _
  have m1 : zm_M (zv_sI (zv_sI k 347 4 0) 347 3 0) := hM
  have m2 : zm_M (zv_sI (zv_sI (zv_sI k 347 4 0) 347 3 0) 347 36 (nn : Int)) := hM
  have m3 : zm_M (zv_sI (zv_sI (zv_sI (zv_sI k 347 4 0) 347 3 0) 347 36 (nn : Int)) 347 33 0) := hM
  have m4 : zm_M (zv_sI (zv_sI (zv_sI (zv_sI (zv_sI k 347 4 0) 347 3 0) 347 36 (nn : Int)) 347 33 0) 347 30 0) := hM
  rw [zm_e (zm_pI m1 36 _), zm_e (zm_pI m2 33 0), zm_e (zm_pI m3 30 0), zm_e (zm_pI m4 37 0)] at qR
  generalize zv_sI (zv_sI (zv_sI (zv_sI (zv_sI (zv_sI k 347 4 0) 347 3 0) 347 36 (nn : Int)) 347 33 0) 347 30 0) 347 37 0 = k1 at F1 w36 w33 w30 w37 qR
  have hM1 := zm_F_M F1 hM
  obtain ⟨k2, i2, F2, c2⟩ := zm_load48 (D + 27) 4236 0 k1 rfl hM1 (fun x hx => absurd hx (Nat.not_lt_zero x))
  have hM2 := zm_F_M F2 hM1
  obtain ⟨k3, e3, F3, sa, c43⟩ := zt_clears hM2 (D + 25)
  have hM3 := zm_F_M F3 hM2
  rw [show L9_load_48 (D + 27) 347 0 k1 = _ from i2, qL9_load_48, if_neg (by decide), zm_e e3] at qR
  have F03 : zm_F [348, 349] [3, 4, 30, 33, 36, 37] k k3 := zm_F_t (zm_F_s F1 rfl rfl) (zm_F_t (zm_F_s F2 rfl rfl) (zm_F_s F3 rfl rfl))
  have v36 : zv_I k3 347 36 = nn := by rw [zm_F_g F3 36, zm_F_g F2 36, w36]
  have v33 : zv_I k3 347 33 = 0 := by rw [zm_F_g F3 33, zm_F_g F2 33, w33]
  have v30 : zv_I k3 347 30 = 0 := by rw [zm_F_g F3 30, zm_F_g F2 30, w30]
  have v37 : zv_I k3 347 37 = 0 := by rw [zm_F_g F3 37, zm_F_g F2 37, w37]
  have v35 : zv_I k3 347 35 = zv_I k 347 35 := zm_F_g F03 35
  -- the text
  have tp : ∀ i : Nat, i < nn → (0 ≤ zv_I g 6 i ∧ zv_I g 6 i ≤ 255) ∧ zv_I k 366 i = zt_sb (zv_I g 6 i) := fun i hi => zt_GG_tp S i (by rw [← ts]; omega)
  have X : zt_tx (zv_I g 6) nn g3 := ⟨L3, n7, x3, fun i hi => (f3I 6 i (by decide)).trans ((lo2.1 6 i (by decide)).trans (zI 6 i (fun q => by omega))), fun i hi => (tp i hi).1⟩
  have Y : zt_ty (zv_I g 6) nn k3 := ⟨hM3, n7, v36, fun i hi => by rw [zm_F_a F03 366]; exact (tp i hi).2, fun i hi => (tp i hi).1⟩
  obtain ⟨v5, g5, k5, n5, r5, f5, F5, o5⟩ := zj_first (d := d + 24) (D := D + 22) X Y x6 x8 x9 v33 v30
  obtain ⟨k5', r5', _, R5, _⟩ := zm_reads (D + 22) hM3 (by rw [v36]; omega) (by rw [v33, v36]; omega) (by rw [v35]; exact t35)
  have ek5 : k5' = k5 := Option.some.inj (r5'.symm.trans r5)
  subst ek5
  have hM5 := zm_F_M F5 hM3
  rw [zm_e r5, zm_e (zm_f40 hM5)] at qR
  -- the class behind its first TOKEN
  have y45 : C3_begin (d + 27) 5 (nn : Int) g2' = some g5 := lC3_begin (zl_ob L2 zt_lay5) (by rw [y3, zm_e n5])
  have eg4 : g4 = g5 := Option.some.inj (y4.symm.trans y45)
  subst eg4
  have L5 := zt_L_A A4
  have t5I : ∀ r i, r ≠ 5 → zv_I g4 r i = zv_I g2' r i := fun r i hr => (f5.2.2 r i (fun q => hr q.1)).trans (f3I r i hr)
  have t5R : ∀ r i, zv_R g4 r i = zv_R g2' r i := fun r i => by unfold zv_R; rw [f5.2.1, f32]
  have t5J : ∀ r i, zv_J g4 r i = zv_J g2' r i := fun r i => by unfold zv_J; rw [f5.2.1, f32]
  have r45 : zv_R g4 1 4 = b := (t5R 1 4).trans ((lo2.2 1 4 (by decide)).trans r41)
  have r35 : zv_R g4 1 3 = a := (t5R 1 3).trans ((lo2.2 1 3 (by decide)).trans r31)
  have l5 : zv_I g4 1 7 = 1 := (t5I 1 7 (by decide)).trans ((lo2.1 1 7 (by decide)).trans z7)
  have O5 : zt_H a (zv_I k 348) g4 := zt_H_9 O2 (fun r i hr => t5I r i (by omega)) (fun r i _ => t5J r i) (fun r i _ => t5R r i)
  have tj5 : zt_tj b g2' ((g2'.1, ((fun r i => if r = 5 then zv_I g2' 5 i else zv_I g4 r i), g2'.2.2)) : zv_H) := ⟨rfl, rfl, fun r i _ _ _ _ => by
    show (if r = 5 then zv_I g2' 5 i else zv_I g4 r i) = zv_I g2' r i
    by_cases z : r = 5
    · rw [if_pos z, z]
    · rw [if_neg z, t5I r i z]⟩
  have sc5 : zt_sc b 0 (fun _ => 0) g4 := by
    have eI : ∀ r i, 9 ≤ r → zv_I g4 r i = zv_I g2' r i := fun r i hr => t5I r i (by omega)
    have eS : ∀ j i, j < 48 → zv_I g4 (zc_stt b j) i = zv_I g2' (zc_stt b j) i := fun j i hj => eI _ _ (by have := zc_sttb (a := b) hj; omega)
    have eB : ∀ x i, zv_I g4 (b + x) i = zv_I g2' (b + x) i := fun x i => eI _ _ (by omega)
    exact ⟨hb, fun i hi => (eS i 0 hi).trans (zt_sc_nr sc i hi), fun i hi => (eS i 3 hi).trans (zt_sc_lv sc i hi), (t5R _ _).trans (zt_sc_pa sc), (t5R _ _).trans (zt_sc_fi sc), (eB _ _).trans (zt_sc_i6 sc), (eB _ _).trans (zt_sc_i7 sc), (eB _ _).trans (zt_sc_i8 sc), (eB _ _).trans (zt_sc_i9 sc), (eB _ _).trans (zt_sc_ia sc), (eB _ _).trans (zt_sc_ib sc), (eB _ _).trans (zt_sc_ic sc), (eB _ _).trans (zt_sc_id sc), (eB _ _).trans (zt_sc_ie sc), (t5J _ _).trans (zt_sc_jg sc), (t5J _ _).trans (zt_sc_jh sc), fun i hi => absurd hi (Nat.not_lt_zero i), fun i hi => absurd hi (Nat.not_lt_zero i), (t5R _ _).trans (zt_sc_he sc), (eB 0 _).trans (zt_sc_nw sc), (eB 0 _).trans (zt_sc_ct sc), (eB _ _).trans (zt_sc_ns sc), (eB _ _).trans (zt_sc_vs sc)⟩
  have T5 : zt_T0 b zt_usual g4 := zt_T0_k (zt_bx_T B2) (fun r i hr => t5I r i (by omega)) hb
  have c5 : zv_I k5' 348 = zv_I k3 348 := zm_F_a F5 348
  have K5 : zm_K k5' := zm_K_F (zm_K_F K F03) F5
  have e55 : zv_gR g4 1 8 2 = some 5 := zl_gF L5 l1 2 4
  have e54 : zv_gR g4 1 8 4 = some b := (zl_gR L5 l1 4).trans (by rw [r45])
  rw [zm_e (show C0_begin (d + 27) b g1 = some g2' from y2), zm_e e52, zm_e y45, zm_e e55, zm_e e54] at qC
  have k349 : ∀ x : Nat, x < 4236 → zv_I k5' 349 x = zv_I k 348 x := fun x hx => by rw [zm_F_a F5 349, zm_F_a F3 349, c2 x hx, zm_F_a F1 348]
  have t34 : ∀ r i, r = 3 ∨ r = 4 → zv_I g4 r i = zv_I g r i := fun r i hr => (t5I r i (by omega)).trans ((lo2.1 r i (by omega)).trans (zI r i (fun q => by omega)))
  -- from the head on
  have rest : ∀ (g6 k6 : zv_H), zc_A g6 → zt_hf b g4 g6 → zm_F [348, 360] [19, 30, 31, 32, 33, 34, 35, 37, 38] k5' k6 → ((∃ f t E, zt_hdd b (zv_I g 6) nn g6 k6 f t E) ∨ zt_bd (zv_I g 6) nn g6 k6) → ∃ (v : Int) (g' k' : zv_H) (a' b' : Nat), L8_load_54 (d + 27) 1 nn 0 g6 = some (some (zv_i v), g') ∧ L9_load_182 (D + 27) 347 k6 = some (some (zv_i v), k') ∧ zt_GG m a' b' g' k' := by
    intro g6 k6 A6 J6 F6 o6
    have h1 := zt_hf_1 hb J6
    have t36 : ∀ r i, r = 3 ∨ r = 4 → zv_I g6 r i = zv_I g r i := fun r i hr => (J6.2.2 r i (fun q => by omega) (by omega) (by omega) (fun q => by omega) (by omega) (by omega) (by omega) (by omega) (by omega)).trans (t34 r i hr)
    have hw : ∀ k7 : zv_H, zv_I k7 347 20 = zv_I k6 347 20 → zv_I k7 361 = zv_I k6 361 → ∀ g' k' : zv_H, (∀ r i, r = 3 ∨ r = 4 → zv_I g' r i = zv_I g r i) → zv_I k' 347 20 = zv_I k7 347 20 → zv_I k' 361 = zv_I k7 361 → zt_wt g' k' := fun k7 y1 y2 g' k' hg x1 x2 => zt_wt_k (zt_GG_wt S) hg (by rw [x1, y1, zm_F_g F6 20, zm_F_g F5 20, zm_F_g F03 20]) (by rw [x2, y2, zm_F_a F6 361, zm_F_a F5 361, zm_F_a F03 361])
    have O6 : zt_H a (zv_I k 348) g6 := zt_H_hf hb lab.2.2 O5 J6
    have r36 : zv_R g6 1 3 = a := (h1.2.1 1 3).trans r35
    have r46 : zv_R g6 1 4 = b := (h1.2.1 1 4).trans r45
    have l6 : zv_I g6 1 7 = 1 := (h1.1 7).trans l5
    have K6 := zm_K_F K5 F6
    have bad : ∀ g7 k7 : zv_H, zt_lo0 a b (zv_I g) (zv_I k 348) (zv_I g 6) nn k6 g7 k7 → ∃ (v : Int) (g' k' : zv_H) (a' b' : Nat), L8_load_117 (d + 27) 1 g7 = some (some (zv_i v), g') ∧ L9_load_203 (D + 27) 347 k7 = some (some (zv_i v), k') ∧ zt_GG m a' b' g' k' := fun g7 k7 o => by
      obtain ⟨v, g', k', z1, z2, z3⟩ := zt_GG_0 (m := m) (d := d + 20) (D := D + 16) (zt_GG_ab S) o (fun x hx => by rw [zm_F_a (zt_lo0_F o) 349, zm_F_a F6 349, k349 x hx]) (zt_GG_n1 S) (zt_GG_n2 S) (hw k7 (zm_F_g (zt_lo0_F o) 20) (zm_F_a (zt_lo0_F o) 361))
      exact ⟨v, g', k', a, b, z1, z2, z3⟩
    rcases o6 with ⟨f, t, E, hd⟩ | B6
    · have p : zt_lp a b (zv_I g) (zv_I k 348) (zv_I g 6) nn k6 0 g6 k6 f t E := ⟨A6, zt_hdd_H hd, O6, zt_hdd_G hd, zt_hdd_R hd, K6, zm_F_r _ _ k6, Nat.zero_le _, by rw [zt_hdd_e1 hd]; decide, by rw [zt_hdd_e2 hd]; decide, r36, r46, l6, t36⟩
      obtain ⟨g7, k7, z1, z2, z3⟩ := zj_lines (d := d + 20) (D := D + 16) hb lab.2.2 nn 0 g6 k6 f t E (Nat.sub_le _ _) p
      have z1' : L8_load_54 (d + 27) 1 nn 0 g6 = L8_load_117 (d + 27) 1 g7 := z1
      have z2' : L9_load_182 (D + 27) 347 k6 = L9_load_203 (D + 27) 347 k7 := z2
      rw [z1', z2']
      rcases z3 with o | o
      · have hM7 := zm_F_M (zt_lo1_F o) (zm_F_M F6 hM5)
        obtain ⟨v, g', k', w1, w2, w3⟩ := zt_GG_1 (m := m) (d := d + 20) (D := D + 16) (zt_GG_ab S) o hM7 (hw k7 (zm_F_g (zt_lo1_F o) 20) (zm_F_a (zt_lo1_F o) 361))
        exact ⟨v, g', k', b, a, w1, w2, w3⟩
      · exact bad g7 k7 o
    · obtain ⟨z1, z2⟩ := zj_lend (d := d + 20) (D := D + 16) B6 nn 0
      have B7 := zt_bd_ms B6
      have z1' : L8_load_54 (d + 27) 1 nn 0 g6 = L8_load_117 (d + 27) 1 g6 := z1
      have z2' : L9_load_182 (D + 27) 347 k6 = L9_load_203 (D + 27) 347 (zt_ms 0 2 k6) := z2
      rw [z1', z2']
      exact bad g6 _ ⟨A6, O6, zm_K_F K6 (zt_ms_F 0 2 k6), zm_F_s (zt_ms_F 0 2 k6) rfl rfl, r36, r46, l6, B7.1, B7.2, fun i hi => (h1.2.2 i hi).trans (zt_sc_nr sc5 i hi), t36⟩
  obtain ⟨g6', y6', Q6⟩ := zc_C3_head (d := d) A4 zc_h3 hb
  rcases o5 with ⟨w5, f, t, E, G5⟩ | ⟨w5, B5⟩
  · obtain ⟨g6, k6, z1, z2, z3, z4, z5⟩ := zj_head (d := d) (D := D) G5 K5 R5 (by rw [zm_F_g F5 37, v37]) sc5 (by rw [c5]; exact sa) (by rw [c5]; exact c43) T5
    have eg6 : g6' = g6 := Option.some.inj (y6'.symm.trans z1)
    subst eg6
    rw [zm_e z1] at qC
    obtain ⟨v, g', k', a', b', x1, x2, x3⟩ := rest g6' k6 Q6.2 z3 z4 z5
    exact ⟨v, g', k', a', b', finC (qC.trans x1), finR ((qR.trans z2).trans x2), x3⟩
  · -- no TOKEN at all
    have f0 := zt_bd_f0 B5
    have eh : C3_head (d + 27) 5 b g4 = some g4 := lC3_head (zl_ob L5 zt_lay5) (by
      rw [qE3_head, zm_e (zl_gI L5 zt_lay5 8), if_neg (by omega), zt_52_b B5])
    rw [zm_e eh] at qC
    rw [zm_e (zt_which_b (d := D + 26) B5 zm_l368 rfl)] at qR
    dsimp only at qR
    rw [if_neg (by decide), zt_156_b B5] at qR
    obtain ⟨v, g', k', a', b', x1, x2, x3⟩ := rest g4 k5' A4 (zt_hf_r b g4) (zm_F_r _ _ k5') (Or.inr B5)
    exact ⟨v, g', k', a', b', finC (qC.trans x1), finR (qR.trans x2), x3⟩
end
end
/-! A93.zd -/
section
/-! ===== the class: a call that changes reckoned cells alone ===== -/
/-- cells that are reckoned anew, or told -/
def zd_x (r k : Nat) : Prop := zt_x r k ∨ (r = 1 ∧ k = 5) ∨ r = 2
def zd_q (h h' : zv_H) : Prop := (∀ r k, ¬ zd_x r k → zv_I h' r k = zv_I h r k) ∧ ∀ r, zv_lay r ≠ (1, 4) → h'.2.2.1 r = h.2.2.1 r
theorem zd_q_r (h : zv_H) : zd_q h h := ⟨fun _ _ _ => rfl, fun _ _ => rfl⟩
theorem zd_q_t {h h1 h2 : zv_H} (f : zd_q h h1) (g : zd_q h1 h2) : zd_q h h2 := ⟨fun r k q => (g.1 r k q).trans (f.1 r k q), fun r q => (g.2 r q).trans (f.2 r q)⟩
def zd_Q (h h' : zv_H) : Prop := (zc_q h h' ∧ zd_q h h') ∧ zc_A h'
theorem zd_c {h h' : zv_H} (F : zd_Q h h') : zc_Q h h' := ⟨F.1.1, F.2⟩
theorem zd_of {h h' : zv_H} (F : zc_Q h h') (q : zd_q h h') : zd_Q h h' := ⟨⟨F.1, q⟩, F.2⟩
theorem zd_Q_r {h : zv_H} (hA : zc_A h) : zd_Q h h := zd_of (zc_Q_r hA) (zd_q_r h)
theorem zd_Q_t {h h1 h2 : zv_H} (F : zd_Q h h1) (G : zd_Q h1 h2) : zd_Q h h2 := zd_of (zc_Q_t (zd_c F) (zd_c G)) (zd_q_t F.1.2 G.1.2)
theorem zd_qI {h : zv_H} {r k : Nat} (hx : zd_x r k) (v : Int) : zd_q h (zv_sI h r k v) := ⟨fun a b q => zy_In _ _ (fun z => q (by rw [z.1, z.2]; exact hx)), fun _ _ => rfl⟩
/-- such fields -/
def zd_ck (c k : Nat) : Bool := (Nat.beq c 4 && (Nat.beq k 5 || (Nat.beq k 6 || Nat.beq k 7))) || ((Nat.beq c 5 && Nat.beq k 14) || (Nat.beq c 8 && (Nat.beq k 5 || Nat.beq k 6)))
theorem zd_xc {r c k : Nat} (hr : zv_lay r = (1, c)) (h : zd_ck c k = true) : zd_x r k := by
  unfold zd_ck at h
  rcases Bool.or_eq_true _ _ |>.mp h with q | q
  · have q := Bool.and_eq_true _ _ |>.mp q
    have ec := Nat.eq_of_beq_eq_true q.1
    subst ec
    refine Or.inl (Or.inr (Or.inl ⟨hr, ?_⟩))
    rcases Bool.or_eq_true _ _ |>.mp q.2 with w | w
    · exact Or.inl (Nat.eq_of_beq_eq_true w)
    · rcases Bool.or_eq_true _ _ |>.mp w with w | w
      · exact Or.inr (Or.inl (Nat.eq_of_beq_eq_true w))
      · exact Or.inr (Or.inr (Nat.eq_of_beq_eq_true w))
  · rcases Bool.or_eq_true _ _ |>.mp q with q | q
    · have q := Bool.and_eq_true _ _ |>.mp q
      have ec := Nat.eq_of_beq_eq_true q.1
      subst ec
      exact Or.inl (Or.inr (Or.inr (Or.inl ⟨hr, Nat.eq_of_beq_eq_true q.2⟩)))
    · have q := Bool.and_eq_true _ _ |>.mp q
      have ec := Nat.eq_of_beq_eq_true q.1
      subst ec
      have r1 := zc_l8 hr
      rcases Bool.or_eq_true _ _ |>.mp q.2 with w | w
      · exact Or.inr (Or.inl ⟨r1, Nat.eq_of_beq_eq_true w⟩)
      · exact Or.inl (Or.inl ⟨r1, Nat.eq_of_beq_eq_true w⟩)
/-- such arrays -/
theorem zd_l4 {r : Nat} (hr : zv_lay r = (1, 4)) : ∃ a, (a = 9 ∨ a = 178) ∧ r = a + 8 := by
  rcases zc_l4 hr with e | e
  · exact ⟨9, Or.inl rfl, e⟩
  · exact ⟨178, Or.inr rfl, e⟩
theorem zd_y4_1 {r : Nat} (hr : zv_lay r = (1, 4)) (k : Nat) : zd_x (r + 2) k := by
  obtain ⟨a, ha, e⟩ := zd_l4 hr
  exact Or.inl (Or.inr (Or.inr (Or.inr ⟨a, ha, by omega⟩)))
theorem zd_y4_2 {r : Nat} (hr : zv_lay r = (1, 4)) (k : Nat) : zd_x (r + 3) k := by
  obtain ⟨a, ha, e⟩ := zd_l4 hr
  exact Or.inl (Or.inr (Or.inr (Or.inr ⟨a, ha, by omega⟩)))
theorem zd_y4_3 {r : Nat} (hr : zv_lay r = (1, 4)) (k : Nat) : zd_x (r + 4) k := by
  obtain ⟨a, ha, e⟩ := zd_l4 hr
  exact Or.inl (Or.inr (Or.inr (Or.inr ⟨a, ha, by omega⟩)))
theorem zd_y4_4 {r : Nat} (hr : zv_lay r = (1, 4)) (k : Nat) : zd_x (r + 5) k := by
  obtain ⟨a, ha, e⟩ := zd_l4 hr
  exact Or.inl (Or.inr (Or.inr (Or.inr ⟨a, ha, by omega⟩)))
theorem zd_y0_4 {r : Nat} (hr : zv_lay r = (1, 0)) (k : Nat) : zd_x (r + 7) k := Or.inl (Or.inr (Or.inr (Or.inr ⟨r, zc_lh hr, by omega⟩)))
theorem zd_y8_0 {r : Nat} (hr : zv_lay r = (1, 8)) (k : Nat) : zd_x (r + 1) k := Or.inr (Or.inr (by rw [zc_l8 hr]))
section
variable {α : Type} {h0 h : zv_H} {P : α → Prop}
theorem zd_rI (F : zd_Q h0 h) {r c k : Nat} (hr : zv_lay r = (1, c)) {g : Int → Option α} (n : ∀ v, v = zv_I h r k → zv_rg v → zm_R (g v) P) (hc : c < 9 := by decide) : zm_R ((zv_gI h r c k).bind g) P := zc_rI (zd_c F) hr n hc
theorem zd_rT (F : zd_Q h0 h) {r k : Nat} (hr : zv_lay r = (1, 5)) {g : Int → Option α} (n : ∀ v, v = zv_I h0 r k → zv_rg v → zm_R (g v) P) (hk : k = 0 ∨ k = 3 ∨ k = 10 ∨ k = 11 := by decide) : zm_R ((zv_gI h r 5 k).bind g) P := zc_rT (zd_c F) hr n hk
theorem zd_rJ (F : zd_Q h0 h) {r c k : Nat} (hr : zv_lay r = (1, c)) {g : Int64 → Option α} (n : ∀ v, zm_R (g v) P) : zm_R ((zv_gJ h r c k).bind g) P := zc_rJ (zd_c F) hr n
theorem zd_rF (F : zd_Q h0 h) {r c k : Nat} (o : Nat) (hr : zv_lay r = (1, c)) {g : Nat → Option α} (n : zm_R (g (r + o)) P) (hv : zc_off c k = o := by rfl) (ho : o ≠ 0 := by decide) : zm_R ((zv_gR h r c k).bind g) P := zc_rF (zd_c F) o hr n hv ho
theorem zd_rR (F : zd_Q h0 h) {r c k : Nat} (hr : zv_lay r = (1, c)) {g : Nat → Option α} (n : ∀ v, v = zv_R h r k → zm_R (g v) P) : zm_R ((zv_gR h r c k).bind g) P := zc_rR (zd_c F) hr n
theorem zd_rR5 (F : zd_Q h0 h) {r k : Nat} (hr : zv_lay r = (1, 5)) {g : Nat → Option α} (n : zm_R (g (zv_R h0 r k)) P) : zm_R ((zv_gR h r 5 k).bind g) P := zc_rR5 (zd_c F) hr n
theorem zd_rRo (F : zd_Q h0 h) {r c k : Nat} (hr : zv_lay r = (1, c)) {g : Nat → Option α} (n : zm_R (g (zv_R h0 r k)) P) : zm_R ((zv_gR h r c k).bind g) P := zc_rRo (zd_c F) hr n
theorem zd_rA (F : zd_Q h0 h) {r n0 : Nat} {j : Int} (hr : zv_lay r = (2, n0)) (hl : r < 347) (j0 : 0 ≤ j) (j1 : j < n0) {g : Int → Option α} (n : ∀ v, zv_rg v → zm_R (g v) P) : zm_R ((zv_aI h r j).bind g) P := zc_rA (zd_c F) hr hl j0 j1 n
theorem zd_rB (F : zd_Q h0 h) {r n0 : Nat} {j : Int} (hr : zv_lay r = (3, n0)) (hl : r < 347) (j0 : 0 ≤ j) (j1 : j < n0) {g : Int → Option α} (n : ∀ v, zv_rg v → zm_R (g v) P) : zm_R ((zv_aB h r j).bind g) P := zc_rB (zd_c F) hr hl j0 j1 n
theorem zd_rS (F : zd_Q h0 h) {a : Nat} {j : Int} (ha : zv_lay a = (1, 0)) (j0 : 0 ≤ j) (j1 : j < 48) {g : Nat → Option α} (n : ∀ v, zv_lay v = (1, 5) → zc_hf v = a → v = zc_stt a j.toNat → zv_I h0 v 0 = j → zm_R (g v) P) : zm_R ((zv_aR h (a + 4) j).bind g) P := zc_rS (zd_c F) ha j0 j1 n
theorem zd_rQ (F : zd_Q h0 h) {r : Nat} {j : Int} (hr : zv_lay r = (1, 4)) (j0 : 0 ≤ j) (j1 : j < 48) {g : Nat → Option α} (n : zm_R (g (zv_R h (r + 1) j.toNat)) P) : zm_R ((zv_aR h (r + 1) j).bind g) P := zc_rQ (zd_c F) hr j0 j1 n
theorem zd_rAl (F : zd_Q h0 h) {r n0 : Nat} (hr : zv_lay r = (2, n0)) {g : Int → Option α} (n : ∀ v, v = (n0 : Int) → zm_R (g v) P) : zm_R ((zv_al h r).bind g) P := zc_rAl (zd_c F) hr n
theorem zd_xH (F : zd_Q h0 h) : zv_lay (zv_R h0 1 3) = (1, 0) ∧ zv_lay (zv_R h0 1 4) = (1, 0) := zc_xH (zd_c F)
theorem zd_dep (F : zd_Q h0 h) {s : Nat} (hV : zc_V h0 s) : (0 ≤ zv_I h0 s 10 ∧ zv_I h0 s 10 ≤ 47) ∧ (zv_R h s 4 = 0 ∨ (zc_V h0 (zv_R h s 4) ∧ zc_hf (zv_R h s 4) = zc_hf s ∧ zv_I h0 (zv_R h s 4) 10 + 1 = zv_I h0 s 10)) := zc_dep (zd_c F) hV
theorem zd_pV (F : zd_Q h0 h) {s : Nat} (hV : zc_V h0 s) : zv_R h0 s 4 = 0 ∨ zc_V h0 (zv_R h0 s 4) := zc_pV (zd_c F) hV
theorem zd_hV (F : zd_Q h0 h) {a : Nat} (ha : zv_lay a = (1, 0)) : zc_V h0 (zv_R h0 a 10) ∧ zc_hf (zv_R h0 a 10) = a := zc_hV (zd_c F) ha
theorem zd_dmP (F : zd_Q h0 h) {s : Nat} (hV : zc_V h0 s) : zc_dm h0 (zv_R h0 s 4) < zc_dm h0 s := zc_dmP (zd_c F) hV
theorem zd_bdv (F : zd_Q h0 h) {r c k : Nat} {m : Int} (hr : zv_lay r = (1, c)) (hm : zc_bd c k = some m) : 0 ≤ zv_I h r k ∧ zv_I h r k ≤ m := zc_bdv (zd_c F) hr hm
theorem zd_pa (F : zd_Q h0 h) {r : Nat} (hr : zv_lay r = (1, 4)) (k : Nat) : zv_R h (r + 1) k = 0 ∨ zv_lay (zv_R h (r + 1) k) = (1, 5) := zc_pa (zd_c F) hr k
theorem zd_fV (F : zd_Q h0 h) {s : Nat} (hV : zc_V h0 s) : zc_V h0 (zv_R h0 s 5) := zc_fV (zd_c F) hV
theorem zd_xH8 (F : zd_Q h0 h) {r : Nat} (hr : zv_lay r = (1, 8)) : zv_lay (zv_R h0 r 3) = (1, 0) ∧ zv_lay (zv_R h0 r 4) = (1, 0) := zc_xH8 (zd_c F) hr
theorem zd_wO (F : zd_Q h0 h) {r c k : Nat} {v : Int} (hr : zv_lay r = (1, c)) (hf : zc_fr r k) (hv : zv_rg v) {g : zv_H → Option α} (n : ∀ h', zd_Q h0 h' → zm_R (g h') P) (hx : zd_ck c k = true := by rfl) : zm_R ((zv_pI h r c k v).bind g) P := by
  have e : zv_pI h r c k v = some (zv_sI h r k v) := if_pos (zc_ob F.2 hr)
  rw [zm_e e]
  exact n _ (zd_Q_t F (zd_of (zc_QI F.2 hf hv) (zd_qI (zd_xc hr hx) v)))
theorem zd_wJ (F : zd_Q h0 h) {r c k : Nat} {v : Int64} (hr : zv_lay r = (1, c)) (hc : r < 347) {g : zv_H → Option α} (n : ∀ h', zd_Q h0 h' → zm_R (g h') P) (h4 : c = 4 := by rfl) : zm_R ((zv_pJ h r c k v).bind g) P := by
  have e : zv_pJ h r c k v = some (zv_sJ h r k v) := if_pos (zc_ob F.2 hr)
  rw [zm_e e]
  subst h4
  refine n _ (zd_Q_t F (zd_of (zc_QJ F.2 hc) ⟨fun _ _ _ => rfl, fun x hx => ?_⟩))
  funext y
  exact if_neg (fun q => hx (by rw [q.1]; exact hr))
theorem zd_wA (F : zd_Q h0 h) {r n0 : Nat} {j v : Int} (hr : zv_lay r = (2, n0)) (hc : r < 347) (hx : ∀ k, zd_x r k) (j0 : 0 ≤ j) (j1 : j < n0) (hv : zv_rg v) {g : zv_H → Option α} (n : ∀ h', zd_Q h0 h' → (∀ x k, (zv_lay x).1 = 1 → zv_I h' x k = zv_I h x k) → zm_R (g h') P) : zm_R ((zv_wI h r j v).bind g) P := by
  have e : zv_wI h r j v = some (zv_sI h r j.toNat v) := by
    unfold zv_wI
    rw [if_pos ⟨zc_n F.2.1 (zc_ly hr), by rw [hr], j0, by rw [hr]; exact j1⟩]
  rw [zm_e e]
  exact n _ (zd_Q_t F (zd_of (zc_QI F.2 (zc_frA (c := 0) hr hc) hv) (zd_qI (hx _) v))) (fun x k hx => zc_sI1 _ _ _ _ (fun e => by rw [e.1, hr] at hx; cases hx))
theorem zd_wB (F : zd_Q h0 h) {r n0 : Nat} {j v : Int} (hr : zv_lay r = (3, n0)) (hc : r < 347) (hx : ∀ k, zd_x r k) (j0 : 0 ≤ j) (j1 : j < n0) {g : zv_H → Option α} (n : ∀ h', zd_Q h0 h' → (∀ x k, (zv_lay x).1 = 1 → zv_I h' x k = zv_I h x k) → zm_R (g h') P) : zm_R ((zv_wB h r j v).bind g) P := by
  have e : zv_wB h r j v = some (zv_sI h r j.toNat (zv_nz v)) := by
    unfold zv_wB
    rw [if_pos ⟨zc_n F.2.1 (zc_ly hr), by rw [hr]; exact Or.inl rfl, j0, by rw [hr]; exact j1⟩, if_pos (by rw [hr])]
  rw [zm_e e]
  exact n _ (zd_Q_t F (zd_of (zc_QI F.2 (zc_frA (c := 1) hr hc) (by unfold zv_rg zv_nz; omega)) (zd_qI (hx _) _))) (fun x k hx => zc_sI1 _ _ _ _ (fun e => by rw [e.1, hr] at hx; cases hx))
theorem zd_wP (F : zd_Q h0 h) {r : Nat} {j : Int} {v : Nat} (hr : zv_lay r = (1, 4)) (j0 : 0 ≤ j) (j1 : j < 48) (hv : zv_lay v = (1, 5)) {g : zv_H → Option α} (n : ∀ h', zd_Q h0 h' → zm_R (g h') P) : zm_R ((zv_wR h (r + 1) j v).bind g) P := by
  have hl : zv_lay (r + 1) = (6, 48) := by cases zc_l4 hr with
    | inl e => rw [e]; rfl
    | inr e => rw [e]; rfl
  have e : zv_wR h (r + 1) j v = some (zv_sR h (r + 1) j.toNat v) := by
    unfold zv_wR
    rw [if_pos ⟨⟨zc_n F.2.1 (zc_ly hl), by rw [hl], j0, by rw [hl]; exact j1⟩, Or.inr ⟨zc_n F.2.1 (zc_ly hv), hv⟩⟩]
  rw [zm_e e]
  exact n _ (zd_Q_t F (zd_of (zc_QP F.2 hr hv) ⟨fun _ _ _ => rfl, fun _ _ => rfl⟩))
theorem zd_wL (F : zd_Q h0 h) {r c k : Nat} {v m : Int} (hr : zv_lay r = (1, c)) (hm : zc_bd c k = some m) (h0v : 0 ≤ v) (hv : v ≤ m) {g : zv_H → Option α} (n : ∀ h', zd_Q h0 h' → zm_R (g h') P) (hc : zc_bd c k = some m → m < 2147483648 ∧ c < 9 ∧ (c = 5 → k ≠ 0 ∧ k ≠ 3 ∧ k ≠ 10 ∧ k ≠ 11) ∧ (c = 3 → k ≠ 2)) (hx : zd_ck c k = true := by rfl) : zm_R ((zv_pI h r c k v).bind g) P := by
  have e : zv_pI h r c k v = some (zv_sI h r k v) := if_pos (zc_ob F.2 hr)
  have q : zm_R ((zv_pI h r c k v).bind fun h' => some h') (fun h' => zc_Q h h') := zc_wL (zc_Q_r F.2) hr hm h0v hv (fun h' Q => ⟨h', rfl, Q⟩) hc
  rw [zm_e e] at q ⊢
  obtain ⟨h', e', Q⟩ := q
  have e2 : zv_sI h r k v = h' := Option.some.inj e'
  rw [← e2] at Q
  exact n _ (zd_Q_t F (zd_of Q (zd_qI (zd_xc hr hx) v)))
theorem zd_cI {h0 h : zv_H} (F : zd_Q h0 h) {o : Option (Int × zv_H)} {K : Int → Prop} (e : zm_R o (fun q => zd_Q h q.2 ∧ zv_rg q.1 ∧ K q.1)) {g : Int × zv_H → Option α} (n : ∀ v h', zd_Q h0 h' → zv_rg v → K v → zm_R (g (v, h')) P) : zm_R (o.bind g) P := by
  obtain ⟨⟨v, h'⟩, rfl, a, b, c⟩ := e
  exact n v h' (zd_Q_t F a) b c
theorem zd_cJ {h0 h : zv_H} (F : zd_Q h0 h) {o : Option (Int64 × zv_H)} (e : zm_R o (fun q => zd_Q h q.2)) {g : Int64 × zv_H → Option α} (n : ∀ v h', zd_Q h0 h' → zm_R (g (v, h')) P) : zm_R (o.bind g) P := by
  obtain ⟨⟨v, h'⟩, rfl, a⟩ := e
  exact n v h' (zd_Q_t F a)
theorem zd_cN {h0 h : zv_H} (F : zd_Q h0 h) {o : Option (Nat × zv_H)} {K : Nat → Prop} (e : zm_R o (fun q => zd_Q h q.2 ∧ K q.1)) {g : Nat × zv_H → Option α} (n : ∀ v h', zd_Q h0 h' → K v → zm_R (g (v, h')) P) : zm_R (o.bind g) P := by
  obtain ⟨⟨v, h'⟩, rfl, a, b⟩ := e
  exact n v h' (zd_Q_t F a) b
theorem zd_cV {h0 h : zv_H} (F : zd_Q h0 h) {o : Option zv_H} (e : zm_R o (fun q => zd_Q h q)) {g : zv_H → Option α} (n : ∀ h', zd_Q h0 h' → zm_R (g h') P) : zm_R (o.bind g) P := by
  obtain ⟨h', rfl, a⟩ := e
  exact n h' (zd_Q_t F a)
end
end
