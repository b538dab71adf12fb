/-! ===== the tie: TOKENS, the reference: the next one; one TOKEN for both ===== -/
/-- it stands in the reference's cells -/
def zt_tkr (T : Nat → Int) (h' : zv_H) (f t E : Nat) : Prop := zv_I h' 347 32 = f ∧ zv_I h' 347 34 = t ∧ (t ≠ 0 → zv_I h' 347 33 = E) ∧ (t = 2 → zv_I h' 347 35 = zt_nv T f (E - f)) ∧ (t = 1 → zv_J h' 347 38 = zt_cdw T f (min (E - f) 9))
theorem zt_sm_x {x : Int} (h : zt_sm x) : ¬ zt_dg x ∧ ¬ zt_sgn x := by unfold zt_sm zt_dg zt_sgn at *; omega
theorem zt_dg_x {x : Int} (h : zt_dg x) : ¬ zt_sm x ∧ ¬ zt_sgn x := by unfold zt_sm zt_dg zt_sgn at *; omega
section
variable {T : Nat → Int} {n : Nat}
theorem zt_tkn_u {e f t E f' t' E' : Nat} (h : zt_tkn T n e f t E) (h' : zt_tkn T n e f' t' E') : f = f' ∧ t = t' ∧ E = E' := by
  have ef := zt_up_u h.1 h'.1
  subst ef
  refine ⟨rfl, ?_⟩
  rcases h.2 with ⟨a1, a2, a3⟩ | ⟨an, a⟩
  · rcases h'.2 with ⟨b1, b2, b3⟩ | ⟨bn, b⟩
    · exact ⟨a1.trans b1.symm, a3.trans b3.symm⟩
    · rw [a2] at bn; exact absurd bn (Nat.lt_irrefl _)
  · rcases h'.2 with ⟨b1, b2, b3⟩ | ⟨bn, b⟩
    · rw [b2] at an; exact absurd an (Nat.lt_irrefl _)
    · rcases a with ⟨a1, a2, a3⟩ | ⟨a1, a2, a3, a4⟩ | ⟨a1, a2, a3, a4, a5⟩ | ⟨a1, ⟨a2, a3, a4⟩ | ⟨a2, a3, a4, a5⟩⟩
      · rcases b with ⟨b1, b2, b3⟩ | ⟨b1, b2, b3, b4⟩ | ⟨b1, b2, b3, b4, b5⟩ | ⟨b1, ⟨b2, b3, b4⟩ | ⟨b2, b3, b4, b5⟩⟩
        · exact ⟨a1.trans b1.symm, zt_up_u a3 b3⟩
        · exact absurd b2 (zt_sm_x a2).1
        · exact absurd a2 b2
        · exact absurd b2 (zt_sm_x a2).1
        · exact absurd a2 b2
      · rcases b with ⟨b1, b2, b3⟩ | ⟨b1, b2, b3, b4⟩ | ⟨b1, b2, b3, b4, b5⟩ | ⟨b1, ⟨b2, b3, b4⟩ | ⟨b2, b3, b4, b5⟩⟩
        · exact absurd b2 (zt_dg_x a2).1
        · exact ⟨a1.trans b1.symm, zt_up_u a3 b3⟩
        · exact absurd a2 b3
        · have := zt_up_u a3 b3
          rw [this] at a4
          exact absurd b4 (Nat.not_lt.mpr a4)
        · exact absurd a2 b3
      · rcases b with ⟨b1, b2, b3⟩ | ⟨b1, b2, b3, b4⟩ | ⟨b1, b2, b3, b4, b5⟩ | ⟨b1, ⟨b2, b3, b4⟩ | ⟨b2, b3, b4, b5⟩⟩
        · exact absurd b2 a2
        · exact absurd b2 a3
        · exact ⟨a1.trans b1.symm, a5.trans b5.symm⟩
        · exact absurd b2 a3
        · exact absurd a4 b4
      · rcases b with ⟨b1, b2, b3⟩ | ⟨b1, b2, b3, b4⟩ | ⟨b1, b2, b3, b4, b5⟩ | ⟨b1, ⟨b2, b3, b4⟩ | ⟨b2, b3, b4, b5⟩⟩
        · exact absurd b2 (zt_dg_x a2).1
        · have := zt_up_u a3 b3
          rw [this] at a4
          exact absurd a4 (Nat.not_lt.mpr b4)
        · exact absurd a2 b3
        · exact ⟨a1.trans b1.symm, zt_up_u a3 b3⟩
        · exact absurd a2 b3
      · rcases b with ⟨b1, b2, b3⟩ | ⟨b1, b2, b3, b4⟩ | ⟨b1, b2, b3, b4, b5⟩ | ⟨b1, ⟨b2, b3, b4⟩ | ⟨b2, b3, b4, b5⟩⟩
        · exact absurd b2 a2
        · exact absurd b2 a3
        · exact absurd b4 a4
        · exact absurd b2 a3
        · exact ⟨a1.trans b1.symm, a5.trans b5.symm⟩
/-- behind the sign's look-up -/
theorem zt_rd110 {d e f : Nat} (u : zt_up zt_bk T n e f) {h : zv_H} (Y : zt_ty T n h) (h2 : zv_I h 347 32 = f) (h3 : zv_I h 347 33 = ((f + 1 : Nat) : Int)) {v : Nat} (hv : (v = 0 ∧ f = n) ∨ (f < n ∧ ((v = 3 ∧ zt_sgn (T f)) ∨ (v = 4 ∧ ¬ zt_sgn (T f))))) : ∃ (t E : Nat) (h' : zv_H), zt_tkn T n e f t E ∧ L9_reads_110 (d + 4) 347 347 (v : Int) h = some (none, h') ∧ zm_rF h h' ∧ zt_tkr T h' f t E := by
  have hM := zt_ty_M Y
  have n7 := zt_ty_n Y
  have s1 : zm_rF h (zv_sI h 347 34 (v : Int)) := zm_rF_f (zm_F_r _ _ h) (Or.inr (Or.inr (Or.inl rfl))) _
  have Y1 := zt_ty_r Y s1
  have hM1 := zt_ty_M Y1
  have i2 : zv_I (zv_sI h 347 34 (v : Int)) 347 32 = f := (zy_In _ _ (fun q => absurd q.2 (by decide))).trans h2
  have i3 : zv_I (zv_sI h 347 34 (v : Int)) 347 33 = ((f + 1 : Nat) : Int) := (zy_In _ _ (fun q => absurd q.2 (by decide))).trans h3
  have is := zt_isOf (d := d + 2) Y1 (a := 97) (b := 122) (by decide) (by decide) f
  have ig := zt_isOf (d := d + 2) Y1 (a := 48) (b := 57) (by decide) (by decide) f
  have other : ¬ (f < n ∧ zt_sm (T f)) → ¬ (f < n ∧ zt_dg (T f)) → L9_reads_110 (d + 4) 347 347 (v : Int) h = some (none, zv_sI h 347 34 (v : Int)) := fun c1 c2 => by
    rw [if_neg c1] at is
    rw [if_neg c2] at ig
    rw [qL9_reads_110, zm_e (zm_pI hM 34 _), zm_e (zm_gI hM1 32), i2, zm_e is]
    dsimp only
    rw [if_pos rfl, zm_e (zm_gI hM1 32), i2, zm_e ig]
    dsimp only
    rw [if_pos rfl]
  rcases hv with ⟨v0, fn⟩ | ⟨fn, hv⟩
  · have nl : ¬ f < n := by rw [fn]; exact Nat.lt_irrefl _
    refine ⟨0, n, _, ⟨u, Or.inl ⟨rfl, fn, rfl⟩⟩, other (fun q => nl q.1) (fun q => nl q.1), s1, i2, ?_, fun q => absurd rfl q, fun q => absurd q (by decide), fun q => absurd q (by decide)⟩
    rw [zy_I, v0]
  · by_cases c1 : zt_sm (T f)
    · rw [if_pos ⟨fn, c1⟩] at is
      have s2 : zm_rF h (zv_sI (zv_sJ (zv_sI (zv_sI h 347 34 (v : Int)) 347 34 1) 347 38 (Int64.ofNat 0)) 347 33 (f : Int)) := zm_rF_f (zm_F_k (zm_rF_f s1 (Or.inr (Or.inr (Or.inl rfl))) 1) rfl _) (Or.inr (Or.inl rfl)) _
      have hMa : zm_M (zv_sI (zv_sI h 347 34 (v : Int)) 347 34 1) := hM1
      have hMb : zm_M (zv_sJ (zv_sI (zv_sI h 347 34 (v : Int)) 347 34 1) 347 38 (Int64.ofNat 0)) := zm_F_M (zm_F_k (zm_F_r [] [38] _) rfl _) hMa
      have j2 : zv_I (zv_sJ (zv_sI (zv_sI h 347 34 (v : Int)) 347 34 1) 347 38 (Int64.ofNat 0)) 347 32 = f := (show zv_I (zv_sI (zv_sI h 347 34 (v : Int)) 347 34 1) 347 32 = _ from zy_In _ _ (fun q => absurd q.2 (by decide))).trans i2
      obtain ⟨E, h', y1, y2, y3, y4, y5, y6, y7⟩ := zt_rd146 (d := d + 2) (f := f) (n - f) f (zv_sI (zv_sJ (zv_sI (zv_sI h 347 34 (v : Int)) 347 34 1) 347 38 (Int64.ofNat 0)) 347 33 (f : Int)) (Nat.add_sub_cancel' u.2.1) (Nat.le_refl _) (zt_ty_r Y s2) ((zy_In _ _ (fun q => absurd q.2 (by decide))).trans j2) (zy_I _ _ _ _) (by rw [Nat.sub_self, Nat.zero_min]; exact zm_sJJ _ _) (fun i h1 h2 => absurd h2 (Nat.not_lt.mpr h1))
      refine ⟨1, E, h', ⟨u, Or.inr ⟨fn, Or.inl ⟨rfl, c1, y2⟩⟩⟩, ?_, zm_rF_t s2 y3, y4, ?_, fun _ => y5, fun q => absurd q (by decide), fun _ => y7⟩
      · rw [qL9_reads_110, zm_e (zm_pI hM 34 _), zm_e (zm_gI hM1 32), i2, zm_e is]
        dsimp only
        rw [if_neg (by decide), zm_e (zm_pI hM1 34 _), zm_e (zm_pJ hMa 38 _), zm_e (zm_gI hMb 32), j2, zm_e (zm_pI hMb 33 _)]
        exact y1
      · rw [y6, zy_In _ _ (fun q => absurd q.2 (by decide))]
        show zv_I (zv_sI (zv_sI h 347 34 (v : Int)) 347 34 1) 347 34 = _
        exact zy_I _ _ _ _
    · rw [if_neg (fun q => c1 q.2)] at is
      by_cases c2 : zt_dg (T f)
      · rw [if_pos ⟨fn, c2⟩] at ig
        have s2 : zm_rF h (zv_sI (zv_sI (zv_sI h 347 34 (v : Int)) 347 35 0) 347 33 (f : Int)) := zm_rF_f (zm_rF_f s1 (Or.inr (Or.inr (Or.inr rfl))) 0) (Or.inr (Or.inl rfl)) _
        have hMa : zm_M (zv_sI (zv_sI h 347 34 (v : Int)) 347 35 0) := hM1
        have j2 : zv_I (zv_sI (zv_sI h 347 34 (v : Int)) 347 35 0) 347 32 = f := (zy_In _ _ (fun q => absurd q.2 (by decide))).trans i2
        obtain ⟨E, h', y1, y2, y3, y4, y5, y6, y7⟩ := zt_rd250 (d := d + 2) (f := f) (n - f) f (zv_sI (zv_sI (zv_sI h 347 34 (v : Int)) 347 35 0) 347 33 (f : Int)) (Nat.add_sub_cancel' u.2.1) (Nat.le_refl _) (zt_ty_r Y s2) ((zy_In _ _ (fun q => absurd q.2 (by decide))).trans j2) (zy_I _ _ _ _) (by rw [Nat.sub_self, Nat.zero_min, zy_In _ _ (fun q => absurd q.2 (by decide))]; exact zy_I _ _ _ _) (fun i h1 h2 => absurd h2 (Nat.not_lt.mpr h1))
        have go : L9_reads_110 (d + 4) 347 347 (v : Int) h = some (none, h') := by
          rw [qL9_reads_110, zm_e (zm_pI hM 34 _), zm_e (zm_gI hM1 32), i2, zm_e is]
          dsimp only
          rw [if_pos rfl, zm_e (zm_gI hM1 32), i2, zm_e ig]
          dsimp only
          rw [if_neg (by decide), zm_e (zm_pI hM1 35 _), zm_e (zm_gI hMa 32), j2, zm_e (zm_pI hMa 33 _)]
          exact y1
        by_cases c3 : E ≤ f + 3
        · rw [if_pos c3] at y6
          refine ⟨2, E, h', ⟨u, Or.inr ⟨fn, Or.inr (Or.inl ⟨rfl, c2, y2, c3⟩)⟩⟩, go, zm_rF_t s2 y3, y4, y6, fun _ => y5, fun _ => ?_, fun q => absurd q (by decide)⟩
          rw [y7, Nat.min_eq_left (Nat.sub_le_iff_le_add'.mpr c3)]
        · rw [if_neg c3] at y6
          exact ⟨4, E, h', ⟨u, Or.inr ⟨fn, Or.inr (Or.inr (Or.inr ⟨rfl, Or.inl ⟨c2, y2, Nat.not_le.mp c3⟩⟩))⟩⟩, go, zm_rF_t s2 y3, y4, y6, fun _ => y5, fun q => absurd q (by decide), fun q => absurd q (by decide)⟩
      · have go := other (fun q => c1 q.2) (fun q => c2 q.2)
        have i4 : zv_I (zv_sI h 347 34 (v : Int)) 347 34 = (v : Int) := zy_I _ _ _ _
        rcases hv with ⟨v3, sg⟩ | ⟨v4, sg⟩
        · exact ⟨3, f + 1, _, ⟨u, Or.inr ⟨fn, Or.inr (Or.inr (Or.inl ⟨rfl, c1, c2, sg, rfl⟩))⟩⟩, go, s1, i2, by rw [i4, v3], fun _ => i3, fun q => absurd q (by decide), fun q => absurd q (by decide)⟩
        · exact ⟨4, f + 1, _, ⟨u, Or.inr ⟨fn, Or.inr (Or.inr (Or.inr ⟨rfl, Or.inr ⟨c1, c2, sg, rfl⟩⟩))⟩⟩, go, s1, i2, by rw [i4, v4], fun _ => i3, fun q => absurd q (by decide), fun q => absurd q (by decide)⟩
theorem zt_reads {d e : Nat} (he : e ≤ n) {h : zv_H} (Y : zt_ty T n h) (h3 : zv_I h 347 33 = e) : ∃ (f t E : Nat) (h' : zv_H), zt_tkn T n e f t E ∧ C9_reads (d + 5) 347 h = some h' ∧ zm_rF h h' ∧ zt_tkr T h' f t E := by
  have hM := zt_ty_M Y
  have n7 := zt_ty_n Y
  have s1 : zm_rF h (zv_sI h 347 32 (e : Int)) := zm_rF_f (zm_F_r _ _ h) (Or.inl rfl) _
  obtain ⟨f, h1, y1, y2, y3, y4⟩ := zt_rd8 (d := d + 4) (n - e) e (zv_sI h 347 32 (e : Int)) (Nat.add_sub_cancel' he) (zt_ty_r Y s1) (zy_I _ _ _ _)
  have Y1 := zt_ty_r Y (zm_rF_t s1 y3)
  have hM1 := zt_ty_M Y1
  have f7 : f ≤ 700 := Nat.le_trans y2.2.1 n7
  have s2 : zm_rF h1 (zv_sI h1 347 33 ((f + 1 : Nat) : Int)) := zm_rF_f (zm_F_r _ _ h1) (Or.inr (Or.inl rfl)) _
  have Y2 := zt_ty_r Y1 s2
  have hM2 := zt_ty_M Y2
  have i2 : zv_I (zv_sI h1 347 33 ((f + 1 : Nat) : Int)) 347 32 = f := (zy_In _ _ (fun q => absurd q.2 (by decide))).trans y4
  have i3 : zv_I (zv_sI h1 347 33 ((f + 1 : Nat) : Int)) 347 33 = ((f + 1 : Nat) : Int) := zy_I _ _ _ _
  have fin : ∀ v : Nat, ((v = 0 ∧ f = n) ∨ (f < n ∧ ((v = 3 ∧ zt_sgn (T f)) ∨ (v = 4 ∧ ¬ zt_sgn (T f))))) → L9_reads_60 (d + 4) 347 h1 = L9_reads_110 (d + 4) 347 347 (v : Int) (zv_sI h1 347 33 ((f + 1 : Nat) : Int)) → ∃ (f t E : Nat) (h' : zv_H), zt_tkn T n e f t E ∧ C9_reads (d + 5) 347 h = some h' ∧ zm_rF h h' ∧ zt_tkr T h' f t E := fun v hv go => by
    obtain ⟨t, E, h', w1, w2, w3, w4⟩ := zt_rd110 (d := d) y2 Y2 i2 i3 hv
    refine ⟨f, t, E, h', w1, lC9_reads (zm_ob hM) ?_, zm_rF_t (zm_rF_t (zm_rF_t s1 y3) s2) w3, w4⟩
    rw [qE9_reads, zm_e (zm_gI hM 33), h3, zm_e (zm_pI hM 32 _), y1, go]
    exact w2
  by_cases fn : f < n
  · have tb := zt_ty_b Y f fn
    obtain ⟨x, ex⟩ : ∃ x : Nat, T f = x := ⟨(T f).toNat, (Int.toNat_of_nonneg tb.1).symm⟩
    have x255 : x ≤ 255 := by rw [ex] at tb; exact Int.ofNat_le.mp tb.2
    obtain ⟨u, eu, iu⟩ := zt_jIndexOf (zv_sI h1 347 33 ((f + 1 : Nat) : Int)) d (r := 1000023) (by decide) (zv_i2c (zt_sb (T f)))
    have sg := zt_sgn_d x x255
    rw [← ex] at sg
    have top : L9_reads_60 (d + 4) 347 h1 = if u < 0 then L9_reads_110 (d + 4) 347 347 4 (zv_sI h1 347 33 ((f + 1 : Nat) : Int)) else L9_reads_110 (d + 4) 347 347 3 (zv_sI h1 347 33 ((f + 1 : Nat) : Int)) := by
      rw [qL9_reads_60, zm_e (zm_gI hM1 32), y4, zt_tkw f7, zm_e (zm_pI hM1 33 _), zm_e (zm_gI hM2 32), i2, zm_e (zm_gI hM2 36), zt_ty_l Y2, if_pos (Int.ofNat_lt.mpr fn), zm_e (zm_f26 hM2), zm_e (zm_gI hM2 32), i2, zm_e (zt_aB8 Y2 fn), zm_e eu]
    by_cases c : u < 0
    · rw [if_pos c] at top
      exact fin 4 (Or.inr ⟨fn, Or.inr ⟨rfl, fun q => iu.mp c (sg.mpr q)⟩⟩) top
    · rw [if_neg c] at top
      exact fin 3 (Or.inr ⟨fn, Or.inl ⟨rfl, Classical.byContradiction (fun q => c (iu.mpr (fun w => q (sg.mp w))))⟩⟩) top
  · refine fin 0 (Or.inl ⟨rfl, Nat.le_antisymm y2.2.1 (Nat.not_lt.mp fn)⟩) ?_
    rw [qL9_reads_60, zm_e (zm_gI hM1 32), y4, zt_tkw f7, zm_e (zm_pI hM1 33 _), zm_e (zm_gI hM2 32), i2, zm_e (zm_gI hM2 36), zt_ty_l Y2, if_neg (fun q => fn (Int.ofNat_lt.mp q))]
    rfl
/-- one TOKEN, for both -/
theorem zj_next {d D e : Nat} (he : e ≤ n) {g h : zv_H} (X : zt_tx T n g) (Y : zt_ty T n h) (h6 : zv_I g 5 6 = e) (h33 : zv_I h 347 33 = e) : ∃ (f t E : Nat) (g' h' : zv_H), zt_tkn T n e f t E ∧ C3_next (d + 2) 5 g = some ((if t = 4 then 0 else 1), g') ∧ C9_reads (D + 5) 347 h = some h' ∧ zt_rf g g' ∧ zm_rF h h' ∧ zt_tkc T g g' f t E ∧ zt_tkr T h' f t E := by
  obtain ⟨f, t, E, g', a1, a2, a3, a4⟩ := zt_next (d := d) he X h6
  obtain ⟨f', t', E', h', b1, b2, b3, b4⟩ := zt_reads (d := D) he Y h33
  obtain ⟨e1, e2, e3⟩ := zt_tkn_u a1 b1
  subst e1
  subst e2
  subst e3
  exact ⟨f, t, E, g', h', a1, a2, b2, a3, b3, a4, b4⟩
end
