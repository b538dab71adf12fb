/-! ===== the tie: all anew, the class, exactly ===== -/
/-- a State as it is opened, without one before it -/
def zt_fs (s : Nat) (x : Int) (h0 : zv_H) (h : zv_H) : Prop := (zv_I h s 0 = zv_I h0 s 0) ∧ (zv_I h s 3 = x) ∧ (zv_I h s 6 = -1) ∧ (zv_I h s 7 = 0) ∧ (zv_I h s 8 = -1) ∧ (zv_I h s 9 = 0) ∧ (zv_I h s 10 = 0) ∧ (zv_I h s 11 = 0) ∧ (zv_I h s 12 = 0) ∧ (zv_I h s 13 = 0) ∧ (zv_I h s 15 = -1) ∧ (zv_J h s 16 = Int64.ofNat 0) ∧ (zv_J h s 17 = Int64.ofNat 0) ∧ (zv_R h s 4 = 0) ∧ (zv_R h s 5 = s)
theorem zt_fs_i0 {s : Nat} {x : Int} {h0 : zv_H} {h : zv_H} (t : zt_fs s x h0 h) : zv_I h s 0 = zv_I h0 s 0 := t.1
theorem zt_fs_i3 {s : Nat} {x : Int} {h0 : zv_H} {h : zv_H} (t : zt_fs s x h0 h) : zv_I h s 3 = x := t.2.1
theorem zt_fs_i6 {s : Nat} {x : Int} {h0 : zv_H} {h : zv_H} (t : zt_fs s x h0 h) : zv_I h s 6 = -1 := t.2.2.1
theorem zt_fs_i7 {s : Nat} {x : Int} {h0 : zv_H} {h : zv_H} (t : zt_fs s x h0 h) : zv_I h s 7 = 0 := t.2.2.2.1
theorem zt_fs_i8 {s : Nat} {x : Int} {h0 : zv_H} {h : zv_H} (t : zt_fs s x h0 h) : zv_I h s 8 = -1 := t.2.2.2.2.1
theorem zt_fs_i9 {s : Nat} {x : Int} {h0 : zv_H} {h : zv_H} (t : zt_fs s x h0 h) : zv_I h s 9 = 0 := t.2.2.2.2.2.1
theorem zt_fs_ia {s : Nat} {x : Int} {h0 : zv_H} {h : zv_H} (t : zt_fs s x h0 h) : zv_I h s 10 = 0 := t.2.2.2.2.2.2.1
theorem zt_fs_ib {s : Nat} {x : Int} {h0 : zv_H} {h : zv_H} (t : zt_fs s x h0 h) : zv_I h s 11 = 0 := t.2.2.2.2.2.2.2.1
theorem zt_fs_ic {s : Nat} {x : Int} {h0 : zv_H} {h : zv_H} (t : zt_fs s x h0 h) : zv_I h s 12 = 0 := t.2.2.2.2.2.2.2.2.1
theorem zt_fs_id {s : Nat} {x : Int} {h0 : zv_H} {h : zv_H} (t : zt_fs s x h0 h) : zv_I h s 13 = 0 := t.2.2.2.2.2.2.2.2.2.1
theorem zt_fs_ie {s : Nat} {x : Int} {h0 : zv_H} {h : zv_H} (t : zt_fs s x h0 h) : zv_I h s 15 = -1 := t.2.2.2.2.2.2.2.2.2.2.1
theorem zt_fs_jg {s : Nat} {x : Int} {h0 : zv_H} {h : zv_H} (t : zt_fs s x h0 h) : zv_J h s 16 = Int64.ofNat 0 := t.2.2.2.2.2.2.2.2.2.2.2.1
theorem zt_fs_jh {s : Nat} {x : Int} {h0 : zv_H} {h : zv_H} (t : zt_fs s x h0 h) : zv_J h s 17 = Int64.ofNat 0 := t.2.2.2.2.2.2.2.2.2.2.2.2.1
theorem zt_fs_r4 {s : Nat} {x : Int} {h0 : zv_H} {h : zv_H} (t : zt_fs s x h0 h) : zv_R h s 4 = 0 := t.2.2.2.2.2.2.2.2.2.2.2.2.2.1
theorem zt_fs_r5 {s : Nat} {x : Int} {h0 : zv_H} {h : zv_H} (t : zt_fs s x h0 h) : zv_R h s 5 = s := t.2.2.2.2.2.2.2.2.2.2.2.2.2.2
/-- the others stand -/
def zt_oo (s : Nat) (h h' : zv_H) : Prop := h'.1 = h.1 ∧ h'.2.2.2.2 = h.2.2.2.2 ∧ ∀ r, r ≠ s → h'.2.1 r = h.2.1 r ∧ h'.2.2.1 r = h.2.2.1 r ∧ h'.2.2.2.1 r = h.2.2.2.1 r
theorem zt_open0 {d : Nat} {h : zv_H} {s : Nat} (ob : zv_ob h s 5) : ∃ h', C5_open (d + 1) s 0 (-1) (-1) 0 h = some h' ∧ zt_oo s h h' ∧ zt_fs s 1 h h' := by
  refine zm_cV (P := fun h' => zt_oo s h h' ∧ zt_fs s 1 h h') (fun e => lC5_open ob e) ?_
  rw [qE5_open]
  refine zc_dZ ob (Or.inr rfl) ?_
  refine zc_dR (zs_oI ob) ?_
  refine zc_dR (zs_oR (zs_oI ob)) ?_
  refine zc_dI (zs_oR (zs_oR (zs_oI ob))) ?_
  refine zc_dI (zs_oI (zs_oR (zs_oR (zs_oI ob)))) ?_
  refine zc_dI (zs_oI (zs_oI (zs_oR (zs_oR (zs_oI ob))))) ?_
  refine zc_dI (zs_oI (zs_oI (zs_oI (zs_oR (zs_oR (zs_oI ob)))))) ?_
  rw [if_pos rfl, qL5_open_51]
  refine zc_dI (zs_oI (zs_oI (zs_oI (zs_oI (zs_oR (zs_oR (zs_oI ob))))))) ?_
  refine zc_dI (zs_oI (zs_oI (zs_oI (zs_oI (zs_oI (zs_oR (zs_oR (zs_oI ob)))))))) ?_
  refine zc_dI (zs_oI (zs_oI (zs_oI (zs_oI (zs_oI (zs_oI (zs_oR (zs_oR (zs_oI ob))))))))) ?_
  refine zc_dI (zs_oI (zs_oI (zs_oI (zs_oI (zs_oI (zs_oI (zs_oI (zs_oR (zs_oR (zs_oI ob)))))))))) ?_
  refine zc_dI (zs_oI (zs_oI (zs_oI (zs_oI (zs_oI (zs_oI (zs_oI (zs_oI (zs_oR (zs_oR (zs_oI ob))))))))))) ?_
  refine zc_dI (zs_oI (zs_oI (zs_oI (zs_oI (zs_oI (zs_oI (zs_oI (zs_oI (zs_oI (zs_oR (zs_oR (zs_oI ob)))))))))))) ?_
  refine zc_dJ (zs_oI (zs_oI (zs_oI (zs_oI (zs_oI (zs_oI (zs_oI (zs_oI (zs_oI (zs_oI (zs_oR (zs_oR (zs_oI ob))))))))))))) ?_
  refine zc_dJ (zs_oJ (zs_oI (zs_oI (zs_oI (zs_oI (zs_oI (zs_oI (zs_oI (zs_oI (zs_oI (zs_oI (zs_oR (zs_oR (zs_oI ob)))))))))))))) ?_
  refine zm_iV ⟨⟨by simp only [zs_1I, zs_1J, zs_1R], by simp only [zs_4I, zs_4J, zs_4R], fun r hr => ⟨?_, ?_, ?_⟩⟩, ?_, ?_, ?_, ?_, ?_, ?_, ?_, ?_, ?_, ?_, ?_, ?_, ?_, ?_, ?_⟩
  · funext k
    rw [show ∀ x : zv_H, x.2.1 r k = zv_I x r k from fun _ => rfl, show ∀ x : zv_H, x.2.1 r k = zv_I x r k from fun _ => rfl]
    simp only [zs_IJ, zs_IR, zs_Io _ _ _ _ hr]
  · funext k
    rw [show ∀ x : zv_H, x.2.2.1 r k = zv_J x r k from fun _ => rfl, show ∀ x : zv_H, x.2.2.1 r k = zv_J x r k from fun _ => rfl]
    simp only [zs_JI, zs_JR, zs_Jo _ _ _ _ hr]
  · funext k
    rw [show ∀ x : zv_H, x.2.2.2.1 r k = zv_R x r k from fun _ => rfl, show ∀ x : zv_H, x.2.2.2.1 r k = zv_R x r k from fun _ => rfl]
    simp only [zs_RI, zs_RJ, zs_Rg _ _ _ _ (show ¬ (r = s ∧ k = 4) from fun q => hr q.1), zs_Rg _ _ _ _ (show ¬ (r = s ∧ k = 5) from fun q => hr q.1)]
  all_goals simp only [zs_II, zs_IJ, zs_IR, zs_JJ, zs_JI, zs_JR, zs_RR, zs_RI, zs_RJ, zs_In, zs_Jn, zs_Rn, ne_eq, Nat.reduceEqDiff, not_false_eq_true]
/-- with its living set -/
theorem zt_fs_3 {s : Nat} {h0 h : zv_H} (f : zt_fs s 1 h0 h) (x : Int) : zt_fs s x h0 (zv_sI h s 3 x) := ⟨(zy_In _ _ (fun q => absurd q.2 (by decide))).trans (zt_fs_i0 f), zy_I _ _ _ _, (zy_In _ _ (fun q => absurd q.2 (by decide))).trans (zt_fs_i6 f), (zy_In _ _ (fun q => absurd q.2 (by decide))).trans (zt_fs_i7 f), (zy_In _ _ (fun q => absurd q.2 (by decide))).trans (zt_fs_i8 f), (zy_In _ _ (fun q => absurd q.2 (by decide))).trans (zt_fs_i9 f), (zy_In _ _ (fun q => absurd q.2 (by decide))).trans (zt_fs_ia f), (zy_In _ _ (fun q => absurd q.2 (by decide))).trans (zt_fs_ib f), (zy_In _ _ (fun q => absurd q.2 (by decide))).trans (zt_fs_ic f), (zy_In _ _ (fun q => absurd q.2 (by decide))).trans (zt_fs_id f), (zy_In _ _ (fun q => absurd q.2 (by decide))).trans (zt_fs_ie f), (show zv_J h s 16 = _ from zt_fs_jg f), (show zv_J h s 17 = _ from zt_fs_jh f), (show zv_R h s 4 = _ from zt_fs_r4 f), (show zv_R h s 5 = s from zt_fs_r5 f)⟩
theorem zt_fs_o {s : Nat} {x : Int} {h0 h h' : zv_H} (f : zt_fs s x h0 h) (o : h'.2.1 s = h.2.1 s ∧ h'.2.2.1 s = h.2.2.1 s ∧ h'.2.2.2.1 s = h.2.2.2.1 s) : zt_fs s x h0 h' := by
  have eI : ∀ k, zv_I h' s k = zv_I h s k := fun k => congrFun o.1 k
  have eJ : ∀ k, zv_J h' s k = zv_J h s k := fun k => congrFun o.2.1 k
  have eR : ∀ k, zv_R h' s k = zv_R h s k := fun k => congrFun o.2.2 k
  exact ⟨(eI _).trans (zt_fs_i0 f), (eI _).trans (zt_fs_i3 f), (eI _).trans (zt_fs_i6 f), (eI _).trans (zt_fs_i7 f), (eI _).trans (zt_fs_i8 f), (eI _).trans (zt_fs_i9 f), (eI _).trans (zt_fs_ia f), (eI _).trans (zt_fs_ib f), (eI _).trans (zt_fs_ic f), (eI _).trans (zt_fs_id f), (eI _).trans (zt_fs_ie f), (eJ _).trans (zt_fs_jg f), (eJ _).trans (zt_fs_jh f), (eR _).trans (zt_fs_r4 f), (eR _).trans (zt_fs_r5 f)⟩
theorem zt_fs_0 {s : Nat} {x : Int} {h0 h1 h : zv_H} (f : zt_fs s x h1 h) (e : zv_I h1 s 0 = zv_I h0 s 0) : zt_fs s x h0 h := ⟨(zt_fs_i0 f).trans e, zt_fs_i3 f, zt_fs_i6 f, zt_fs_i7 f, zt_fs_i8 f, zt_fs_i9 f, zt_fs_ia f, zt_fs_ib f, zt_fs_ic f, zt_fs_id f, zt_fs_ie f, zt_fs_jg f, zt_fs_jh f, zt_fs_r4 f, zt_fs_r5 f⟩
/-- a step of the usual TEST, wherever it stands -/
theorem zt_jaddo {d b : Nat} {g : zv_H} (o : zc_jo (b + 22) g) {cs : List Int} (S : zt_T0 b cs g) (hl : cs.length < 176) {v : Int} (hv : -3 ≤ v ∧ v < 100000) {x y : Int} (ex : (zt_sp v).1 = x) (ey : (zt_sp v).2 = y) : ∃ g', C1_add (d + 1) (b + 22) x y g = some g' ∧ zt_ja b g g' ∧ zc_jo (b + 22) g' ∧ zt_T0 b (cs ++ [v]) g' := by
  obtain ⟨l1, l2, l3, o4, o5, o6⟩ := o
  have ob : zv_ob g (b + 22) 1 := ⟨by omega, l1⟩
  suffices h : ∃ g', E1_add d (b + 22) x y g = some (none, g') ∧ zt_ja b g g' ∧ zc_jo (b + 22) g' ∧ zt_T0 b (cs ++ [v]) g' by
    obtain ⟨g', e, j⟩ := h
    exact ⟨g', lC1_add ob e, j⟩
  have sz := zt_T0_sz S
  have i0 : ¬ ((cs.length : Nat) : Int) < 0 := Int.not_lt.mpr (Int.natCast_nonneg _)
  have i1 : ((cs.length : Nat) : Int) < 176 := Int.ofNat_lt.mpr hl
  have gI : zv_gI g (b + 22) 1 3 = some (cs.length : Int) := (if_pos ob).trans (by rw [sz])
  have w1 : zv_wI g (b + 22 + 1) (cs.length : Int) x = some (zv_sI g (b + 22 + 1) cs.length x) := by
    unfold zv_wI
    rw [if_pos ⟨by omega, by rw [l2], Int.not_lt.mp i0, by rw [l2]; exact i1⟩, Int.toNat_natCast]
  have gR0 : zv_gR g (b + 22) 1 0 = some (b + 22 + 1) := (if_pos ob).trans (by rw [o5])
  have gR1 : zv_gR (zv_sI g (b + 22 + 1) cs.length x) (b + 22) 1 1 = some (b + 22 + 2) := (if_pos ob).trans (by rw [show zv_R (zv_sI g (b + 22 + 1) cs.length x) (b + 22) 1 = zv_R g (b + 22) 1 from rfl, o6])
  have gI1 : zv_gI (zv_sI g (b + 22 + 1) cs.length x) (b + 22) 1 3 = some (cs.length : Int) := (if_pos ob).trans (by rw [zy_In _ _ (fun q => absurd q.1 (by omega)), sz])
  have w2 : zv_wI (zv_sI g (b + 22 + 1) cs.length x) (b + 22 + 2) (cs.length : Int) y = some (zv_sI (zv_sI g (b + 22 + 1) cs.length x) (b + 22 + 2) cs.length y) := by
    unfold zv_wI
    rw [if_pos ⟨o4, by rw [l3], Int.not_lt.mp i0, by rw [l3]; exact i1⟩, Int.toNat_natCast]
  have gI2 : zv_gI (zv_sI (zv_sI g (b + 22 + 1) cs.length x) (b + 22 + 2) cs.length y) (b + 22) 1 3 = some (cs.length : Int) := (if_pos ob).trans (by rw [zy_In _ _ (fun q => absurd q.1 (by omega)), zy_In _ _ (fun q => absurd q.1 (by omega)), sz])
  have p3 : ∀ z : Int, zv_pI (zv_sI (zv_sI g (b + 22 + 1) cs.length x) (b + 22 + 2) cs.length y) (b + 22) 1 3 z = some (zv_sI (zv_sI (zv_sI g (b + 22 + 1) cs.length x) (b + 22 + 2) cs.length y) (b + 22) 3 z) := fun z => if_pos ob
  rw [qE1_add, zm_e gI, if_neg i0, zm_e gI, if_pos i1, zm_e gR0, zm_e gI, zm_e w1, zm_e gR1, zm_e gI1, zm_e w2, zm_e gI2, zt_tkw (show cs.length ≤ 700 by omega), zm_e (p3 _)]
  refine ⟨_, rfl, ⟨rfl, rfl, fun r k q1 q2 q3 => by rw [zy_In _ _ (fun q => q1 q.1), zy_In _ _ (fun q => q3 q.1), zy_In _ _ (fun q => q2 q.1)]⟩, ⟨l1, l2, l3, o4, o5, o6⟩, ?_, fun k w hk => ?_, fun w hw => ?_⟩
  · rw [zy_I, List.length_append]
    rfl
  · have w3 := zt_w3 g b cs.length x y ((cs.length + 1 : Nat) : Int) k
    rw [show zv_I _ (b + 23) k = _ from w3.1, show zv_I _ (b + 24) k = _ from w3.2]
    by_cases c : k = cs.length
    · have ew : v = w := by
        rw [c, List.getElem?_append_right (Nat.le_refl _), Nat.sub_self] at hk
        exact Option.some.inj hk
      rw [if_pos c, if_pos c, ← ew]
      exact ⟨ex.symm, ey.symm⟩
    · have kl : k < cs.length := by
        have := zm_lt_of_get hk
        rw [List.length_append, List.length_singleton] at this
        omega
      rw [List.getElem?_append_left kl] at hk
      rw [if_neg c, if_neg c]
      exact zt_T0_st S k w hk
  · rcases List.mem_append.mp hw with z | z
    · exact zt_T0_rg S w z
    · rw [List.mem_singleton.mp z]
      exact hv
theorem zt_ja_t {b : Nat} {g g1 g2 : zv_H} (f : zt_ja b g g1) (h : zt_ja b g1 g2) : zt_ja b g g2 := ⟨h.1.trans f.1, h.2.1.trans f.2.1, fun r k q1 q2 q3 => (h.2.2 r k q1 q2 q3).trans (f.2.2 r k q1 q2 q3)⟩
theorem zt_T0_0 {b : Nat} {g : zv_H} (h : zv_I g (b + 22) 3 = 0) : zt_T0 b [] g := ⟨h, fun k v q => (by cases q), fun v q => (by cases q)⟩
theorem zt_usualo {d b : Nat} {g : zv_H} (o : zc_jo (b + 22) g) : ∃ g', C1_usual (d + 3) (b + 22) g = some g' ∧ zt_ja b g g' ∧ zt_T0 b zt_usual g' := by
  have ob : zv_ob g (b + 22) 1 := ⟨by have := o.2.2.2.1; omega, o.1⟩
  suffices h : ∃ g', E1_usual (d + 2) (b + 22) g = some (none, g') ∧ zt_ja b g g' ∧ zt_T0 b zt_usual g' by
    obtain ⟨g', e, j⟩ := h
    exact ⟨g', lC1_usual ob e, j⟩
  have e0 : C1_clear (d + 2) (b + 22) g = some (zv_sI g (b + 22) 3 0) := lC1_clear ob (by
    rw [qE1_clear, zm_e (show zv_pI g (b + 22) 1 3 0 = some (zv_sI g (b + 22) 3 0) from if_pos ob)])
  have j0 : zt_ja b g (zv_sI g (b + 22) 3 0) := ⟨rfl, rfl, fun r k q _ _ => zy_In _ _ (fun z => q z.1)⟩
  have o0 : zc_jo (b + 22) (zv_sI g (b + 22) 3 0) := o
  have S0 : zt_T0 b [] (zv_sI g (b + 22) 3 0) := zt_T0_0 (zy_I _ _ _ _)
  have cmp : ∀ {g1 : zv_H} {cs : List Int} {x y z v : Int}, zc_jo (b + 22) g1 → zt_T0 b cs g1 → cs.length < 176 → (-3 ≤ v ∧ v < 100000) → (zt_sp v).1 = zv_w (zv_w (x * 3) + y) → (zt_sp v).2 = z → ∃ g', C1_compare (d + 2) (b + 22) x y z g1 = some g' ∧ zt_ja b g1 g' ∧ zc_jo (b + 22) g' ∧ zt_T0 b (cs ++ [v]) g' := fun {g1 cs x y z v} o S hl hv ex ey => by
    obtain ⟨g', e, h⟩ := zt_jaddo (d := d) o S hl hv ex ey
    exact ⟨g', lC1_compare ⟨by have := o.2.2.2.1; omega, o.1⟩ (by rw [qE1_compare, zm_e e]), h⟩
  obtain ⟨g1, e1, j1, o1, S1⟩ := cmp (x := 0) (y := 0) (z := 3) (v := 54) o0 S0 (by decide) (by decide) (by decide) (by decide)
  obtain ⟨g2, e2, j2, o2, S2⟩ := cmp (x := 3) (y := 1) (z := 1) (v := 27) o1 S1 (by decide) (by decide) (by decide) (by decide)
  obtain ⟨g3, e3, j3, o3, S3⟩ := zt_jaddo (d := d + 1) (x := 19) (y := 0) (v := -2) o2 S2 (by decide) (by decide) (by decide) (by decide)
  obtain ⟨g4, e4, j4, o4, S4⟩ := cmp (x := 4) (y := 1) (z := 1) (v := 28) o3 S3 (by decide) (by decide) (by decide) (by decide)
  obtain ⟨g5, e5, j5, o5, S5⟩ := zt_jaddo (d := d + 1) (x := 19) (y := 0) (v := -2) o4 S4 (by decide) (by decide) (by decide) (by decide)
  obtain ⟨g6, e6, j6, o6, S6⟩ := cmp (x := 1) (y := 0) (z := 8) (v := 145) o5 S5 (by decide) (by decide) (by decide) (by decide)
  obtain ⟨g7, e7, j7, o7, S7⟩ := zt_jaddo (d := d + 1) (x := 19) (y := 0) (v := -2) o6 S6 (by decide) (by decide) (by decide) (by decide)
  refine ⟨g7, ?_, zt_ja_t j0 (zt_ja_t j1 (zt_ja_t j2 (zt_ja_t j3 (zt_ja_t j4 (zt_ja_t j5 (zt_ja_t j6 j7)))))), S7⟩
  rw [qE1_usual, zm_e e0, zm_e e1, zm_e e2, zm_e e3, zm_e e4, zm_e e5, zm_e e6, zm_e e7]
/-- all anew -/
def zt_bx (b : Nat) (h0 : zv_H) (h : zv_H) : Prop := (h.1 = h0.1) ∧ (h.2.2.2.2 = h0.2.2.2.2) ∧ (∀ j, j < 48 → zt_fs (zc_stt b j) (if j = 0 then 1 else 0) h0 h) ∧ (zv_R h b 10 = b + 1) ∧ (zv_I h b 11 = 0) ∧ (zv_I h b 12 = 1) ∧ (zv_I h (b + 14) 2 = 0) ∧ (zv_I h (b + 17) 4 = 0) ∧ (zt_T0 b zt_usual h) ∧ (∀ r k, (∀ j, j < 48 → r ≠ zc_stt b j) → r ≠ b → r ≠ b + 14 → r ≠ b + 17 → r ≠ b + 22 → r ≠ b + 23 → r ≠ b + 24 → zv_I h r k = zv_I h0 r k) ∧ (∀ r k, (∀ j, j < 48 → r ≠ zc_stt b j) → zv_J h r k = zv_J h0 r k) ∧ (∀ r k, (∀ j, j < 48 → r ≠ zc_stt b j) → ¬ (r = b ∧ k = 10) → zv_R h r k = zv_R h0 r k)
theorem zt_bx_f1 {b : Nat} {h0 : zv_H} {h : zv_H} (t : zt_bx b h0 h) : h.1 = h0.1 := t.1
theorem zt_bx_f2 {b : Nat} {h0 : zv_H} {h : zv_H} (t : zt_bx b h0 h) : h.2.2.2.2 = h0.2.2.2.2 := t.2.1
theorem zt_bx_s {b : Nat} {h0 : zv_H} {h : zv_H} (t : zt_bx b h0 h) : ∀ j, j < 48 → zt_fs (zc_stt b j) (if j = 0 then 1 else 0) h0 h := t.2.2.1
theorem zt_bx_he {b : Nat} {h0 : zv_H} {h : zv_H} (t : zt_bx b h0 h) : zv_R h b 10 = b + 1 := t.2.2.2.1
theorem zt_bx_nw {b : Nat} {h0 : zv_H} {h : zv_H} (t : zt_bx b h0 h) : zv_I h b 11 = 0 := t.2.2.2.2.1
theorem zt_bx_ct {b : Nat} {h0 : zv_H} {h : zv_H} (t : zt_bx b h0 h) : zv_I h b 12 = 1 := t.2.2.2.2.2.1
theorem zt_bx_ns {b : Nat} {h0 : zv_H} {h : zv_H} (t : zt_bx b h0 h) : zv_I h (b + 14) 2 = 0 := t.2.2.2.2.2.2.1
theorem zt_bx_vs {b : Nat} {h0 : zv_H} {h : zv_H} (t : zt_bx b h0 h) : zv_I h (b + 17) 4 = 0 := t.2.2.2.2.2.2.2.1
theorem zt_bx_T {b : Nat} {h0 : zv_H} {h : zv_H} (t : zt_bx b h0 h) : zt_T0 b zt_usual h := t.2.2.2.2.2.2.2.2.1
theorem zt_bx_oI {b : Nat} {h0 : zv_H} {h : zv_H} (t : zt_bx b h0 h) : ∀ r k, (∀ j, j < 48 → r ≠ zc_stt b j) → r ≠ b → r ≠ b + 14 → r ≠ b + 17 → r ≠ b + 22 → r ≠ b + 23 → r ≠ b + 24 → zv_I h r k = zv_I h0 r k := t.2.2.2.2.2.2.2.2.2.1
theorem zt_bx_oJ {b : Nat} {h0 : zv_H} {h : zv_H} (t : zt_bx b h0 h) : ∀ r k, (∀ j, j < 48 → r ≠ zc_stt b j) → zv_J h r k = zv_J h0 r k := t.2.2.2.2.2.2.2.2.2.2.1
theorem zt_bx_oR {b : Nat} {h0 : zv_H} {h : zv_H} (t : zt_bx b h0 h) : ∀ r k, (∀ j, j < 48 → r ≠ zc_stt b j) → ¬ (r = b ∧ k = 10) → zv_R h r k = zv_R h0 r k := t.2.2.2.2.2.2.2.2.2.2.2
def zt_bgi (b : Nat) (h0 h : zv_H) (i : Nat) : Prop := h.1 = h0.1 ∧ h.2.2.2.2 = h0.2.2.2.2 ∧ (∀ r, (∀ j, j < i → r ≠ zc_stt b j) → h.2.1 r = h0.2.1 r ∧ h.2.2.1 r = h0.2.2.1 r ∧ h.2.2.2.1 r = h0.2.2.2.1 r) ∧ ∀ j, j < i → zt_fs (zc_stt b j) (if j = 0 then 1 else 0) h0 h
