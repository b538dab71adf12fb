/-! ===== the tie: a new State, exactly ===== -/
theorem zt_vis_l {a : Nat} (ha : zv_lay a = (1, 0)) : zv_lay (a + 17) = (1, 6) ∧ zv_lay (a + 18) = (2, 40) ∧ zv_lay (a + 19) = (2, 40) ∧ zv_lay (a + 20) = (2, 40) ∧ zv_lay (a + 21) = (2, 40) := by cases zc_lh ha with
  | inl e => rw [e]; exact ⟨rfl, rfl, rfl, rfl, rfl⟩
  | inr e => rw [e]; exact ⟨rfl, rfl, rfl, rfl, rfl⟩
/-- the heap behind a visit -/
def zt_vh (a s : Nat) (t : Int) (g : zv_H) : zv_H := zv_sI (zv_sI (zv_sI (zv_sI g (a + 18) (zv_I g (a + 17) 4 % 40).toNat (zv_I g s 0)) (a + 19) (zv_I g (a + 17) 4 % 40).toNat t) (a + 17) 4 (zv_w (zv_I g (a + 17) 4 + 1))) s 13 (zv_w (zv_I g (a + 17) 4 + 1))
theorem zt_C6_add {d : Nat} {a s : Nat} {t : Int} {g : zv_H} (gL : zt_L g) (ha : zv_lay a = (1, 0)) (ls : zv_lay s = (1, 5)) (h0 : 0 ≤ zv_I g (a + 17) 4) : C6_add (d + 1) (a + 17) s t g = some (zt_vh a s t g) := by
  obtain ⟨l0, l1, l2, _, _⟩ := zt_vis_l ha
  refine lC6_add (zl_ob gL l0) ?_
  have hm : (zv_I g (a + 17) 4).tmod 40 = zv_I g (a + 17) 4 % 40 := Int.tmod_eq_emod_of_nonneg h0
  have r : 0 ≤ zv_I g (a + 17) 4 % 40 ∧ zv_I g (a + 17) 4 % 40 < 40 := ⟨Int.emod_nonneg _ (by decide), Int.emod_lt_of_pos _ (by decide)⟩
  have n18 : ∀ (g : zv_H) (k : Nat) (v : Int), zv_I (zv_sI g (a + 18) k v) (a + 17) 4 = zv_I g (a + 17) 4 := fun g k v => zy_In _ _ (by omega)
  have n19 : ∀ (g : zv_H) (k : Nat) (v : Int), zv_I (zv_sI g (a + 19) k v) (a + 17) 4 = zv_I g (a + 17) 4 := fun g k v => zy_In _ _ (by omega)
  rw [qE6_add, zm_e (zl_gI gL l0 4), hm, if_neg (by omega), if_pos r.2, zm_e (zl_gF gL l0 0 1), show a + 17 + 1 = a + 18 from rfl, zm_e (zl_gI gL ls 0), zm_e (zl_wI gL l1 r.1 r.2 _)]
  rw [zm_e (zl_gF (g := zv_sI g (a + 18) (zv_I g (a + 17) 4 % 40).toNat (zv_I g s 0)) gL l0 1 2), show a + 17 + 2 = a + 19 from rfl, zm_e (zl_wI (g := zv_sI g (a + 18) (zv_I g (a + 17) 4 % 40).toNat (zv_I g s 0)) gL l2 r.1 r.2 _)]
  rw [zm_e (zl_gI (g := zv_sI (zv_sI g (a + 18) (zv_I g (a + 17) 4 % 40).toNat (zv_I g s 0)) (a + 19) (zv_I g (a + 17) 4 % 40).toNat t) gL l0 4), n19, n18, zm_e (zl_pI (g := zv_sI (zv_sI g (a + 18) (zv_I g (a + 17) 4 % 40).toNat (zv_I g s 0)) (a + 19) (zv_I g (a + 17) 4 % 40).toNat t) gL l0 4 _)]
  rw [zm_e (zl_gI (g := zv_sI (zv_sI (zv_sI g (a + 18) (zv_I g (a + 17) 4 % 40).toNat (zv_I g s 0)) (a + 19) (zv_I g (a + 17) 4 % 40).toNat t) (a + 17) 4 (zv_w (zv_I g (a + 17) 4 + 1))) gL l0 4), zy_I, zm_e (zl_pI (g := zv_sI (zv_sI (zv_sI g (a + 18) (zv_I g (a + 17) 4 % 40).toNat (zv_I g s 0)) (a + 19) (zv_I g (a + 17) 4 % 40).toNat t) (a + 17) 4 (zv_w (zv_I g (a + 17) 4 + 1))) gL ls 13 _)]
  rfl
/-! one write behind another -/
theorem zs_II (h : zv_H) (r k : Nat) (v : Int) : zv_I (zv_sI h r k v) r k = v := if_pos ⟨rfl, rfl⟩
theorem zs_In (h : zv_H) (r k : Nat) (v : Int) {b : Nat} (hb : b ≠ k) : zv_I (zv_sI h r k v) r b = zv_I h r b := if_neg (fun q => hb q.2)
theorem zs_Io (h : zv_H) (r k : Nat) (v : Int) {a b : Nat} (ha : a ≠ r) : zv_I (zv_sI h r k v) a b = zv_I h a b := if_neg (fun q => ha q.1)
theorem zs_IJ (h : zv_H) (r k : Nat) (v : Int64) (a b : Nat) : zv_I (zv_sJ h r k v) a b = zv_I h a b := rfl
theorem zs_IR (h : zv_H) (r k v a b : Nat) : zv_I (zv_sR h r k v) a b = zv_I h a b := rfl
theorem zs_JJ (h : zv_H) (r k : Nat) (v : Int64) : zv_J (zv_sJ h r k v) r k = v := if_pos ⟨rfl, rfl⟩
theorem zs_Jn (h : zv_H) (r k : Nat) (v : Int64) {b : Nat} (hb : b ≠ k) : zv_J (zv_sJ h r k v) r b = zv_J h r b := if_neg (fun q => hb q.2)
theorem zs_Jo (h : zv_H) (r k : Nat) (v : Int64) {a b : Nat} (ha : a ≠ r) : zv_J (zv_sJ h r k v) a b = zv_J h a b := if_neg (fun q => ha q.1)
theorem zs_JI (h : zv_H) (r k : Nat) (v : Int) (a b : Nat) : zv_J (zv_sI h r k v) a b = zv_J h a b := rfl
theorem zs_JR (h : zv_H) (r k v a b : Nat) : zv_J (zv_sR h r k v) a b = zv_J h a b := rfl
theorem zs_RR (h : zv_H) (r k v : Nat) : zv_R (zv_sR h r k v) r k = v := if_pos ⟨rfl, rfl⟩
theorem zs_Rn (h : zv_H) (r k v : Nat) {b : Nat} (hb : b ≠ k) : zv_R (zv_sR h r k v) r b = zv_R h r b := if_neg (fun q => hb q.2)
theorem zs_Rg (h : zv_H) (r k v : Nat) {a b : Nat} (ha : ¬ (a = r ∧ b = k)) : zv_R (zv_sR h r k v) a b = zv_R h a b := if_neg ha
theorem zs_RI (h : zv_H) (r k : Nat) (v : Int) (a b : Nat) : zv_R (zv_sI h r k v) a b = zv_R h a b := rfl
theorem zs_RJ (h : zv_H) (r k : Nat) (v : Int64) (a b : Nat) : zv_R (zv_sJ h r k v) a b = zv_R h a b := rfl
/-- what State.open leaves, exactly -/
def zt_op (h : zv_H) (h' : zv_H) (s : Nat) (p : Nat) (x : Int) (y : Int) (z : Int) : Prop := (h'.1 = h.1) ∧ (h'.2.2.2.2 = h.2.2.2.2) ∧ (∀ r k, r ≠ s → zv_I h' r k = zv_I h r k) ∧ (∀ r k, r ≠ s → zv_J h' r k = zv_J h r k) ∧ (∀ r k, ¬ (r = s ∧ (k = 4 ∨ k = 5)) → zv_R h' r k = zv_R h r k) ∧ (zv_I h' s 0 = zv_I h s 0) ∧ (zv_I h' s 3 = 1) ∧ (zv_I h' s 6 = x) ∧ (zv_I h' s 8 = y) ∧ (zv_I h' s 9 = z) ∧ (zv_I h' s 11 = 0) ∧ (zv_I h' s 12 = 0) ∧ (zv_I h' s 15 = -1) ∧ (zv_J h' s 16 = Int64.ofNat 0) ∧ (zv_J h' s 17 = Int64.ofNat 0) ∧ (zv_R h' s 4 = p) ∧ (zv_R h' s 5 = s)
theorem zt_op_f1 {h : zv_H} {h' : zv_H} {s : Nat} {p : Nat} {x : Int} {y : Int} {z : Int} (t : zt_op h h' s p x y z) : h'.1 = h.1 := t.1
theorem zt_op_f2 {h : zv_H} {h' : zv_H} {s : Nat} {p : Nat} {x : Int} {y : Int} {z : Int} (t : zt_op h h' s p x y z) : h'.2.2.2.2 = h.2.2.2.2 := t.2.1
theorem zt_op_oI {h : zv_H} {h' : zv_H} {s : Nat} {p : Nat} {x : Int} {y : Int} {z : Int} (t : zt_op h h' s p x y z) : ∀ r k, r ≠ s → zv_I h' r k = zv_I h r k := t.2.2.1
theorem zt_op_oJ {h : zv_H} {h' : zv_H} {s : Nat} {p : Nat} {x : Int} {y : Int} {z : Int} (t : zt_op h h' s p x y z) : ∀ r k, r ≠ s → zv_J h' r k = zv_J h r k := t.2.2.2.1
theorem zt_op_oR {h : zv_H} {h' : zv_H} {s : Nat} {p : Nat} {x : Int} {y : Int} {z : Int} (t : zt_op h h' s p x y z) : ∀ r k, ¬ (r = s ∧ (k = 4 ∨ k = 5)) → zv_R h' r k = zv_R h r k := t.2.2.2.2.1
theorem zt_op_s0 {h : zv_H} {h' : zv_H} {s : Nat} {p : Nat} {x : Int} {y : Int} {z : Int} (t : zt_op h h' s p x y z) : zv_I h' s 0 = zv_I h s 0 := t.2.2.2.2.2.1
theorem zt_op_s3 {h : zv_H} {h' : zv_H} {s : Nat} {p : Nat} {x : Int} {y : Int} {z : Int} (t : zt_op h h' s p x y z) : zv_I h' s 3 = 1 := t.2.2.2.2.2.2.1
theorem zt_op_s6 {h : zv_H} {h' : zv_H} {s : Nat} {p : Nat} {x : Int} {y : Int} {z : Int} (t : zt_op h h' s p x y z) : zv_I h' s 6 = x := t.2.2.2.2.2.2.2.1
theorem zt_op_s8 {h : zv_H} {h' : zv_H} {s : Nat} {p : Nat} {x : Int} {y : Int} {z : Int} (t : zt_op h h' s p x y z) : zv_I h' s 8 = y := t.2.2.2.2.2.2.2.2.1
theorem zt_op_s9 {h : zv_H} {h' : zv_H} {s : Nat} {p : Nat} {x : Int} {y : Int} {z : Int} (t : zt_op h h' s p x y z) : zv_I h' s 9 = z := t.2.2.2.2.2.2.2.2.2.1
theorem zt_op_sb {h : zv_H} {h' : zv_H} {s : Nat} {p : Nat} {x : Int} {y : Int} {z : Int} (t : zt_op h h' s p x y z) : zv_I h' s 11 = 0 := t.2.2.2.2.2.2.2.2.2.2.1
theorem zt_op_sc {h : zv_H} {h' : zv_H} {s : Nat} {p : Nat} {x : Int} {y : Int} {z : Int} (t : zt_op h h' s p x y z) : zv_I h' s 12 = 0 := t.2.2.2.2.2.2.2.2.2.2.2.1
theorem zt_op_sf {h : zv_H} {h' : zv_H} {s : Nat} {p : Nat} {x : Int} {y : Int} {z : Int} (t : zt_op h h' s p x y z) : zv_I h' s 15 = -1 := t.2.2.2.2.2.2.2.2.2.2.2.2.1
theorem zt_op_jg {h : zv_H} {h' : zv_H} {s : Nat} {p : Nat} {x : Int} {y : Int} {z : Int} (t : zt_op h h' s p x y z) : zv_J h' s 16 = Int64.ofNat 0 := t.2.2.2.2.2.2.2.2.2.2.2.2.2.1
theorem zt_op_jh {h : zv_H} {h' : zv_H} {s : Nat} {p : Nat} {x : Int} {y : Int} {z : Int} (t : zt_op h h' s p x y z) : zv_J h' s 17 = Int64.ofNat 0 := t.2.2.2.2.2.2.2.2.2.2.2.2.2.2.1
theorem zt_op_r4 {h : zv_H} {h' : zv_H} {s : Nat} {p : Nat} {x : Int} {y : Int} {z : Int} (t : zt_op h h' s p x y z) : zv_R h' s 4 = p := t.2.2.2.2.2.2.2.2.2.2.2.2.2.2.2.1
theorem zt_op_r5 {h : zv_H} {h' : zv_H} {s : Nat} {p : Nat} {x : Int} {y : Int} {z : Int} (t : zt_op h h' s p x y z) : zv_R h' s 5 = s := t.2.2.2.2.2.2.2.2.2.2.2.2.2.2.2.2
theorem zs_1I (h : zv_H) (a k : Nat) (v : Int) : (zv_sI h a k v).1 = h.1 := rfl
theorem zs_1J (h : zv_H) (a k : Nat) (v : Int64) : (zv_sJ h a k v).1 = h.1 := rfl
theorem zs_1R (h : zv_H) (a k v : Nat) : (zv_sR h a k v).1 = h.1 := rfl
theorem zs_4I (h : zv_H) (a k : Nat) (v : Int) : (zv_sI h a k v).2.2.2.2 = h.2.2.2.2 := rfl
theorem zs_4J (h : zv_H) (a k : Nat) (v : Int64) : (zv_sJ h a k v).2.2.2.2 = h.2.2.2.2 := rfl
theorem zs_4R (h : zv_H) (a k v : Nat) : (zv_sR h a k v).2.2.2.2 = h.2.2.2.2 := rfl
theorem zs_oI {h : zv_H} {r c a k : Nat} {v : Int} (o : zv_ob h r c) : zv_ob (zv_sI h a k v) r c := o
theorem zs_oJ {h : zv_H} {r c a k : Nat} {v : Int64} (o : zv_ob h r c) : zv_ob (zv_sJ h a k v) r c := o
theorem zs_oR {h : zv_H} {r c a k v : Nat} (o : zv_ob h r c) : zv_ob (zv_sR h a k v) r c := o
theorem zt_E5_open {d : Nat} {h : zv_H} {s p : Nat} {x y z : Int} (gL : zt_L h) (ls : zv_lay s = (1, 5)) (lp : p = 0 ∨ zv_lay p = (1, 5)) : zm_R (E5_open d s p x y z h) (zm_V fun h' => zt_op h h' s p x y z) := by
  have ob := zl_ob gL ls
  have tail : ∀ w : Int, zm_R (L5_open_51 d s s w (zv_sI (zv_sI (zv_sI (zv_sI (zv_sR (zv_sR (zv_sI h s 3 1) s 4 p) s 5 s) s 6 x) s 7 0) s 8 y) s 9 z)) (zm_V fun h' => zt_op h h' s p x y z) := by
    intro w
    rw [qL5_open_51]
    refine zc_dI (zs_oI (zs_oI (zs_oI (zs_oI (zs_oR (zs_oR (zs_oI ob))))))) ?_
    refine zc_dI (zs_oI (zs_oI (zs_oI (zs_oI (zs_oI (zs_oR (zs_oR (zs_oI ob)))))))) ?_
    refine zc_dI (zs_oI (zs_oI (zs_oI (zs_oI (zs_oI (zs_oI (zs_oR (zs_oR (zs_oI ob))))))))) ?_
    refine zc_dI (zs_oI (zs_oI (zs_oI (zs_oI (zs_oI (zs_oI (zs_oI (zs_oR (zs_oR (zs_oI ob)))))))))) ?_
    refine zc_dI (zs_oI (zs_oI (zs_oI (zs_oI (zs_oI (zs_oI (zs_oI (zs_oI (zs_oR (zs_oR (zs_oI ob))))))))))) ?_
    refine zc_dI (zs_oI (zs_oI (zs_oI (zs_oI (zs_oI (zs_oI (zs_oI (zs_oI (zs_oI (zs_oR (zs_oR (zs_oI ob)))))))))))) ?_
    refine zc_dJ (zs_oI (zs_oI (zs_oI (zs_oI (zs_oI (zs_oI (zs_oI (zs_oI (zs_oI (zs_oI (zs_oR (zs_oR (zs_oI ob))))))))))))) ?_
    refine zc_dJ (zs_oJ (zs_oI (zs_oI (zs_oI (zs_oI (zs_oI (zs_oI (zs_oI (zs_oI (zs_oI (zs_oI (zs_oR (zs_oR (zs_oI ob)))))))))))))) ?_
    refine zm_iV ⟨by simp only [zs_1I, zs_1J, zs_1R], by simp only [zs_4I, zs_4J, zs_4R], fun r k hr => ?_, fun r k hr => ?_, fun r k hr => ?_, ?_, ?_, ?_, ?_, ?_, ?_, ?_, ?_, ?_, ?_, ?_, ?_⟩
    · rw [zs_IJ, zs_IJ]
      simp only [zs_Io _ _ _ _ hr, zs_IR]
    · rw [zs_Jo _ _ _ _ hr, zs_Jo _ _ _ _ hr]
      simp only [zs_JI, zs_JR]
    · have h4 : ¬ (r = s ∧ k = 4) := fun q => hr ⟨q.1, Or.inl q.2⟩
      have h5 : ¬ (r = s ∧ k = 5) := fun q => hr ⟨q.1, Or.inr q.2⟩
      simp only [zs_RI, zs_RJ, zs_Rg _ _ _ _ h4, zs_Rg _ _ _ _ h5]
    all_goals simp only [zs_II, zs_IJ, zs_IR, zs_JJ, zs_JI, zs_JR, zs_RR, zs_RI, zs_RJ, zs_In, zs_Jn, zs_Rn, ne_eq, Nat.reduceEqDiff, not_false_eq_true]
  rw [qE5_open]
  refine zc_dZ ob (Or.inr rfl) ?_
  refine zc_dR (zs_oI ob) ?_
  refine zc_dR (zs_oR (zs_oI ob)) ?_
  refine zc_dI (zs_oR (zs_oR (zs_oI ob))) ?_
  refine zc_dI (zs_oI (zs_oR (zs_oR (zs_oI ob)))) ?_
  refine zc_dI (zs_oI (zs_oI (zs_oR (zs_oR (zs_oI ob))))) ?_
  refine zc_dI (zs_oI (zs_oI (zs_oI (zs_oR (zs_oR (zs_oI ob)))))) ?_
  refine zm_if (fun c => tail 0) (fun c => ?_)
  have op := zl_ob gL (lp.resolve_left c)
  refine zc_eI (zs_oI (zs_oI (zs_oI (zs_oI (zs_oR (zs_oR (zs_oI op))))))) rfl ?_
  exact tail _
theorem zt_C5_open {d : Nat} {h : zv_H} {s p : Nat} {x y z : Int} (gL : zt_L h) (ls : zv_lay s = (1, 5)) (lp : p = 0 ∨ zv_lay p = (1, 5)) : zm_R (C5_open (d + 1) s p x y z h) (fun h' => zt_op h h' s p x y z) := zm_cV (fun e => lC5_open (zl_ob gL ls) e) (zt_E5_open gL ls lp)
/-- what grow leaves, exactly: the new one is number i -/
def zt_gw (a : Nat) (h : zv_H) (g : zv_H) (i : Nat) (x : Int) (y : Int) (z : Int) : Prop := (zt_L g) ∧ (g.1 = h.1) ∧ (g.2.2.2.2 = h.2.2.2.2) ∧ (∀ r k, r ≠ zc_stt a i → ¬ (r = zv_R h a 10 ∧ k = 11) → ¬ (r = a ∧ k = 12) → ¬ (r = a + 17 ∧ k = 4) → r ≠ a + 18 → r ≠ a + 19 → zv_I g r k = zv_I h r k) ∧ (∀ r k, r ≠ zc_stt a i → zv_J g r k = zv_J h r k) ∧ (∀ r k, r ≠ zc_stt a i → ¬ (r = a ∧ k = 10) → zv_R g r k = zv_R h r k) ∧ (zv_I g (zc_stt a i) 0 = i) ∧ (zv_I g (zc_stt a i) 3 = 1) ∧ (zv_I g (zc_stt a i) 6 = x) ∧ (zv_I g (zc_stt a i) 7 = zv_I h a 11) ∧ (zv_I g (zc_stt a i) 8 = y) ∧ (zv_I g (zc_stt a i) 9 = z) ∧ (zv_I g (zc_stt a i) 12 = 0) ∧ (zv_I g (zc_stt a i) 13 = zv_w (zv_I h (a + 17) 4 + 1)) ∧ (zv_I g (zc_stt a i) 15 = -1) ∧ (zv_J g (zc_stt a i) 16 = Int64.ofNat 0) ∧ (zv_J g (zc_stt a i) 17 = Int64.ofNat 0) ∧ (zv_R g (zc_stt a i) 4 = zv_R h a 10) ∧ (zv_R g (zc_stt a i) 5 = zc_stt a i) ∧ (zv_R g a 10 = zc_stt a i) ∧ (zv_I g a 12 = zv_w (zv_I h a 12 + 1)) ∧ (zv_I g (a + 17) 4 = zv_w (zv_I h (a + 17) 4 + 1)) ∧ (∀ k, zv_I g (a + 18) k = if k = (zv_I h (a + 17) 4 % 40).toNat then (i : Int) else zv_I h (a + 18) k) ∧ (∀ k, zv_I g (a + 19) k = if k = (zv_I h (a + 17) 4 % 40).toNat then zv_I h a 11 else zv_I h (a + 19) k)
theorem zt_gw_L {a : Nat} {h : zv_H} {g : zv_H} {i : Nat} {x : Int} {y : Int} {z : Int} (t : zt_gw a h g i x y z) : zt_L g := t.1
theorem zt_gw_f1 {a : Nat} {h : zv_H} {g : zv_H} {i : Nat} {x : Int} {y : Int} {z : Int} (t : zt_gw a h g i x y z) : g.1 = h.1 := t.2.1
theorem zt_gw_f2 {a : Nat} {h : zv_H} {g : zv_H} {i : Nat} {x : Int} {y : Int} {z : Int} (t : zt_gw a h g i x y z) : g.2.2.2.2 = h.2.2.2.2 := t.2.2.1
theorem zt_gw_oI {a : Nat} {h : zv_H} {g : zv_H} {i : Nat} {x : Int} {y : Int} {z : Int} (t : zt_gw a h g i x y z) : ∀ r k, r ≠ zc_stt a i → ¬ (r = zv_R h a 10 ∧ k = 11) → ¬ (r = a ∧ k = 12) → ¬ (r = a + 17 ∧ k = 4) → r ≠ a + 18 → r ≠ a + 19 → zv_I g r k = zv_I h r k := t.2.2.2.1
theorem zt_gw_oJ {a : Nat} {h : zv_H} {g : zv_H} {i : Nat} {x : Int} {y : Int} {z : Int} (t : zt_gw a h g i x y z) : ∀ r k, r ≠ zc_stt a i → zv_J g r k = zv_J h r k := t.2.2.2.2.1
theorem zt_gw_oR {a : Nat} {h : zv_H} {g : zv_H} {i : Nat} {x : Int} {y : Int} {z : Int} (t : zt_gw a h g i x y z) : ∀ r k, r ≠ zc_stt a i → ¬ (r = a ∧ k = 10) → zv_R g r k = zv_R h r k := t.2.2.2.2.2.1
theorem zt_gw_s0 {a : Nat} {h : zv_H} {g : zv_H} {i : Nat} {x : Int} {y : Int} {z : Int} (t : zt_gw a h g i x y z) : zv_I g (zc_stt a i) 0 = i := t.2.2.2.2.2.2.1
theorem zt_gw_s3 {a : Nat} {h : zv_H} {g : zv_H} {i : Nat} {x : Int} {y : Int} {z : Int} (t : zt_gw a h g i x y z) : zv_I g (zc_stt a i) 3 = 1 := t.2.2.2.2.2.2.2.1
theorem zt_gw_s6 {a : Nat} {h : zv_H} {g : zv_H} {i : Nat} {x : Int} {y : Int} {z : Int} (t : zt_gw a h g i x y z) : zv_I g (zc_stt a i) 6 = x := t.2.2.2.2.2.2.2.2.1
theorem zt_gw_s7 {a : Nat} {h : zv_H} {g : zv_H} {i : Nat} {x : Int} {y : Int} {z : Int} (t : zt_gw a h g i x y z) : zv_I g (zc_stt a i) 7 = zv_I h a 11 := t.2.2.2.2.2.2.2.2.2.1
theorem zt_gw_s8 {a : Nat} {h : zv_H} {g : zv_H} {i : Nat} {x : Int} {y : Int} {z : Int} (t : zt_gw a h g i x y z) : zv_I g (zc_stt a i) 8 = y := t.2.2.2.2.2.2.2.2.2.2.1
theorem zt_gw_s9 {a : Nat} {h : zv_H} {g : zv_H} {i : Nat} {x : Int} {y : Int} {z : Int} (t : zt_gw a h g i x y z) : zv_I g (zc_stt a i) 9 = z := t.2.2.2.2.2.2.2.2.2.2.2.1
theorem zt_gw_sc {a : Nat} {h : zv_H} {g : zv_H} {i : Nat} {x : Int} {y : Int} {z : Int} (t : zt_gw a h g i x y z) : zv_I g (zc_stt a i) 12 = 0 := t.2.2.2.2.2.2.2.2.2.2.2.2.1
theorem zt_gw_sd {a : Nat} {h : zv_H} {g : zv_H} {i : Nat} {x : Int} {y : Int} {z : Int} (t : zt_gw a h g i x y z) : zv_I g (zc_stt a i) 13 = zv_w (zv_I h (a + 17) 4 + 1) := t.2.2.2.2.2.2.2.2.2.2.2.2.2.1
theorem zt_gw_sf {a : Nat} {h : zv_H} {g : zv_H} {i : Nat} {x : Int} {y : Int} {z : Int} (t : zt_gw a h g i x y z) : zv_I g (zc_stt a i) 15 = -1 := t.2.2.2.2.2.2.2.2.2.2.2.2.2.2.1
theorem zt_gw_jg {a : Nat} {h : zv_H} {g : zv_H} {i : Nat} {x : Int} {y : Int} {z : Int} (t : zt_gw a h g i x y z) : zv_J g (zc_stt a i) 16 = Int64.ofNat 0 := t.2.2.2.2.2.2.2.2.2.2.2.2.2.2.2.1
theorem zt_gw_jh {a : Nat} {h : zv_H} {g : zv_H} {i : Nat} {x : Int} {y : Int} {z : Int} (t : zt_gw a h g i x y z) : zv_J g (zc_stt a i) 17 = Int64.ofNat 0 := t.2.2.2.2.2.2.2.2.2.2.2.2.2.2.2.2.1
theorem zt_gw_r4 {a : Nat} {h : zv_H} {g : zv_H} {i : Nat} {x : Int} {y : Int} {z : Int} (t : zt_gw a h g i x y z) : zv_R g (zc_stt a i) 4 = zv_R h a 10 := t.2.2.2.2.2.2.2.2.2.2.2.2.2.2.2.2.2.1
theorem zt_gw_r5 {a : Nat} {h : zv_H} {g : zv_H} {i : Nat} {x : Int} {y : Int} {z : Int} (t : zt_gw a h g i x y z) : zv_R g (zc_stt a i) 5 = zc_stt a i := t.2.2.2.2.2.2.2.2.2.2.2.2.2.2.2.2.2.2.1
theorem zt_gw_he {a : Nat} {h : zv_H} {g : zv_H} {i : Nat} {x : Int} {y : Int} {z : Int} (t : zt_gw a h g i x y z) : zv_R g a 10 = zc_stt a i := t.2.2.2.2.2.2.2.2.2.2.2.2.2.2.2.2.2.2.2.1
theorem zt_gw_ct {a : Nat} {h : zv_H} {g : zv_H} {i : Nat} {x : Int} {y : Int} {z : Int} (t : zt_gw a h g i x y z) : zv_I g a 12 = zv_w (zv_I h a 12 + 1) := t.2.2.2.2.2.2.2.2.2.2.2.2.2.2.2.2.2.2.2.2.1
theorem zt_gw_v4 {a : Nat} {h : zv_H} {g : zv_H} {i : Nat} {x : Int} {y : Int} {z : Int} (t : zt_gw a h g i x y z) : zv_I g (a + 17) 4 = zv_w (zv_I h (a + 17) 4 + 1) := t.2.2.2.2.2.2.2.2.2.2.2.2.2.2.2.2.2.2.2.2.2.1
theorem zt_gw_vs {a : Nat} {h : zv_H} {g : zv_H} {i : Nat} {x : Int} {y : Int} {z : Int} (t : zt_gw a h g i x y z) : ∀ k, zv_I g (a + 18) k = if k = (zv_I h (a + 17) 4 % 40).toNat then (i : Int) else zv_I h (a + 18) k := t.2.2.2.2.2.2.2.2.2.2.2.2.2.2.2.2.2.2.2.2.2.2.1
theorem zt_gw_vt {a : Nat} {h : zv_H} {g : zv_H} {i : Nat} {x : Int} {y : Int} {z : Int} (t : zt_gw a h g i x y z) : ∀ k, zv_I g (a + 19) k = if k = (zv_I h (a + 17) 4 % 40).toNat then zv_I h a 11 else zv_I h (a + 19) k := t.2.2.2.2.2.2.2.2.2.2.2.2.2.2.2.2.2.2.2.2.2.2.2
theorem zt_hn {a n : Nat} (ha : zv_lay a = (1, 0)) (hn : n ≠ 1 ∧ n ≤ 27) : zv_lay (a + n) ≠ (1, 5) := by
  have e : ((List.range 28).all fun n => Nat.beq n 1 || (decide (zv_lay (9 + n) ≠ (1, 5)) && decide (zv_lay (178 + n) ≠ (1, 5)))) = true := by decide +kernel
  have e1 := List.all_eq_true.mp e n (List.mem_range.mpr (by omega))
  rw [Bool.or_eq_true, Bool.and_eq_true] at e1
  rcases e1 with q | q
  · exact absurd (Nat.eq_of_beq_eq_true q) hn.1
  · rcases zc_lh ha with z | z
    · rw [z]; exact of_decide_eq_true q.1
    · rw [z]; exact of_decide_eq_true q.2
theorem zt_stt_ne {a i x : Nat} (ha : zv_lay a = (1, 0)) (hi : i < 48) (hx : x ≠ 1 ∧ x ≤ 27) : a + x ≠ zc_stt a i := fun q => zt_hn ha hx (by
  rw [q]
  exact (zc_stl ha hi).1)
theorem zt_grow25 {d : Nat} {a i : Nat} {h : zv_H} {x y z : Int} (gL : zt_L h) (ha : zv_lay a = (1, 0)) (hi : i < 48) (hn : zv_I h (zc_stt a i) 0 = i) (lp : zv_lay (zv_R h a 10) = (1, 5)) (np : zv_R h a 10 ≠ zc_stt a i) (h0 : 0 ≤ zv_I h (a + 17) 4) : zm_R (L0_grow_25 (d + 1) a x y z (i : Int) h) (zm_N fun v g => v = zc_stt a i ∧ zt_gw a h g i x y z) := by
  have ls := (zc_stl ha hi).1
  obtain ⟨l17, l18, l19, _, _⟩ := zt_vis_l ha
  have h9 := zc_lh ha
  have nx : ∀ n, n ≠ 1 ∧ n ≤ 27 → a + n ≠ zc_stt a i := fun n hn => zt_stt_ne ha hi hn
  have na : a ≠ zc_stt a i := nx 0 (by decide)
  have pn : ∀ n, n ≠ 1 → n ≤ 27 → a + n ≠ zv_R h a 10 := fun n h1 h2 q => zt_hn ha ⟨h1, h2⟩ (by
    rw [q]
    exact lp)
  have pa : a ≠ zv_R h a 10 := pn 0 (by decide) (by decide)
  rw [qL0_grow_25, if_pos (by omega), zm_e (zl_gF gL ha 1 4), zm_e (zl_aS gL ha (by omega) (by omega)), show ((i : Int)).toNat = i by omega, if_neg (zc_nz ls), zm_e (zl_gF gL ha 1 4), zm_e (zl_aS gL ha (by omega) (by omega)), show ((i : Int)).toNat = i by omega, zm_e (zl_gR gL ha 10)]
  generalize hs : zc_stt a i = s at *
  generalize hp : zv_R h a 10 = p at *
  obtain ⟨g6, e6, O⟩ := zt_C5_open (d := d) (x := x) (y := y) (z := z) gL ls (Or.inr lp)
  rw [zm_e e6]
  have L6 : zt_L g6 := by
    refine ⟨?_, fun r k c1 c2 => ?_, fun b j c1 c2 => ?_⟩
    · show g6.1.1 = 372
      rw [zt_op_f1 O]; exact gL.1
    · rw [zt_op_oR O r k (fun q => by
        rw [q.1, ls] at c2
        rcases q.2 with e | e <;> rw [e] at c2 <;> exact c2 rfl)]
      exact gL.2.1 r k c1 c2
    · rw [zt_op_oR O (b + 4) j (fun q => by
        have := zl_l4 c1
        rw [q.1, ls] at this
        cases this)]
      exact gL.2.2 b j c1 c2
  have ra : zv_R g6 a 10 = p := (zt_op_oR O a 10 (fun q => na q.1)).trans hp
  rw [zm_e (zl_gI L6 ha 11), zt_op_oI O a 11 na, zm_e (zl_pI L6 ls 7 _), zm_e (zl_gR (g := zv_sI g6 s 7 (zv_I h a 11)) L6 ha 10), show zv_R (zv_sI g6 s 7 (zv_I h a 11)) a 10 = p from ra, zm_e (zl_gI (g := zv_sI g6 s 7 (zv_I h a 11)) L6 lp 11), zm_e (zl_pI (g := zv_sI g6 s 7 (zv_I h a 11)) L6 lp 11 _)]
  have e1 : zv_I (zv_sI g6 s 7 (zv_I h a 11)) p 11 = zv_I h p 11 := by rw [zy_In _ _ (fun q => np q.1), zt_op_oI O p 11 np]
  rw [e1]
  generalize hw : zv_w (zv_I h p 11 + 1) = w
  have L7 : zt_L (zv_sI (zv_sI g6 s 7 (zv_I h a 11)) p 11 w) := L6
  have e2 : zv_I (zv_sI (zv_sI g6 s 7 (zv_I h a 11)) p 11 w) a 12 = zv_I h a 12 := by rw [zy_In _ _ (fun q => pa q.1), zy_In _ _ (fun q => na q.1), zt_op_oI O a 12 na]
  rw [zm_e (zl_gI L7 ha 12), e2, zm_e (zl_pI L7 ha 12 _)]
  have L8 : zt_L (zv_sI (zv_sI (zv_sI g6 s 7 (zv_I h a 11)) p 11 w) a 12 (zv_w (zv_I h a 12 + 1))) := L6
  rw [zm_e (zl_pR L8 ha 10 s)]
  have L9 : zt_L (zv_sR (zv_sI (zv_sI (zv_sI g6 s 7 (zv_I h a 11)) p 11 w) a 12 (zv_w (zv_I h a 12 + 1))) a 10 s) := zl_sR L8 (fun _ => by rw [ha]; rfl) (by omega) (by omega)
  have y1 := zt_op_f1 O
  have y2 := zt_op_f2 O
  have oI : ∀ r k, r ≠ s → ¬ (r = p ∧ k = 11) → ¬ (r = a ∧ k = 12) → zv_I (zv_sR (zv_sI (zv_sI (zv_sI g6 s 7 (zv_I h a 11)) p 11 w) a 12 (zv_w (zv_I h a 12 + 1))) a 10 s) r k = zv_I h r k := fun r k c1 c2 c3 => by
    rw [show ∀ g, zv_I (zv_sR g a 10 s) r k = zv_I g r k from fun _ => rfl, zy_In _ _ c3, zy_In _ _ c2, zy_In _ _ (fun q => c1 q.1), zt_op_oI O r k c1]
  have sI : ∀ k, k ≠ 7 → zv_I (zv_sR (zv_sI (zv_sI (zv_sI g6 s 7 (zv_I h a 11)) p 11 w) a 12 (zv_w (zv_I h a 12 + 1))) a 10 s) s k = zv_I g6 s k := fun k hk => by
    rw [show ∀ g, zv_I (zv_sR g a 10 s) s k = zv_I g s k from fun _ => rfl, zy_In _ _ (fun q => na q.1.symm), zy_In _ _ (fun q => np q.1.symm), zy_In _ _ (fun q => hk q.2)]
  have s7 : zv_I (zv_sR (zv_sI (zv_sI (zv_sI g6 s 7 (zv_I h a 11)) p 11 w) a 12 (zv_w (zv_I h a 12 + 1))) a 10 s) s 7 = zv_I h a 11 := by
    rw [show ∀ g, zv_I (zv_sR g a 10 s) s 7 = zv_I g s 7 from fun _ => rfl, zy_In _ _ (fun q => na q.1.symm), zy_In _ _ (fun q => np q.1.symm), zy_I]
  have a12 : zv_I (zv_sR (zv_sI (zv_sI (zv_sI g6 s 7 (zv_I h a 11)) p 11 w) a 12 (zv_w (zv_I h a 12 + 1))) a 10 s) a 12 = zv_w (zv_I h a 12 + 1) := zy_I _ _ _ _
  have oJ : ∀ r k, zv_J (zv_sR (zv_sI (zv_sI (zv_sI g6 s 7 (zv_I h a 11)) p 11 w) a 12 (zv_w (zv_I h a 12 + 1))) a 10 s) r k = zv_J g6 r k := fun _ _ => rfl
  have oR : ∀ r k, ¬ (r = a ∧ k = 10) → zv_R (zv_sR (zv_sI (zv_sI (zv_sI g6 s 7 (zv_I h a 11)) p 11 w) a 12 (zv_w (zv_I h a 12 + 1))) a 10 s) r k = zv_R g6 r k := fun r k c1 => zy_Rn _ _ c1
  have rh : zv_R (zv_sR (zv_sI (zv_sI (zv_sI g6 s 7 (zv_I h a 11)) p 11 w) a 12 (zv_w (zv_I h a 12 + 1))) a 10 s) a 10 = s := zy_R _ _ _ _
  have x1 : (zv_sR (zv_sI (zv_sI (zv_sI g6 s 7 (zv_I h a 11)) p 11 w) a 12 (zv_w (zv_I h a 12 + 1))) a 10 s).1 = h.1 := y1
  have x2 : (zv_sR (zv_sI (zv_sI (zv_sI g6 s 7 (zv_I h a 11)) p 11 w) a 12 (zv_w (zv_I h a 12 + 1))) a 10 s).2.2.2.2 = h.2.2.2.2 := y2
  generalize zv_sR (zv_sI (zv_sI (zv_sI g6 s 7 (zv_I h a 11)) p 11 w) a 12 (zv_w (zv_I h a 12 + 1))) a 10 s = g9 at L9 oI sI s7 a12 oJ oR rh x1 x2
  have ecn : zv_I g9 (a + 17) 4 = zv_I h (a + 17) 4 := oI _ _ (nx 17 (by decide)) (fun q => absurd q.2 (by decide)) (fun q => absurd q.2 (by decide))
  have enw : zv_I g9 a 11 = zv_I h a 11 := oI _ _ na (fun q => pa q.1) (fun q => absurd q.2 (by decide))
  have enm : zv_I g9 s 0 = i := by rw [sI 0 (by decide), zt_op_s0 O]; exact hn
  rw [zm_e (zl_gF L9 ha 7 17), zm_e (zl_gI L9 ha 11), enw, zm_e (zt_C6_add L9 ha ls (by rw [ecn]; exact h0))]
  have V : ∀ r k, ¬ (r = s ∧ k = 13) → ¬ (r = a + 17 ∧ k = 4) → r ≠ a + 18 → r ≠ a + 19 → zv_I (zt_vh a s (zv_I h a 11) g9) r k = zv_I g9 r k := fun r k c1 c2 c3 c4 => by
    unfold zt_vh
    rw [zy_In _ _ c1, zy_In _ _ c2, zy_In _ _ (fun q => c4 q.1), zy_In _ _ (fun q => c3 q.1)]
  have Vs : ∀ k, k ≠ 13 → zv_I (zt_vh a s (zv_I h a 11) g9) s k = zv_I g9 s k := fun k hk => V s k (fun q => hk q.2) (fun q => nx 17 (by decide) q.1.symm) (fun q => nx 18 (by decide) q.symm) (fun q => nx 19 (by decide) q.symm)
  refine zm_iN ⟨rfl, L9, x1, x2, fun r k c1 c2 c3 c4 c5 c6 => (V r k (fun q => c1 (q.1.trans hs.symm)) c4 c5 c6).trans (oI r k (fun q => c1 (q.trans hs.symm)) (fun q => c2 ⟨q.1.trans hp.symm, q.2⟩) c3), fun r k c1 => (oJ r k).trans (zt_op_oJ O r k (fun q => c1 (q.trans hs.symm))), fun r k c1 c2 => (oR r k c2).trans (zt_op_oR O r k (fun q => c1 (q.1.trans hs.symm))), ?_, ?_, ?_, ?_, ?_, ?_, ?_, ?_, ?_, ?_, ?_, ?_, ?_, ?_, ?_, ?_, fun k => ?_, fun k => ?_⟩
  all_goals try rw [hs]
  · rw [Vs 0 (by decide)]; exact enm
  · rw [Vs 3 (by decide), sI 3 (by decide)]; exact zt_op_s3 O
  · rw [Vs 6 (by decide), sI 6 (by decide)]; exact zt_op_s6 O
  · rw [Vs 7 (by decide)]; exact s7
  · rw [Vs 8 (by decide), sI 8 (by decide)]; exact zt_op_s8 O
  · rw [Vs 9 (by decide), sI 9 (by decide)]; exact zt_op_s9 O
  · rw [Vs 12 (by decide), sI 12 (by decide)]; exact zt_op_sc O
  · unfold zt_vh
    rw [zy_I, ecn]
  · rw [Vs 15 (by decide), sI 15 (by decide)]; exact zt_op_sf O
  · exact (oJ s 16).trans (zt_op_jg O)
  · exact (oJ s 17).trans (zt_op_jh O)
  · rw [hp]; exact (oR s 4 (fun q => na q.1.symm)).trans (zt_op_r4 O)
  · exact (oR s 5 (fun q => na q.1.symm)).trans (zt_op_r5 O)
  · exact rh
  · rw [V a 12 (fun q => na q.1) (fun q => absurd q.2 (by decide)) (by omega) (by omega)]; exact a12
  · unfold zt_vh
    rw [zy_In _ _ (fun q => nx 17 (by decide) q.1), zy_I, ecn]
  · unfold zt_vh
    rw [zy_In _ _ (fun q => nx 18 (by decide) q.1), zy_In _ _ (by omega), zy_In _ _ (by omega), ecn, enm]
    by_cases q : k = (zv_I h (a + 17) 4 % 40).toNat
    · rw [if_pos q, q, zy_I]
    · rw [if_neg q, zy_In _ _ (fun z => q z.2)]
      exact oI _ _ (nx 18 (by decide)) (fun z => pn 18 (by decide) (by decide) z.1) (by omega)
  · unfold zt_vh
    rw [zy_In _ _ (fun q => nx 19 (by decide) q.1), zy_In _ _ (by omega), ecn]
    by_cases q : k = (zv_I h (a + 17) 4 % 40).toNat
    · rw [if_pos q, q, zy_I]
    · rw [if_neg q, zy_In _ _ (fun z => q z.2), zy_In _ _ (by omega)]
      exact oI _ _ (nx 19 (by decide)) (fun z => pn 19 (by decide) (by decide) z.1) (by omega)
theorem zt_grow {d : Nat} {a : Nat} {c : Nat → Int} {h : zv_H} {x y z : Int} (gL : zt_L h) (U : zt_U a c h) (h0 : 0 ≤ zv_I h (a + 17) 4) {s : Int} (fr : zt_free c s) : zm_R (C0_grow (d + 2) a x y z h) (fun q => q.1 = zt_r a s ∧ zt_gw a h q.2 s.toNat x y z) := by
  have la := zt_U_la U
  have w := zt_U_W U
  obtain ⟨f1, f2, f3⟩ := fr
  have lp : zv_lay (zv_R h a 10) = (1, 5) := by
    rw [zt_U_he U]
    exact zt_r_l la w.2.1.1
  have np : zv_R h a 10 ≠ zc_stt a s.toNat := fun q => by
    rw [zt_U_he U, ← zt_r_p f1.1] at q
    have e := zt_r_inj la w.2.1.1 f1 q
    rw [← e] at f3
    exact f3 w.2.1.2
  refine zm_cN (P := fun v g => v = zt_r a s ∧ zt_gw a h g s.toNat x y z) (fun e => lC0_grow (zl_ob gL la) e) ?_
  have fin : zm_R (L0_grow_25 (d + 1) a x y z s h) (zm_N fun v g => v = zt_r a s ∧ zt_gw a h g s.toNat x y z) := by
    have := zt_grow25 (d := d) (x := x) (y := y) (z := z) (i := s.toNat) gL la (by omega) (zt_U_nr U _ (by omega)) lp np h0
    rw [show ((s.toNat : Nat) : Int) = s by omega] at this
    rw [zt_r_p f1.1]
    exact this
  have loop : ∀ (n i : Nat), (i : Int) + n = s → zm_R (L0_grow_3 (d + 1) a x y z i h) (zm_N fun v g => v = zt_r a s ∧ zt_gw a h g s.toNat x y z) := by
    intro n
    induction n with
    | zero =>
      intro i hi
      have ei : (i : Int) = s := by omega
      have at0 : C0_at (d + 1) a (i : Int) h = some (0, h) := by
        refine lC0_at (zl_ob gL la) ?_
        have ls := (zc_stl la (show i < 48 by omega)).1
        have l3 := zt_U_lv U i (by omega)
        have h01 := w.1.1 s f1.1 f1.2
        rw [qE0_at, if_neg (by omega), if_pos (by omega), zm_e (zl_gF gL la 1 4), zm_e (zl_aS gL la (by omega) (by omega)), show ((i : Int)).toNat = i by omega, if_neg (zc_nz ls), zm_e (zl_gI gL ls 3), l3, ei, if_pos (h01.resolve_right f3)]
      rw [qL0_grow_3, if_pos (by omega), zm_e at0]
      dsimp only
      rw [if_pos rfl, ei]
      exact fin
    | succ n ih =>
      intro i hi
      have ls := (zc_stl la (show i < 48 by omega)).1
      have at1 : C0_at (d + 1) a (i : Int) h = some (zc_stt a i, h) := by
        refine lC0_at (zl_ob gL la) ?_
        have l3 := zt_U_lv U i (by omega)
        rw [f2 (i : Int) (by omega) (by omega)] at l3
        rw [qE0_at, if_neg (by omega), if_pos (by omega), zm_e (zl_gF gL la 1 4), zm_e (zl_aS gL la (by omega) (by omega)), show ((i : Int)).toNat = i by omega, if_neg (zc_nz ls), zm_e (zl_gI gL ls 3), l3, if_neg (by decide)]
      rw [qL0_grow_3, if_pos (by omega), zm_e at1]
      dsimp only
      rw [if_neg (zc_nz ls), zm_w (by omega), show (i : Int) + 1 = ((i + 1 : Nat) : Int) by omega]
      exact ih (i + 1) (by omega)
  rw [qE0_grow]
  exact loop s.toNat 0 (by omega)
