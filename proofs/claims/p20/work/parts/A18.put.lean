/-! ===== the tie: the class's put ===== -/
theorem zt_sep {a i j x y : Nat} (h : i ≠ j) (hx : x ≤ 2) (hy : y ≤ 2) : zc_stt a i + x ≠ zc_stt a j + y := by
  unfold zc_stt
  split <;> split <;> omega
theorem zt_sepH {a i n x : Nat} (hn : n ≤ 27) (hx : x ≤ 2) (h1 : n ≠ 1) (h2 : n ≠ 2) (h3 : n ≠ 3) : a + n ≠ zc_stt a i + x := by
  unfold zc_stt
  split <;> omega
/-- what merging keeps for itself is as it was -/
def zt_oh (a : Nat) (g g' : zv_H) : Prop := ∀ n k : Nat, ((n = 0 ∧ k = 13) ∨ n = 6 ∨ n = 20 ∨ n = 21 ∨ (n = 17 ∧ k = 5)) → zv_I g' (a + n) k = zv_I g (a + n) k
/-- half a with one new State s: all but its letters -/
def zt_nn (a : Nat) (c : Nat → Int) (h : zv_H) (s : Int) (x : Int) (y : Int) (z : Int) (fi : Int) (g : zv_H) : Prop := (zt_L g) ∧ (zt_k a h g) ∧ (∀ i : Nat, i < 48 → zv_I g (zc_stt a i) 3 = if i = s.toNat then 1 else zv_I h (zc_stt a i) 3) ∧ (∀ t, zm_st c t → ∀ k, k ≠ 11 → zv_I g (zt_r a t) k = zv_I h (zt_r a t) k) ∧ (∀ t, zm_st c t → ∀ k, zv_I g (zt_r a t + 1) k = zv_I h (zt_r a t + 1) k) ∧ (∀ t, zm_st c t → ∀ k, zv_I g (zt_r a t + 2) k = zv_I h (zt_r a t + 2) k) ∧ (∀ t, zm_st c t → ∀ k, zv_J g (zt_r a t) k = zv_J h (zt_r a t) k) ∧ (∀ t, zm_st c t → ∀ k, zv_R g (zt_r a t) k = zv_R h (zt_r a t) k) ∧ (zv_I g (zt_r a s) 6 = x) ∧ (zv_I g (zt_r a s) 7 = c 1) ∧ (zv_I g (zt_r a s) 8 = y) ∧ (zv_I g (zt_r a s) 9 = z) ∧ (zv_I g (zt_r a s) 13 = zv_w (zv_I h (a + 17) 4 + 1)) ∧ (zv_R g (zt_r a s) 4 = zt_r a (c 0)) ∧ (zv_R g (zt_r a s) 5 = zt_r a fi) ∧ (zv_R g a 10 = zt_r a s) ∧ (zv_I g a 11 = c 1) ∧ (zv_I g a 12 = zv_w (zm_nst c + 1)) ∧ (zv_I g (a + 17) 4 = zv_w (zv_I h (a + 17) 4 + 1)) ∧ (∀ k, zv_I g (a + 18) k = if k = (zv_I h (a + 17) 4 % 40).toNat then s else zv_I h (a + 18) k) ∧ (∀ k, zv_I g (a + 19) k = if k = (zv_I h (a + 17) 4 % 40).toNat then c 1 else zv_I h (a + 19) k) ∧ (∀ r k, a + 22 ≤ r → r ≤ a + 24 → zv_I g r k = zv_I h r k) ∧ (∀ r k, a + 14 ≤ r → r ≤ a + 16 → zv_I g r k = zv_I h r k) ∧ (zt_oh a h g)
theorem zt_nn_L {a : Nat} {c : Nat → Int} {h : zv_H} {s : Int} {x : Int} {y : Int} {z : Int} {fi : Int} {g : zv_H} (t : zt_nn a c h s x y z fi g) : zt_L g := t.1
theorem zt_nn_k {a : Nat} {c : Nat → Int} {h : zv_H} {s : Int} {x : Int} {y : Int} {z : Int} {fi : Int} {g : zv_H} (t : zt_nn a c h s x y z fi g) : zt_k a h g := t.2.1
theorem zt_nn_lv {a : Nat} {c : Nat → Int} {h : zv_H} {s : Int} {x : Int} {y : Int} {z : Int} {fi : Int} {g : zv_H} (t : zt_nn a c h s x y z fi g) : ∀ i : Nat, i < 48 → zv_I g (zc_stt a i) 3 = if i = s.toNat then 1 else zv_I h (zc_stt a i) 3 := t.2.2.1
theorem zt_nn_oI {a : Nat} {c : Nat → Int} {h : zv_H} {s : Int} {x : Int} {y : Int} {z : Int} {fi : Int} {g : zv_H} (t : zt_nn a c h s x y z fi g) : ∀ t, zm_st c t → ∀ k, k ≠ 11 → zv_I g (zt_r a t) k = zv_I h (zt_r a t) k := t.2.2.2.1
theorem zt_nn_o1 {a : Nat} {c : Nat → Int} {h : zv_H} {s : Int} {x : Int} {y : Int} {z : Int} {fi : Int} {g : zv_H} (t : zt_nn a c h s x y z fi g) : ∀ t, zm_st c t → ∀ k, zv_I g (zt_r a t + 1) k = zv_I h (zt_r a t + 1) k := t.2.2.2.2.1
theorem zt_nn_o2 {a : Nat} {c : Nat → Int} {h : zv_H} {s : Int} {x : Int} {y : Int} {z : Int} {fi : Int} {g : zv_H} (t : zt_nn a c h s x y z fi g) : ∀ t, zm_st c t → ∀ k, zv_I g (zt_r a t + 2) k = zv_I h (zt_r a t + 2) k := t.2.2.2.2.2.1
theorem zt_nn_oJ {a : Nat} {c : Nat → Int} {h : zv_H} {s : Int} {x : Int} {y : Int} {z : Int} {fi : Int} {g : zv_H} (t : zt_nn a c h s x y z fi g) : ∀ t, zm_st c t → ∀ k, zv_J g (zt_r a t) k = zv_J h (zt_r a t) k := t.2.2.2.2.2.2.1
theorem zt_nn_oR {a : Nat} {c : Nat → Int} {h : zv_H} {s : Int} {x : Int} {y : Int} {z : Int} {fi : Int} {g : zv_H} (t : zt_nn a c h s x y z fi g) : ∀ t, zm_st c t → ∀ k, zv_R g (zt_r a t) k = zv_R h (zt_r a t) k := t.2.2.2.2.2.2.2.1
theorem zt_nn_s6 {a : Nat} {c : Nat → Int} {h : zv_H} {s : Int} {x : Int} {y : Int} {z : Int} {fi : Int} {g : zv_H} (t : zt_nn a c h s x y z fi g) : zv_I g (zt_r a s) 6 = x := t.2.2.2.2.2.2.2.2.1
theorem zt_nn_s7 {a : Nat} {c : Nat → Int} {h : zv_H} {s : Int} {x : Int} {y : Int} {z : Int} {fi : Int} {g : zv_H} (t : zt_nn a c h s x y z fi g) : zv_I g (zt_r a s) 7 = c 1 := t.2.2.2.2.2.2.2.2.2.1
theorem zt_nn_s8 {a : Nat} {c : Nat → Int} {h : zv_H} {s : Int} {x : Int} {y : Int} {z : Int} {fi : Int} {g : zv_H} (t : zt_nn a c h s x y z fi g) : zv_I g (zt_r a s) 8 = y := t.2.2.2.2.2.2.2.2.2.2.1
theorem zt_nn_s9 {a : Nat} {c : Nat → Int} {h : zv_H} {s : Int} {x : Int} {y : Int} {z : Int} {fi : Int} {g : zv_H} (t : zt_nn a c h s x y z fi g) : zv_I g (zt_r a s) 9 = z := t.2.2.2.2.2.2.2.2.2.2.2.1
theorem zt_nn_sd {a : Nat} {c : Nat → Int} {h : zv_H} {s : Int} {x : Int} {y : Int} {z : Int} {fi : Int} {g : zv_H} (t : zt_nn a c h s x y z fi g) : zv_I g (zt_r a s) 13 = zv_w (zv_I h (a + 17) 4 + 1) := t.2.2.2.2.2.2.2.2.2.2.2.2.1
theorem zt_nn_r4 {a : Nat} {c : Nat → Int} {h : zv_H} {s : Int} {x : Int} {y : Int} {z : Int} {fi : Int} {g : zv_H} (t : zt_nn a c h s x y z fi g) : zv_R g (zt_r a s) 4 = zt_r a (c 0) := t.2.2.2.2.2.2.2.2.2.2.2.2.2.1
theorem zt_nn_r5 {a : Nat} {c : Nat → Int} {h : zv_H} {s : Int} {x : Int} {y : Int} {z : Int} {fi : Int} {g : zv_H} (t : zt_nn a c h s x y z fi g) : zv_R g (zt_r a s) 5 = zt_r a fi := t.2.2.2.2.2.2.2.2.2.2.2.2.2.2.1
theorem zt_nn_he {a : Nat} {c : Nat → Int} {h : zv_H} {s : Int} {x : Int} {y : Int} {z : Int} {fi : Int} {g : zv_H} (t : zt_nn a c h s x y z fi g) : zv_R g a 10 = zt_r a s := t.2.2.2.2.2.2.2.2.2.2.2.2.2.2.2.1
theorem zt_nn_nw {a : Nat} {c : Nat → Int} {h : zv_H} {s : Int} {x : Int} {y : Int} {z : Int} {fi : Int} {g : zv_H} (t : zt_nn a c h s x y z fi g) : zv_I g a 11 = c 1 := t.2.2.2.2.2.2.2.2.2.2.2.2.2.2.2.2.1
theorem zt_nn_ct {a : Nat} {c : Nat → Int} {h : zv_H} {s : Int} {x : Int} {y : Int} {z : Int} {fi : Int} {g : zv_H} (t : zt_nn a c h s x y z fi g) : zv_I g a 12 = zv_w (zm_nst c + 1) := t.2.2.2.2.2.2.2.2.2.2.2.2.2.2.2.2.2.1
theorem zt_nn_v4 {a : Nat} {c : Nat → Int} {h : zv_H} {s : Int} {x : Int} {y : Int} {z : Int} {fi : Int} {g : zv_H} (t : zt_nn a c h s x y z fi g) : zv_I g (a + 17) 4 = zv_w (zv_I h (a + 17) 4 + 1) := t.2.2.2.2.2.2.2.2.2.2.2.2.2.2.2.2.2.2.1
theorem zt_nn_vs {a : Nat} {c : Nat → Int} {h : zv_H} {s : Int} {x : Int} {y : Int} {z : Int} {fi : Int} {g : zv_H} (t : zt_nn a c h s x y z fi g) : ∀ k, zv_I g (a + 18) k = if k = (zv_I h (a + 17) 4 % 40).toNat then s else zv_I h (a + 18) k := t.2.2.2.2.2.2.2.2.2.2.2.2.2.2.2.2.2.2.2.1
theorem zt_nn_vt {a : Nat} {c : Nat → Int} {h : zv_H} {s : Int} {x : Int} {y : Int} {z : Int} {fi : Int} {g : zv_H} (t : zt_nn a c h s x y z fi g) : ∀ k, zv_I g (a + 19) k = if k = (zv_I h (a + 17) 4 % 40).toNat then c 1 else zv_I h (a + 19) k := t.2.2.2.2.2.2.2.2.2.2.2.2.2.2.2.2.2.2.2.2.1
theorem zt_nn_jn {a : Nat} {c : Nat → Int} {h : zv_H} {s : Int} {x : Int} {y : Int} {z : Int} {fi : Int} {g : zv_H} (t : zt_nn a c h s x y z fi g) : ∀ r k, a + 22 ≤ r → r ≤ a + 24 → zv_I g r k = zv_I h r k := t.2.2.2.2.2.2.2.2.2.2.2.2.2.2.2.2.2.2.2.2.2.1
theorem zt_nn_nm {a : Nat} {c : Nat → Int} {h : zv_H} {s : Int} {x : Int} {y : Int} {z : Int} {fi : Int} {g : zv_H} (t : zt_nn a c h s x y z fi g) : ∀ r k, a + 14 ≤ r → r ≤ a + 16 → zv_I g r k = zv_I h r k := t.2.2.2.2.2.2.2.2.2.2.2.2.2.2.2.2.2.2.2.2.2.2.1
theorem zt_nn_oh {a : Nat} {c : Nat → Int} {h : zv_H} {s : Int} {x : Int} {y : Int} {z : Int} {fi : Int} {g : zv_H} (t : zt_nn a c h s x y z fi g) : zt_oh a h g := t.2.2.2.2.2.2.2.2.2.2.2.2.2.2.2.2.2.2.2.2.2.2.2
/-- behind which letter a put comes, and whose it is -/
def zt_an (E : List (Int × Int)) (pl : Nat) : Int := if pl = 0 then -1 else (match E[pl - 1]? with | none => -1 | some x => zt_id x)
def zt_ab (E : List (Int × Int)) (pl : Nat) : Int64 := if pl = 0 then Int64.ofNat 0 else (match E[pl - 1]? with | none => Int64.ofNat 0 | some x => zt_bo x.1)
/-- a put's own -/
def zt_pn (a : Nat) (c : Nat → Int) (h : zv_H) (s : Int) (E : List (Int × Int)) (pl : Nat) (m : Nat) (wd : Nat → Int) (g : zv_H) : Prop := (zv_I g (zt_r a s) 15 = zt_an E pl) ∧ (zv_J g (zt_r a s) 17 = zt_ab E pl) ∧ (zv_J g (zt_r a s) 16 = Int64.ofNat 0) ∧ (zv_I g (zt_r a s) 12 = ((E.take pl ++ zm_rs s m) ++ E.drop pl).length) ∧ (∀ (k : Nat) (x : Int × Int), ((E.take pl ++ zm_rs s m) ++ E.drop pl)[k]? = some x → zv_I g (zt_r a s + 2) k = zt_id x) ∧ (∀ k, zv_I g (a + 5) k = zt_gy (fun k => zv_I h (a + 5) k) s wd m k)
theorem zt_pn_an {a : Nat} {c : Nat → Int} {h : zv_H} {s : Int} {E : List (Int × Int)} {pl : Nat} {m : Nat} {wd : Nat → Int} {g : zv_H} (t : zt_pn a c h s E pl m wd g) : zv_I g (zt_r a s) 15 = zt_an E pl := t.1
theorem zt_pn_bs {a : Nat} {c : Nat → Int} {h : zv_H} {s : Int} {E : List (Int × Int)} {pl : Nat} {m : Nat} {wd : Nat → Int} {g : zv_H} (t : zt_pn a c h s E pl m wd g) : zv_J g (zt_r a s) 17 = zt_ab E pl := t.2.1
theorem zt_pn_nd {a : Nat} {c : Nat → Int} {h : zv_H} {s : Int} {E : List (Int × Int)} {pl : Nat} {m : Nat} {wd : Nat → Int} {g : zv_H} (t : zt_pn a c h s E pl m wd g) : zv_J g (zt_r a s) 16 = Int64.ofNat 0 := t.2.2.1
theorem zt_pn_ln {a : Nat} {c : Nat → Int} {h : zv_H} {s : Int} {E : List (Int × Int)} {pl : Nat} {m : Nat} {wd : Nat → Int} {g : zv_H} (t : zt_pn a c h s E pl m wd g) : zv_I g (zt_r a s) 12 = ((E.take pl ++ zm_rs s m) ++ E.drop pl).length := t.2.2.2.1
theorem zt_pn_dc {a : Nat} {c : Nat → Int} {h : zv_H} {s : Int} {E : List (Int × Int)} {pl : Nat} {m : Nat} {wd : Nat → Int} {g : zv_H} (t : zt_pn a c h s E pl m wd g) : ∀ (k : Nat) (x : Int × Int), ((E.take pl ++ zm_rs s m) ++ E.drop pl)[k]? = some x → zv_I g (zt_r a s + 2) k = zt_id x := t.2.2.2.2.1
theorem zt_pn_gl {a : Nat} {c : Nat → Int} {h : zv_H} {s : Int} {E : List (Int × Int)} {pl : Nat} {m : Nat} {wd : Nat → Int} {g : zv_H} (t : zt_pn a c h s E pl m wd g) : ∀ k, zv_I g (a + 5) k = zt_gy (fun k => zv_I h (a + 5) k) s wd m k := t.2.2.2.2.2
/-- nothing but half a's States, and what lies behind -/
theorem zt_nn_of {a : Nat} {c : Nat → Int} {h g0 g1 g : zv_H} {i : Nat} {s x y z : Int} {D : List (Int × Int)} {G : Nat → Int} (U : zt_U a c h) (fr : zt_free c s) (hi : i = s.toNat) (W : zt_gw a h g0 i x y z) {v15 : Int} {v17 : Int64} (A : zt_ad a (zv_sJ (zv_sI g0 (zc_stt a i) 15 v15) (zc_stt a i) 17 v17) (zc_stt a i) D G g1) (o : zt_o [a + 25] g1 g) : zt_nn a c h s x y z s g := by
  have la := zt_U_la U
  have h9 := zc_lh la
  have w := zt_U_W U
  have i48 : i < 48 := by have := fr.1; omega
  have ers : zt_r a s = zc_stt a i := by rw [zt_r_p fr.1.1, hi]
  have lS := (zc_stl la i48).1
  have l5 := zc_l5 lS
  have lP : zv_lay (zv_R h a 10) = (1, 5) := by
    rw [zt_U_he U]
    exact zt_r_l la w.2.1.1
  have hn : ∀ n, n ≠ 1 → n ≤ 27 → a + n ≠ zc_stt a i := fun n h1 h2 => zt_stt_ne la i48 ⟨h1, h2⟩
  have hp : ∀ n, n ≠ 1 → n ≤ 27 → a + n ≠ zv_R h a 10 := fun n h1 h2 q => zt_hn la ⟨h1, h2⟩ (by rw [q]; exact lP)
  -- all ints
  have I : ∀ r k, ¬ (r = zc_stt a i ∧ (k = 12 ∨ k = 15)) → r ≠ zc_stt a i + 2 → r ≠ a + 5 → r ≠ a + 25 → zv_I g r k = zv_I g0 r k := fun r k c1 c2 c3 c4 => by
    rw [zt_o_i o (zt_c1 c4), zt_ad_i A r k (fun q => c1 ⟨q.1, Or.inl q.2⟩) c2 c3]
    exact zy_In _ _ (fun q => c1 ⟨q.1, Or.inr q.2⟩)
  have f2 : g.2.2 = (zv_sJ (zv_sI g0 (zc_stt a i) 15 v15) (zc_stt a i) 17 v17).2.2 := o.2.1.trans (zt_ad_f2 A)
  have Jx : ∀ r k, ¬ (r = zc_stt a i ∧ k = 17) → zv_J g r k = zv_J g0 r k := fun r k c1 => by
    show g.2.2.1 r k = _
    rw [f2]
    exact zy_Jn _ _ c1
  have Rx : ∀ r k, zv_R g r k = zv_R g0 r k := fun r k => by
    show g.2.2.2.1 r k = _
    rw [f2]
    rfl
  have L00 := zt_gw_L W
  have L0 : zt_L (zv_sJ (zv_sI g0 (zc_stt a i) 15 v15) (zc_stt a i) 17 v17) := L00
  have Lg : zt_L g := zt_o_L o (zt_ad_L A L0)
  -- cells of an old State
  have ol : ∀ t, zm_st c t → zt_r a t ≠ zc_stt a i ∧ zv_lay (zt_r a t) = (1, 5) := fun t ht => ⟨fun q => by
    rw [← ers] at q
    have e := zt_r_inj la ht.1 fr.1 q
    exact fr.2.2 (by rw [← e]; exact ht.2), zt_r_l la ht.1⟩
  have ne : ∀ {r r' : Nat} {p p' : Nat × Nat}, zv_lay r = p → zv_lay r' = p' → p ≠ p' → r ≠ r' := fun e1 e2 hne q => hne (by rw [← e1, ← e2, q])
  have l5a : zv_lay (a + 5) = (2, 604) := by rcases h9 with e | e <;> rw [e] <;> rfl
  have l25 : zv_lay (a + 25) = (2, 6) := (zt_jn_l la).2.2.2
  have l18 := (zt_vis_l la).2.1
  have l19 := (zt_vis_l la).2.2.1
  have l17 := (zt_vis_l la).1
  have Sg : ∀ k, k ≠ 12 → k ≠ 15 → zv_I g (zc_stt a i) k = zv_I g0 (zc_stt a i) k := fun k k1 k2 => I _ k (fun q => by rcases q.2 with e | e; exact k1 e; exact k2 e) (by omega) (ne lS l5a (by decide)) (ne lS l25 (by decide))
  have inA : ∀ n, n ≤ 27 → zt_in a (a + n) := fun n hn => ⟨by omega, by omega, by unfold zc_hf; split <;> omega⟩
  have inS : ∀ j n, j < 48 → n ≤ 2 → zt_in a (zc_stt a j + n) := fun j n hj hn => by
    refine ⟨?_, ?_, ?_⟩
    · unfold zc_stt; split <;> omega
    · unfold zc_stt; split <;> omega
    · unfold zc_hf zc_stt
      split <;> split <;> omega
  have out : ∀ {r r' : Nat}, ¬ zt_in a r → zt_in a r' → r ≠ r' := fun h1 h2 e => h1 (by rw [e]; exact h2)
  have eP : zv_R h a 10 = zc_stt a (c 0).toNat := by rw [zt_U_he U, zt_r_p w.2.1.1.1]
  have c047 := w.2.1.1
  have inP : zt_in a (zv_R h a 10) := by
    rw [eP]
    exact inS _ 0 (by omega) (by decide)
  have nx5 : ∀ t, zm_st c t → ∀ n, n ≤ 27 → n ≠ 1 → zt_r a t ≠ a + n := fun t ht n hn h1 q => zt_hn la ⟨h1, hn⟩ (by rw [← q]; exact (ol t ht).2)
  refine ⟨Lg, ⟨?_, ?_, fun r k _ hr => ?_, fun r _ hr => ?_, fun r _ _ hr => ?_⟩, fun j hj => ?_, fun t ht k hk => ?_, fun t ht k => ?_, fun t ht k => ?_, fun t ht k => ?_, fun t ht k => ?_, ?_, ?_, ?_, ?_, ?_, ?_, ?_, ?_, ?_, ?_, ?_, fun k => ?_, fun k => ?_, fun r k r1 r2 => ?_, fun r k r1 r2 => ?_, fun n k hc => ?_⟩
  · have a1 := zt_ad_f1 A
    have a2 := zt_gw_f1 W
    exact (o.1.trans a1).trans a2
  · have : g.2.2.2.2 = g0.2.2.2.2 := by rw [f2]; rfl
    exact this.trans (zt_gw_f2 W)
  · rw [I r k (fun q => out hr (inS i 0 i48 (by decide)) q.1) (out hr (inS i 2 i48 (by decide))) (out hr (inA 5 (by decide))) (out hr (inA 25 (by decide)))]
    exact zt_gw_oI W r k (out hr (inS i 0 i48 (by decide))) (fun q => out hr inP q.1) (fun q => out hr (inA 0 (by decide)) q.1) (fun q => out hr (inA 17 (by decide)) q.1) (out hr (inA 18 (by decide))) (out hr (inA 19 (by decide)))
  · funext k
    exact (Jx r k (fun q => out hr (inS i 0 i48 (by decide)) q.1)).trans (zt_gw_oJ W r k (out hr (inS i 0 i48 (by decide))))
  · funext k
    exact (Rx r k).trans (zt_gw_oR W r k (out hr (inS i 0 i48 (by decide))) (fun q => out hr (inA 0 (by decide)) q.1))
  · have lj := (zc_stl la hj).1
    rw [I _ 3 (fun q => by omega) (ne lj l5.2 (by decide)) (ne lj l5a (by decide)) (ne lj l25 (by decide)), ← hi]
    by_cases e : j = i
    · rw [if_pos e, e]
      exact zt_gw_s3 W
    · rw [if_neg e]
      exact zt_gw_oI W _ 3 (fun q => e (zc_stinj la q)) (fun q => absurd q.2 (by decide)) (fun q => absurd q.2 (by decide)) (fun q => absurd q.2 (by decide)) (ne lj l18 (by decide)) (ne lj l19 (by decide))
  · obtain ⟨n1, n2⟩ := ol t ht
    rw [I _ k (fun q => n1 q.1) (ne n2 l5.2 (by decide)) (ne n2 l5a (by decide)) (ne n2 l25 (by decide))]
    exact zt_gw_oI W _ k n1 (fun q => hk q.2) (fun q => nx5 t ht 0 (by decide) (by decide) q.1) (fun q => nx5 t ht 17 (by decide) (by decide) q.1) (ne n2 l18 (by decide)) (ne n2 l19 (by decide))
  · obtain ⟨n1, n2⟩ := ol t ht
    have l1 := (zc_l5 n2).1
    rw [I _ k (fun q => ne l1 lS (by decide) q.1) (ne l1 l5.2 (by decide)) (ne l1 l5a (by decide)) (ne l1 l25 (by decide))]
    exact zt_gw_oI W _ k (ne l1 lS (by decide)) (fun q => ne l1 lP (by decide) q.1) (fun q => ne l1 la (by decide) q.1) (fun q => ne l1 l17 (by decide) q.1) (ne l1 l18 (by decide)) (ne l1 l19 (by decide))
  · obtain ⟨n1, n2⟩ := ol t ht
    have l2 := (zc_l5 n2).2
    rw [I _ k (fun q => ne l2 lS (by decide) q.1) (fun q => n1 (by omega)) (ne l2 l5a (by decide)) (ne l2 l25 (by decide))]
    exact zt_gw_oI W _ k (ne l2 lS (by decide)) (fun q => ne l2 lP (by decide) q.1) (fun q => ne l2 la (by decide) q.1) (fun q => ne l2 l17 (by decide) q.1) (ne l2 l18 (by decide)) (ne l2 l19 (by decide))
  · obtain ⟨n1, n2⟩ := ol t ht
    exact (Jx _ k (fun q => n1 q.1)).trans (zt_gw_oJ W _ k n1)
  · obtain ⟨n1, n2⟩ := ol t ht
    exact (Rx _ k).trans (zt_gw_oR W _ k n1 (fun q => nx5 t ht 0 (by decide) (by decide) q.1))
  · rw [ers, Sg 6 (by decide) (by decide)]; exact zt_gw_s6 W
  · rw [ers, Sg 7 (by decide) (by decide)]; exact (zt_gw_s7 W).trans (zt_U_nw U)
  · rw [ers, Sg 8 (by decide) (by decide)]; exact zt_gw_s8 W
  · rw [ers, Sg 9 (by decide) (by decide)]; exact zt_gw_s9 W
  · rw [ers, Sg 13 (by decide) (by decide)]; exact zt_gw_sd W
  · rw [ers, Rx]; exact (zt_gw_r4 W).trans (zt_U_he U)
  · rw [ers, Rx]; exact zt_gw_r5 W
  · rw [ers, Rx]; exact zt_gw_he W
  · rw [I a 11 (fun q => ne la lS (by decide) q.1) (ne la l5.2 (by decide)) (by omega) (by omega)]
    exact (zt_gw_oI W a 11 (hn 0 (by decide) (by decide)) (fun q => hp 0 (by decide) (by decide) q.1) (fun q => absurd q.2 (by decide)) (by omega) (by omega) (by omega)).trans (zt_U_nw U)
  · rw [I a 12 (fun q => ne la lS (by decide) q.1) (ne la l5.2 (by decide)) (by omega) (by omega)]
    exact (zt_gw_ct W).trans (by rw [zt_U_ct U])
  · rw [I (a + 17) 4 (fun q => ne l17 lS (by decide) q.1) (ne l17 l5.2 (by decide)) (by omega) (by omega)]
    exact zt_gw_v4 W
  · rw [I (a + 18) k (fun q => ne l18 lS (by decide) q.1) (ne l18 l5.2 (by decide)) (by omega) (by omega), zt_gw_vs W, hi, show ((s.toNat : Nat) : Int) = s by have := fr.1; omega]
  · rw [I (a + 19) k (fun q => ne l19 lS (by decide) q.1) (ne l19 l5.2 (by decide)) (by omega) (by omega), zt_gw_vt W, zt_U_nw U]
  · obtain ⟨n, rfl⟩ : ∃ n, r = a + n := ⟨r - a, by omega⟩
    rw [I _ k (fun q => hn n (by omega) (by omega) q.1) (fun q => by
      have e2 := l5.2
      rw [← q] at e2
      rcases h9 with z | z <;> subst z <;> have : n = 22 ∨ n = 23 ∨ n = 24 := by omega
      all_goals rcases this with u | u | u <;> subst u <;> exact absurd e2 (by decide)) (by omega) (by omega)]
    exact zt_gw_oI W _ k (hn n (by omega) (by omega)) (fun q => hp n (by omega) (by omega) q.1) (by omega) (by omega) (by omega) (by omega)
  · obtain ⟨n, rfl⟩ : ∃ n, r = a + n := ⟨r - a, by omega⟩
    rw [I _ k (fun q => hn n (by omega) (by omega) q.1) (fun q => by
      have e2 := l5.2
      rw [← q] at e2
      rcases h9 with z | z <;> subst z <;> have : n = 14 ∨ n = 15 ∨ n = 16 := by omega
      all_goals rcases this with u | u | u <;> subst u <;> exact absurd e2 (by decide)) (by omega) (by omega)]
    exact zt_gw_oI W _ k (hn n (by omega) (by omega)) (fun q => hp n (by omega) (by omega) q.1) (by omega) (by omega) (by omega) (by omega)
  · rw [I _ k (fun q => zt_sepH (x := 0) (by omega) (by decide) (by omega) (by omega) (by omega) q.1) (zt_sepH (by omega) (by decide) (by omega) (by omega) (by omega)) (by omega) (by omega)]
    exact zt_gw_oI W _ k (hn n (by omega) (by omega)) (fun q => hp n (by omega) (by omega) q.1) (by omega) (by omega) (by omega) (by omega)
