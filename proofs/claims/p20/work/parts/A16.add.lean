/-! ===== the tie: letters go into a document ===== -/
def zt_wd (r : Nat) (m : Nat) (wd : Nat → Int) (g : zv_H) : Prop := (zv_lay r = (1, 7)) ∧ (zv_lay (r + 1) = (2, 40)) ∧ (m ≤ 40) ∧ (zv_I g r 1 = m) ∧ (∀ k : Nat, k < m → zv_I g (r + 1) k = wd k)
theorem zt_wd_l7 {r : Nat} {m : Nat} {wd : Nat → Int} {g : zv_H} (t : zt_wd r m wd g) : zv_lay r = (1, 7) := t.1
theorem zt_wd_la {r : Nat} {m : Nat} {wd : Nat → Int} {g : zv_H} (t : zt_wd r m wd g) : zv_lay (r + 1) = (2, 40) := t.2.1
theorem zt_wd_m12 {r : Nat} {m : Nat} {wd : Nat → Int} {g : zv_H} (t : zt_wd r m wd g) : m ≤ 40 := t.2.2.1
theorem zt_wd_sz {r : Nat} {m : Nat} {wd : Nat → Int} {g : zv_H} (t : zt_wd r m wd g) : zv_I g r 1 = m := t.2.2.2.1
theorem zt_wd_lt {r : Nat} {m : Nat} {wd : Nat → Int} {g : zv_H} (t : zt_wd r m wd g) : ∀ k : Nat, k < m → zv_I g (r + 1) k = wd k := t.2.2.2.2
theorem zt_C7_at {d : Nat} {r m : Nat} {wd : Nat → Int} {g : zv_H} (gL : zt_L g) (w : zt_wd r m wd g) {k : Nat} (hk : k < m) : C7_at (d + 1) r (k : Int) g = some (wd k, g) := by
  have l7 := zt_wd_l7 w
  have la := zt_wd_la w
  have m12 := zt_wd_m12 w
  refine lC7_at (zl_ob gL l7) ?_
  rw [qE7_at, if_neg (by omega), zm_e (zl_gI gL l7 1), zt_wd_sz w, if_pos (by omega), zm_e (zl_gF gL l7 0 1), zm_e (zl_al gL la), if_pos (by omega), zm_e (zl_gF gL l7 0 1), zm_e (zl_aI gL la (by omega) (by omega)), show ((k : Int)).toNat = k by omega, zt_wd_lt w k hk]
theorem zt_C5_addId {d : Nat} {g : zv_H} {S : Nat} (gL : zt_L g) (lS : zv_lay S = (1, 5)) {n : Nat} (hn : zv_I g S 12 = n) (h120 : n < 120) (v : Int) : C5_addId (d + 1) S v g = some (zv_sI (zv_sI g (S + 2) n v) S 12 ((n : Int) + 1)) := by
  have l2 := (zc_l5 lS).2
  have ne : S ≠ S + 2 := by omega
  refine lC5_addId (zl_ob gL lS) ?_
  rw [qE5_addId, zm_e (zl_gI gL lS 12), hn, if_neg (by omega), zm_e (zl_gI gL lS 12), hn, zm_e (zl_gF gL lS 2 2), zm_e (zl_al gL l2), if_pos (by omega), zm_e (zl_gF gL lS 2 2), zm_e (zl_gI gL lS 12), hn, zm_e (zl_wI gL l2 (by omega) (by omega) _), show ((n : Int)).toNat = n by omega, zm_e (zl_gI (g := zv_sI g (S + 2) n v) gL lS 12), zy_In _ _ (fun q => ne q.1), hn, zm_w (by omega), zm_e (zl_pI (g := zv_sI g (S + 2) n v) gL lS 12 _)]
theorem zt_C0_setGlyph {d : Nat} {a : Nat} {g : zv_H} (gL : zt_L g) (ha : zv_lay a = (1, 0)) {i : Int} (hi : 0 ≤ i ∧ i < 604) (v : Int) : C0_setGlyph (d + 1) a i v g = some (zv_sI g (a + 5) i.toNat v) := by
  have l5 : zv_lay (a + 5) = (2, 604) := by cases zc_lh ha with
    | inl e => rw [e]; rfl
    | inr e => rw [e]; rfl
  refine lC0_setGlyph (zl_ob gL ha) ?_
  rw [qE0_setGlyph, if_neg (by omega), if_pos hi.2, zm_e (zl_gF gL ha 2 5), zm_e (zl_wI gL l5 hi.1 (by omega) _)]
/-- who put a letter in, as a bit -/
def zt_bo (p : Int) : Int64 := if p = 0 then Int64.ofNat 0 else zt_bt p.toNat
theorem zt_C0_baseOf {d : Nat} {g : zv_H} {p : Int × Int} (hp : zt_ok p) : C0_baseOf (d + 2) (zt_id p) g = some (zt_bo p.1, g) := by
  refine lC0_baseOf ?_
  have := zt_id_r hp
  rw [qE0_baseOf, if_neg (by omega), zm_e (zt_C4_putter hp)]
  dsimp only
  unfold zt_bo
  by_cases c : p.1 = 0
  · rw [if_pos c, if_pos c]
  · have p0 : 0 ≤ p.1 := by rcases hp with q | q <;> omega
    rw [if_neg c, zm_e (zt_C4_putter hp), if_neg c]
    dsimp only
    unfold zt_bt
    rw [show ((p.1.toNat : Nat) : Int) = p.1 by omega]
theorem zt_C0_baseOf1 {d : Nat} {g : zv_H} : C0_baseOf (d + 2) (-1) g = some (Int64.ofNat 0, g) := by
  refine lC0_baseOf ?_
  rw [qE0_baseOf, if_pos rfl]
/-- while letters come: D so far, glyphs G -/
def zt_ad (a : Nat) (g0 : zv_H) (S : Nat) (D : List (Int × Int)) (G : Nat → Int) (g : zv_H) : Prop := (g.1 = g0.1) ∧ (g.2.2 = g0.2.2) ∧ (∀ r k, ¬ (r = S ∧ k = 12) → r ≠ S + 2 → r ≠ a + 5 → zv_I g r k = zv_I g0 r k) ∧ (zv_I g S 12 = D.length) ∧ (∀ (k : Nat) (x : Int × Int), D[k]? = some x → zv_I g (S + 2) k = zt_id x) ∧ (∀ k, zv_I g (a + 5) k = G k)
theorem zt_ad_f1 {a : Nat} {g0 : zv_H} {S : Nat} {D : List (Int × Int)} {G : Nat → Int} {g : zv_H} (t : zt_ad a g0 S D G g) : g.1 = g0.1 := t.1
theorem zt_ad_f2 {a : Nat} {g0 : zv_H} {S : Nat} {D : List (Int × Int)} {G : Nat → Int} {g : zv_H} (t : zt_ad a g0 S D G g) : g.2.2 = g0.2.2 := t.2.1
theorem zt_ad_i {a : Nat} {g0 : zv_H} {S : Nat} {D : List (Int × Int)} {G : Nat → Int} {g : zv_H} (t : zt_ad a g0 S D G g) : ∀ r k, ¬ (r = S ∧ k = 12) → r ≠ S + 2 → r ≠ a + 5 → zv_I g r k = zv_I g0 r k := t.2.2.1
theorem zt_ad_n {a : Nat} {g0 : zv_H} {S : Nat} {D : List (Int × Int)} {G : Nat → Int} {g : zv_H} (t : zt_ad a g0 S D G g) : zv_I g S 12 = D.length := t.2.2.2.1
theorem zt_ad_d {a : Nat} {g0 : zv_H} {S : Nat} {D : List (Int × Int)} {G : Nat → Int} {g : zv_H} (t : zt_ad a g0 S D G g) : ∀ (k : Nat) (x : Int × Int), D[k]? = some x → zv_I g (S + 2) k = zt_id x := t.2.2.2.2.1
theorem zt_ad_g {a : Nat} {g0 : zv_H} {S : Nat} {D : List (Int × Int)} {G : Nat → Int} {g : zv_H} (t : zt_ad a g0 S D G g) : ∀ k, zv_I g (a + 5) k = G k := t.2.2.2.2.2
theorem zt_ad_L {a : Nat} {g0 : zv_H} {S : Nat} {D : List (Int × Int)} {G : Nat → Int} {g : zv_H} (A : zt_ad a g0 S D G g) (gL : zt_L g0) : zt_L g := by
  have f2 := zt_ad_f2 A
  refine ⟨?_, fun r k x y => ?_, fun b i x y => ?_⟩
  · show g.1.1 = 372
    rw [zt_ad_f1 A]; exact gL.1
  · show g.2.2.2.1 r k = _
    rw [f2]; exact gL.2.1 r k x y
  · show g.2.2.2.1 (b + 4) i = _
    rw [f2]; exact gL.2.2 b i x y
theorem zt_ad_a {a : Nat} {g0 : zv_H} {S : Nat} {D : List (Int × Int)} {G : Nat → Int} {g : zv_H} (A : zt_ad a g0 S D G g) (n5 : S + 2 ≠ a + 5) (n6 : S ≠ a + 5) (p : Int × Int) : zt_ad a g0 S (D ++ [p]) G (zv_sI (zv_sI g (S + 2) D.length (zt_id p)) S 12 ((D.length : Int) + 1)) := by
  have f1 := zt_ad_f1 A
  have f2 := zt_ad_f2 A
  refine ⟨f1, f2, fun r k c1 c2 c3 => ?_, ?_, fun k x hx => ?_, fun k => ?_⟩
  · rw [zy_In _ _ c1, zy_In _ _ (fun q => c2 q.1)]
    exact zt_ad_i A r k c1 c2 c3
  · rw [zy_I, List.length_append]
    rfl
  · rw [zy_In _ _ (by omega)]
    by_cases ck : k < D.length
    · rw [List.getElem?_append_left ck] at hx
      rw [zy_In _ _ (by omega)]
      exact zt_ad_d A k x hx
    · rw [List.getElem?_append_right (by omega)] at hx
      have h9 : k - D.length < 1 := zm_lt_of_get hx
      have hk : k = D.length := by omega
      rw [hk, Nat.sub_self] at hx
      rw [hk, zy_I, ← Option.some.inj hx]
  · rw [zy_In _ _ (fun q => n6 q.1.symm), zy_In _ _ (fun q => n5 q.1.symm)]
    exact zt_ad_g A k
/-- the document that is copied -/
def zt_src (P : Nat) (E : List (Int × Int)) (g : zv_H) : Prop := (zv_lay P = (1, 5)) ∧ (zv_I g P 12 = E.length) ∧ (E.length ≤ 120) ∧ (∀ (k : Nat) (x : Int × Int), E[k]? = some x → zv_I g (P + 2) k = zt_id x)
theorem zt_src_lP {P : Nat} {E : List (Int × Int)} {g : zv_H} (t : zt_src P E g) : zv_lay P = (1, 5) := t.1
theorem zt_src_n {P : Nat} {E : List (Int × Int)} {g : zv_H} (t : zt_src P E g) : zv_I g P 12 = E.length := t.2.1
theorem zt_src_n120 {P : Nat} {E : List (Int × Int)} {g : zv_H} (t : zt_src P E g) : E.length ≤ 120 := t.2.2.1
theorem zt_src_d {P : Nat} {E : List (Int × Int)} {g : zv_H} (t : zt_src P E g) : ∀ (k : Nat) (x : Int × Int), E[k]? = some x → zv_I g (P + 2) k = zt_id x := t.2.2.2
theorem zt_src_at {d : Nat} {P : Nat} {E : List (Int × Int)} {g : zv_H} (gL : zt_L g) (s : zt_src P E g) {k : Nat} {x : Int × Int} (hx : E[k]? = some x) : C5_idAt (d + 1) P (k : Int) g = some (zt_id x, g) := by
  have hk := zm_lt_of_get hx
  have n := zt_src_n s
  have n120 := zt_src_n120 s
  rw [zt_C5_idAt gL (zt_src_lP s) (by omega), n, if_pos (by omega), show ((k : Int)).toNat = k by omega, zt_src_d s k x hx]
theorem zt_src_ad {a : Nat} {g0 : zv_H} {S : Nat} {D : List (Int × Int)} {G : Nat → Int} {g : zv_H} (A : zt_ad a g0 S D G g) {P : Nat} {E : List (Int × Int)} (s : zt_src P E g0) (nP : P ≠ S) (n5 : P ≠ a + 5) (n2 : P + 2 ≠ S) (n3 : P + 2 ≠ a + 5) (n4 : P ≠ S + 2) : zt_src P E g := by
  refine ⟨zt_src_lP s, ?_, zt_src_n120 s, fun k x hx => ?_⟩
  · rw [zt_ad_i A P 12 (fun q => nP q.1) n4 n5]; exact zt_src_n s
  · rw [zt_ad_i A (P + 2) k (fun q => n2 q.1) (by omega) n3]; exact zt_src_d s k x hx
