/-! ===== the tie: the three ways through a put's letters ===== -/
theorem zt_take_s {α : Type} {E : List α} {i : Nat} {x : α} (hx : E[i]? = some x) : E.take (i + 1) = E.take i ++ [x] := by
  rw [List.take_add_one, hx]
  rfl
/-- where the cells lie apart -/
def zt_ap (a : Nat) (S : Nat) (P : Nat) : Prop := (zv_lay a = (1, 0)) ∧ (zv_lay S = (1, 5)) ∧ (S + 2 ≠ a + 5) ∧ (S ≠ a + 5) ∧ (P ≠ S) ∧ (P ≠ a + 5) ∧ (P + 2 ≠ S) ∧ (P + 2 ≠ a + 5) ∧ (P ≠ S + 2)
theorem zt_ap_la {a : Nat} {S : Nat} {P : Nat} (t : zt_ap a S P) : zv_lay a = (1, 0) := t.1
theorem zt_ap_lS {a : Nat} {S : Nat} {P : Nat} (t : zt_ap a S P) : zv_lay S = (1, 5) := t.2.1
theorem zt_ap_n5 {a : Nat} {S : Nat} {P : Nat} (t : zt_ap a S P) : S + 2 ≠ a + 5 := t.2.2.1
theorem zt_ap_n6 {a : Nat} {S : Nat} {P : Nat} (t : zt_ap a S P) : S ≠ a + 5 := t.2.2.2.1
theorem zt_ap_pS {a : Nat} {S : Nat} {P : Nat} (t : zt_ap a S P) : P ≠ S := t.2.2.2.2.1
theorem zt_ap_p5 {a : Nat} {S : Nat} {P : Nat} (t : zt_ap a S P) : P ≠ a + 5 := t.2.2.2.2.2.1
theorem zt_ap_p2 {a : Nat} {S : Nat} {P : Nat} (t : zt_ap a S P) : P + 2 ≠ S := t.2.2.2.2.2.2.1
theorem zt_ap_p3 {a : Nat} {S : Nat} {P : Nat} (t : zt_ap a S P) : P + 2 ≠ a + 5 := t.2.2.2.2.2.2.2.1
theorem zt_ap_p4 {a : Nat} {S : Nat} {P : Nat} (t : zt_ap a S P) : P ≠ S + 2 := t.2.2.2.2.2.2.2.2
theorem zt_ap_src {a : Nat} {g0 : zv_H} {S : Nat} {D : List (Int × Int)} {G : Nat → Int} {g : zv_H} {P : Nat} {E : List (Int × Int)} (ap : zt_ap a S P) (s : zt_src P E g0) (A : zt_ad a g0 S D G g) : zt_src P E g := zt_src_ad A s (zt_ap_pS ap) (zt_ap_p5 ap) (zt_ap_p2 ap) (zt_ap_p3 ap) (zt_ap_p4 ap)
theorem zt_put109 {d : Nat} {a : Nat} {g0 : zv_H} {S P r : Nat} {E : List (Int × Int)} {G : Nat → Int} {pl : Nat} (gL : zt_L g0) (ap : zt_ap a S P) (s : zt_src P E g0) (hpl : pl ≤ E.length) (h1 : E.length < 120 ∨ pl < 120) {X : Option zv_V × zv_H → Prop} (fin : ∀ g, zt_ad a g0 S (E.take pl) G g → zm_R (L0_putWord_135 (d + 1) a (pl : Int) r P S 0 g) X) : ∀ (n i : Nat) (g : zv_H), i + n = pl → zt_ad a g0 S (E.take i) G g → zm_R (L0_putWord_109 (d + 1) a (pl : Int) r P S (i : Int) g) X := by
  intro n
  induction n with
  | zero =>
    intro i g hi A
    have e : i = pl := by omega
    subst e
    rw [qL0_putWord_109, if_neg (by omega)]
    exact fin g A
  | succ n ih =>
    intro i g hi A
    have L1 := zt_ad_L A gL
    obtain ⟨x, hx⟩ : ∃ x, E[i]? = some x := ⟨_, List.getElem?_eq_getElem (by omega)⟩
    have el : (E.take i).length = i := by rw [List.length_take]; omega
    have n120 := zt_src_n120 s
    rw [qL0_putWord_109, if_pos (by omega), zm_e (zt_src_at L1 (zt_ap_src ap s A) hx)]
    dsimp only
    rw [zm_e (zt_C5_addId L1 (zt_ap_lS ap) (zt_ad_n A) (by omega) _), zm_w (by omega), show (i : Int) + 1 = ((i + 1 : Nat) : Int) by omega]
    refine ih (i + 1) _ (by omega) ?_
    rw [zt_take_s hx]
    exact zt_ad_a A (zt_ap_n5 ap) (zt_ap_n6 ap) x
/-- the glyphs of a word's letters -/
def zt_gy (G : Nat → Int) (s : Int) (wd : Nat → Int) : Nat → Nat → Int
  | 0 => G
  | k + 1 => zm_u (zt_gy G s wd k) (zt_id (s, (k : Int))).toNat (wd k)
theorem zt_ad_G {a : Nat} {g0 : zv_H} {S : Nat} {D : List (Int × Int)} {G : Nat → Int} {g : zv_H} (A : zt_ad a g0 S D G g) (n5 : S + 2 ≠ a + 5) (n6 : S ≠ a + 5) (i : Nat) (v : Int) : zt_ad a g0 S D (zm_u G i v) (zv_sI g (a + 5) i v) := by
  have f1 := zt_ad_f1 A
  have f2 := zt_ad_f2 A
  refine ⟨f1, f2, fun r k c1 c2 c3 => ?_, ?_, fun k x hx => ?_, fun k => ?_⟩
  · rw [zy_In _ _ (fun q => c3 q.1)]
    exact zt_ad_i A r k c1 c2 c3
  · rw [zy_In _ _ (fun q => n6 q.1)]
    exact zt_ad_n A
  · rw [zy_In _ _ (fun q => n5 q.1)]
    exact zt_ad_d A k x hx
  · unfold zm_u
    by_cases e : k = i
    · rw [if_pos e, e, zy_I]
    · rw [if_neg e, zy_In _ _ (fun q => e q.2)]
      exact zt_ad_g A k
theorem zt_put135 {d : Nat} {a : Nat} {g0 : zv_H} {S P r : Nat} {s : Int} {D : List (Int × Int)} {G : Nat → Int} {m : Nat} {wd : Nat → Int} (pl : Int) (gL : zt_L g0) (ap : zt_ap a S P) (hs : 1 ≤ s ∧ s ≤ 47) (h0 : zv_I g0 S 0 = s) (w : zt_wd r m wd g0) (hm : m ≤ 12) (nr : r ≠ S ∧ r ≠ S + 2 ∧ r ≠ a + 5 ∧ r + 1 ≠ S ∧ r + 1 ≠ a + 5) (hD : D.length + m ≤ 120) {X : Option zv_V × zv_H → Prop} (fin : ∀ g, zt_ad a g0 S (D ++ zm_rs s m) (zt_gy G s wd m) g → zm_R (L0_putWord_184 (d + 1) a P S pl g) X) : ∀ (n k : Nat) (g : zv_H), k + n = m → zt_ad a g0 S (D ++ (zm_rs s m).take k) (zt_gy G s wd k) g → zm_R (L0_putWord_135 (d + 1) a pl r P S (k : Int) g) X := by
  have wk : ∀ (D : List (Int × Int)) (G : Nat → Int) (g : zv_H), zt_ad a g0 S D G g → zt_wd r m wd g := fun D G g A => by
    refine ⟨zt_wd_l7 w, zt_wd_la w, zt_wd_m12 w, ?_, fun k hk => ?_⟩
    · rw [zt_ad_i A r 1 (fun q => nr.1 q.1) nr.2.1 nr.2.2.1]; exact zt_wd_sz w
    · rw [zt_ad_i A (r + 1) k (fun q => nr.2.2.2.1 q.1) (fun q => nr.1 (by
        have l1 := zt_wd_la w
        have l2 := (zc_l5 (zt_ap_lS ap)).2
        rw [q, l2] at l1
        cases l1)) nr.2.2.2.2]
      exact zt_wd_lt w k hk
  intro n
  induction n with
  | zero =>
    intro k g hk A
    have e : k = m := by omega
    subst e
    have L1 := zt_ad_L A gL
    have et : (zm_rs s k).take k = zm_rs s k := List.take_of_length_le (by rw [zm_rs_len]; omega)
    rw [et] at A
    rw [qL0_putWord_135, zm_e (zl_gI L1 (zt_wd_l7 w) 1), zt_wd_sz (wk _ _ _ A), if_neg (by omega)]
    exact fin g A
  | succ n ih =>
    intro k g hk A
    have L1 := zt_ad_L A gL
    have w1 := wk _ _ _ A
    have okp : zt_ok (s, (k : Int)) := Or.inr ⟨hs, by dsimp only; omega, by dsimp only; omega⟩
    have idr := zt_id_r okp
    have el : (D ++ (zm_rs s m).take k).length = D.length + k := by rw [List.length_append, List.length_take, zm_rs_len]; omega
    have n0 : zv_I g S 0 = s := by
      rw [zt_ad_i A S 0 (fun q => absurd q.2 (by decide)) (by omega) (zt_ap_n6 ap)]
      exact h0
    rw [qL0_putWord_135, zm_e (zl_gI L1 (zt_wd_l7 w) 1), zt_wd_sz w1, if_pos (by omega), zm_e (zl_gI L1 (zt_ap_lS ap) 0), n0, zm_e (zt_C4_id ⟨by omega, hs.2⟩ ⟨by omega, by omega⟩)]
    dsimp only
    rw [zm_e (zt_C7_at L1 w1 (by omega))]
    dsimp only
    rw [zm_e (zt_C0_setGlyph L1 (zt_ap_la ap) idr _)]
    have A1 := zt_ad_G A (zt_ap_n5 ap) (zt_ap_n6 ap) (zt_id (s, (k : Int))).toNat (wd k)
    have L2 := zt_ad_L A1 gL
    rw [zm_e (zt_C5_addId L2 (zt_ap_lS ap) (zt_ad_n A1) (by omega) _), zm_w (by omega), show (k : Int) + 1 = ((k + 1 : Nat) : Int) by omega]
    refine ih (k + 1) _ (by omega) ?_
    have et : D ++ (zm_rs s m).take (k + 1) = (D ++ (zm_rs s m).take k) ++ [(s, (k : Int))] := by
      rw [zt_take_s (zm_rs_get s m (by omega)), List.append_assoc]
    rw [et]
    exact zt_ad_a A1 (zt_ap_n5 ap) (zt_ap_n6 ap) (s, (k : Int))
theorem zt_put184 {d : Nat} {a : Nat} {g0 : zv_H} {S P : Nat} {D E : List (Int × Int)} {G : Nat → Int} {pl : Nat} (gL : zt_L g0) (ap : zt_ap a S P) (s : zt_src P E g0) (hpl : pl ≤ E.length) (hD : D.length + (E.length - pl) ≤ 120) {X : Option zv_V × zv_H → Prop} (fin : ∀ g, zt_ad a g0 S (D ++ E.drop pl) G g → zm_R ((C0_joinGroup (d + 1) a S P g).bind fun g4 => (zv_gI g4 S 5 0).bind fun v5 => (some (some (zv_i v5), g4) : zv_O)) X) : ∀ (n i : Nat) (g : zv_H), i + n = E.length → pl ≤ i → zt_ad a g0 S (D ++ (E.drop pl).take (i - pl)) G g → zm_R (L0_putWord_184 (d + 1) a P S (i : Int) g) X := by
  intro n
  induction n with
  | zero =>
    intro i g hi hp A
    have L1 := zt_ad_L A gL
    have s1 := zt_ap_src ap s A
    have et : (E.drop pl).take (i - pl) = E.drop pl := List.take_of_length_le (by rw [List.length_drop]; omega)
    rw [et] at A
    rw [qL0_putWord_184, zm_e (zl_gI L1 (zt_src_lP s) 12), zt_src_n s1, if_neg (by omega)]
    exact fin g A
  | succ n ih =>
    intro i g hi hp A
    have L1 := zt_ad_L A gL
    have s1 := zt_ap_src ap s A
    obtain ⟨x, hx⟩ : ∃ x, E[i]? = some x := ⟨_, List.getElem?_eq_getElem (by omega)⟩
    have el : (D ++ (E.drop pl).take (i - pl)).length = D.length + (i - pl) := by rw [List.length_append, List.length_take, List.length_drop]; omega
    rw [qL0_putWord_184, zm_e (zl_gI L1 (zt_src_lP s) 12), zt_src_n s1, if_pos (by omega), zm_e (zt_src_at L1 s1 hx)]
    dsimp only
    rw [zm_e (zt_C5_addId L1 (zt_ap_lS ap) (zt_ad_n A) (by omega) _), zm_w (by have := zt_src_n120 s; omega), show (i : Int) + 1 = ((i + 1 : Nat) : Int) by omega]
    refine ih (i + 1) _ (by omega) (by omega) ?_
    have hx2 : (E.drop pl)[i - pl]? = some x := by
      rw [List.getElem?_drop, show pl + (i - pl) = i by omega]
      exact hx
    rw [show i + 1 - pl = (i - pl) + 1 by omega, zt_take_s hx2, ← List.append_assoc]
    exact zt_ad_a A (zt_ap_n5 ap) (zt_ap_n6 ap) x
