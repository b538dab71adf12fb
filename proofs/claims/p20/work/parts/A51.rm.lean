/-! ===== the tie: removing a State ===== -/
theorem zt_forget_l {d : Nat} {r : Nat} (lr : zv_lay r = (1, 6)) (lr1 : zv_lay (r + 1) = (2, 40)) (s : Int) : ∀ (n i : Nat) (g : zv_H), i + n = 40 → zt_L g → ∃ g', L6_forget_2 d r s i g = some (none, g') ∧ zt_o [r + 1] g g' ∧ ∀ k : Nat, k < 40 → zv_I g' (r + 1) k = if i ≤ k ∧ zv_I g (r + 1) k = s then -1 else zv_I g (r + 1) k := by
  intro n
  induction n with
  | zero =>
    intro i g hi gL
    have e : i = 40 := hi
    subst e
    refine ⟨g, ?_, zt_o_r _ g, fun k hk => ?_⟩
    · rw [qL6_forget_2, if_neg (by decide)]
    · rw [if_neg (fun q => by omega)]
  | succ n ih =>
    intro i g hi gL
    have w1 : zv_w ((i : Int) + 1) = ((i + 1 : Nat) : Int) := by
      rw [zm_w (by omega)]
      rfl
    have i40 : (i : Int) < ((40 : Nat) : Int) := by omega
    have e1 : zv_aI g (r + 1) (i : Int) = some (zv_I g (r + 1) i) := by rw [zl_aI gL lr1 (Int.natCast_nonneg _) i40, Int.toNat_natCast]
    by_cases c : zv_I g (r + 1) i = s
    · have o1 : zt_o [r + 1] g (zv_sI g (r + 1) i (-1)) := zt_o_I (zt_o_r _ g) (by simp) _ _
      obtain ⟨g', e, o, w⟩ := ih (i + 1) (zv_sI g (r + 1) i (-1)) (by omega) gL
      refine ⟨g', ?_, zt_o_t o1 o, fun k hk => ?_⟩
      · rw [qL6_forget_2, if_pos (show (i : Int) < 40 from i40), zm_e (zl_gF gL lr 0 1), zm_e e1, if_pos c, zm_e (zl_gF gL lr 0 1), zm_e (zl_wI gL lr1 (Int.natCast_nonneg _) i40 _), Int.toNat_natCast, w1]
        exact e
      · rw [w k hk]
        by_cases z : k = i
        · rw [z, zy_I, if_pos (show i ≤ i ∧ zv_I g (r + 1) i = s from ⟨Nat.le_refl _, c⟩), if_neg (fun q => absurd q.1 (Nat.not_succ_le_self _))]
        · rw [zy_In _ _ (fun q => z q.2)]
          by_cases y : i ≤ k ∧ zv_I g (r + 1) k = s
          · rw [if_pos y, if_pos ⟨Nat.lt_of_le_of_ne y.1 (fun q => z q.symm), y.2⟩]
          · rw [if_neg y, if_neg (fun q => y ⟨Nat.le_of_succ_le q.1, q.2⟩)]
    · obtain ⟨g', e, o, w⟩ := ih (i + 1) g (by omega) gL
      refine ⟨g', ?_, o, fun k hk => ?_⟩
      · rw [qL6_forget_2, if_pos (show (i : Int) < 40 from i40), zm_e (zl_gF gL lr 0 1), zm_e e1, if_neg c, w1]
        exact e
      · rw [w k hk]
        by_cases z : k = i
        · rw [z, if_neg (fun q => absurd q.1 (Nat.not_succ_le_self _)), if_neg (fun q => c q.2)]
        · by_cases y : i ≤ k ∧ zv_I g (r + 1) k = s
          · rw [if_pos y, if_pos ⟨Nat.lt_of_le_of_ne y.1 (fun q => z q.symm), y.2⟩]
          · rw [if_neg y, if_neg (fun q => y ⟨Nat.le_of_succ_le q.1, q.2⟩)]
/-- a State removed -/
def zt_rm (a : Nat) (S : Nat) (P : Nat) (s : Int) (g : zv_H) (g' : zv_H) : Prop := (zv_lay P = (1, 5)) ∧ (g'.1 = g.1) ∧ (g'.2.2.2.2 = g.2.2.2.2) ∧ (g'.2.2.1 = g.2.2.1) ∧ (∀ r k, ¬ (r = S ∧ k = 4) → zv_R g' r k = zv_R g r k) ∧ (∀ r k, ¬ (r = S ∧ k = 3) → ¬ (r = P ∧ k = 11) → r ≠ a + 18 → ¬ (r = a ∧ k = 12) → zv_I g' r k = zv_I g r k) ∧ (zv_I g' S 3 = 0) ∧ (zv_I g' a 12 = zv_w (zv_I g a 12 - 1)) ∧ (∀ k : Nat, k < 40 → zv_I g' (a + 18) k = if zv_I g (a + 18) k = s then -1 else zv_I g (a + 18) k)
theorem zt_rm_p {a : Nat} {S : Nat} {P : Nat} {s : Int} {g : zv_H} {g' : zv_H} (t : zt_rm a S P s g g') : zv_lay P = (1, 5) := t.1
theorem zt_rm_n {a : Nat} {S : Nat} {P : Nat} {s : Int} {g : zv_H} {g' : zv_H} (t : zt_rm a S P s g g') : g'.1 = g.1 := t.2.1
theorem zt_rm_c {a : Nat} {S : Nat} {P : Nat} {s : Int} {g : zv_H} {g' : zv_H} (t : zt_rm a S P s g g') : g'.2.2.2.2 = g.2.2.2.2 := t.2.2.1
theorem zt_rm_J {a : Nat} {S : Nat} {P : Nat} {s : Int} {g : zv_H} {g' : zv_H} (t : zt_rm a S P s g g') : g'.2.2.1 = g.2.2.1 := t.2.2.2.1
theorem zt_rm_R {a : Nat} {S : Nat} {P : Nat} {s : Int} {g : zv_H} {g' : zv_H} (t : zt_rm a S P s g g') : ∀ r k, ¬ (r = S ∧ k = 4) → zv_R g' r k = zv_R g r k := t.2.2.2.2.1
theorem zt_rm_I {a : Nat} {S : Nat} {P : Nat} {s : Int} {g : zv_H} {g' : zv_H} (t : zt_rm a S P s g g') : ∀ r k, ¬ (r = S ∧ k = 3) → ¬ (r = P ∧ k = 11) → r ≠ a + 18 → ¬ (r = a ∧ k = 12) → zv_I g' r k = zv_I g r k := t.2.2.2.2.2.1
theorem zt_rm_l3 {a : Nat} {S : Nat} {P : Nat} {s : Int} {g : zv_H} {g' : zv_H} (t : zt_rm a S P s g g') : zv_I g' S 3 = 0 := t.2.2.2.2.2.2.1
theorem zt_rm_ct {a : Nat} {S : Nat} {P : Nat} {s : Int} {g : zv_H} {g' : zv_H} (t : zt_rm a S P s g g') : zv_I g' a 12 = zv_w (zv_I g a 12 - 1) := t.2.2.2.2.2.2.2.1
theorem zt_rm_lg {a : Nat} {S : Nat} {P : Nat} {s : Int} {g : zv_H} {g' : zv_H} (t : zt_rm a S P s g g') : ∀ k : Nat, k < 40 → zv_I g' (a + 18) k = if zv_I g (a + 18) k = s then -1 else zv_I g (a + 18) k := t.2.2.2.2.2.2.2.2
theorem zt_remove {d : Nat} {a : Nat} {g : zv_H} (gL : zt_L g) (la : zv_lay a = (1, 0)) {S P : Nat} {s : Int} (lS : zv_lay S = (1, 5)) (lP : zv_lay P = (1, 5)) (hP : zv_R g S 4 = P) (hn : zv_I g S 0 = s) (ne : P ≠ S) : ∃ g', C0_remove (d + 2) a S g = some g' ∧ zt_rm a S P s g g' := by
  have l17 := (zc_y0_7 la).1
  have l18 : zv_lay (a + 18) = (2, 40) := by rcases zc_lh la with e | e <;> rw [e] <;> rfl
  have nS : a + 18 ≠ S := fun e => by rw [e] at l18; rw [l18] at lS; exact absurd lS (by decide)
  have nP : a + 18 ≠ P := fun e => by rw [e] at l18; rw [l18] at lP; exact absurd lP (by decide)
  have naS : a ≠ S := fun e => by rw [e] at la; rw [la] at lS; exact absurd lS (by decide)
  have naP : a ≠ P := fun e => by rw [e] at la; rw [la] at lP; exact absurd lP (by decide)
  have na : a ≠ a + 18 := by omega
  have gL3 : zt_L (zv_sR (zv_sI (zv_sI g S 3 0) P 11 (zv_w (zv_I g P 11 - 1))) S 4 0) := zl_sR (hL := gL) (fun _ => by rw [lS]; rfl) (fun e => by rw [e] at lS; exact absurd lS (by decide)) (fun e => by rw [e] at lS; exact absurd lS (by decide))
  obtain ⟨g4, e4, o4, w4⟩ := zt_forget_l (d := d) l17 l18 s 40 0 (zv_sR (zv_sI (zv_sI g S 3 0) P 11 (zv_w (zv_I g P 11 - 1))) S 4 0) (Nat.zero_add _) gL3
  have gL4 := zt_o_L o4 gL3
  have o4i : ∀ r k, r ≠ a + 18 → zv_I g4 r k = zv_I (zv_sI (zv_sI g S 3 0) P 11 (zv_w (zv_I g P 11 - 1))) r k := fun r k hr => zt_o_i o4 (by simp; exact hr) k
  have i12 : zv_I g4 a 12 = zv_I g a 12 := by
    rw [o4i a 12 na, zy_In _ _ (fun q => naP q.1), zy_In _ _ (fun q => naS q.1)]
  refine ⟨zv_sI g4 a 12 (zv_w (zv_I g a 12 - 1)), lC0_remove (zl_ob gL la) ?_, lP, ?_, ?_, ?_, ?_, ?_, ?_, ?_, ?_⟩
  · have en : zv_I (zv_sR (zv_sI (zv_sI g S 3 0) P 11 (zv_w (zv_I g P 11 - 1))) S 4 0) S 0 = s := by
      show zv_I (zv_sI (zv_sI g S 3 0) P 11 (zv_w (zv_I g P 11 - 1))) S 0 = s
      rw [zy_In _ _ (fun q => ne q.1.symm), zy_In _ _ (fun q => absurd q.2 (by decide)), hn]
    have e11 : zv_I (zv_sI g S 3 0) P 11 = zv_I g P 11 := zy_In _ _ (fun q => ne q.1)
    have ef : C6_forget (d + 1) (a + 17) s (zv_sR (zv_sI (zv_sI g S 3 0) P 11 (zv_w (zv_I g P 11 - 1))) S 4 0) = some g4 := by
      refine lC6_forget (zl_ob gL3 l17) ?_
      rw [qE6_forget]
      exact e4
    rw [qE0_remove, zm_e (zl_pZ gL lS 3 (Or.inl rfl)), zm_e (zl_gR (g := zv_sI g S 3 0) gL lS 4), show zv_R (zv_sI g S 3 0) S 4 = P from hP, if_neg (zc_nz lP), zm_e (zl_gR (g := zv_sI g S 3 0) gL lS 4), show zv_R (zv_sI g S 3 0) S 4 = P from hP, zm_e (zl_gI (g := zv_sI g S 3 0) gL lP 11), e11, zm_e (zl_pI (g := zv_sI g S 3 0) gL lP 11 _), qL0_remove_25, zm_e (zl_pR (g := zv_sI (zv_sI g S 3 0) P 11 (zv_w (zv_I g P 11 - 1))) gL lS 4 0), zm_e (zl_gF gL3 la 7 17), zm_e (zl_gI gL3 lS 0), en, zm_e ef, zm_e (zl_gI gL4 la 12), i12, zm_e (zl_pI gL4 la 12 _)]
  · exact o4.1
  · show g4.2.2.2.2 = _
    rw [o4.2.1]
    rfl
  · show g4.2.2.1 = _
    rw [o4.2.1]
    rfl
  · intro r k hr
    show zv_R g4 r k = _
    unfold zv_R
    rw [o4.2.1]
    exact if_neg hr
  · intro r k h1 h2 h3 h4
    rw [zy_In _ _ h4, o4i r k h3, zy_In _ _ h2, zy_In _ _ h1]
  · rw [zy_In _ _ (fun q => naS q.1.symm), o4i S 3 (fun q => nS q.symm), zy_In _ _ (fun q => ne q.1.symm), zy_I]
  · exact zy_I _ _ _ _
  · intro k hk
    have e0 : zv_I (zv_sR (zv_sI (zv_sI g S 3 0) P 11 (zv_w (zv_I g P 11 - 1))) S 4 0) (a + 18) k = zv_I g (a + 18) k := by
      show zv_I (zv_sI (zv_sI g S 3 0) P 11 (zv_w (zv_I g P 11 - 1))) (a + 18) k = _
      rw [zy_In _ _ (fun q => nP q.1), zy_In _ _ (fun q => nS q.1)]
    rw [zy_In _ _ (fun q => na q.1.symm)]
    have := w4 k hk
    rw [show a + 17 + 1 = a + 18 from rfl, e0] at this
    rw [this]
    by_cases c : zv_I g (a + 18) k = s
    · rw [if_pos c, if_pos ⟨Nat.zero_le _, c⟩]
    · rw [if_neg c, if_neg (fun q => c q.2)]
/-- the relation behind it -/
theorem zt_U_rm {a : Nat} {c c' : Nat → Int} {g g' g0 : zv_H} {s : Int} (U : zt_U a c g) (R : zt_rm a (zt_r a s) (zt_r a (zm_o c s 1)) s g0 g') (h0 : ∀ r k, zv_I g0 r k = zv_I g r k) (hR0 : ∀ r k, ¬ (r = a ∧ k = 10) → zv_R g0 r k = zv_R g r k) (hJ0 : ∀ r k, zv_J g0 r k = zv_J g r k) (hA' : zc_A g') (hs : zm_st c s) (W' : zm_W c') (st : ∀ t, zm_st c' t → zm_st c t ∧ t ≠ s) (lv : ∀ i : Nat, i < 48 → zm_o c' i 0 = if (i : Int) = s then 0 else zm_o c i 0) (ag : ∀ t, zm_st c' t → zm_ag c' c t ∧ zm_o c' t 7 = zm_o c t 7) (he : zv_R g0 a 10 = zt_r a (c' 0)) (nw : c 1 = c' 1) (ct : zm_nst c' = zm_nst c - 1) : zt_U a c' g' := by
  have la := zt_U_la U
  have W := zt_U_W U
  have rs := zt_r_p (a := a) hs.1.1
  have l18 : zv_lay (a + 18) = (2, 40) := by rcases zc_lh la with e | e <;> rw [e] <;> rfl
  have nst := zt_nst_le W
  have iS : ∀ (i x k : Nat), i < 48 → x ≤ 2 → k ≠ 11 → ¬ (x = 0 ∧ k = 3) → zv_I g' (zc_stt a i + x) k = zv_I g (zc_stt a i + x) k := fun i x k hi hx hk h3 => by
    have b := fun n (n0 : n ≤ 27) (n1 : n ≠ 1) (n2 : n ≠ 2) (n3 : n ≠ 3) => zt_sepH (a := a) (i := i) (n := n) (x := x) n0 hx n1 n2 n3
    refine (zt_rm_I R _ k (fun q => ?_) (fun q => hk q.2) (fun q => b 18 (by decide) (by decide) (by decide) (by decide) q.symm) (fun q => b 0 (by decide) (by decide) (by decide) (by decide) q.1.symm)).trans (h0 _ _)
    rw [rs] at q
    by_cases e : i = s.toNat
    · rw [e] at q
      exact h3 ⟨by omega, q.2⟩
    · exact zt_sep (a := a) e hx (show 0 ≤ 2 by decide) q.1
  have n11 : ∀ k, k ≠ 11 → k ≠ 14 → k ≠ 3 → k ≠ 13 → k ≠ 11 := fun _ h _ _ _ => h
  refine zt_U_mk la W' hA' (fun i hi => ?_) (fun t ht => ?_) ?_ ?_ ?_
  · rw [lv i hi]
    by_cases e : (i : Int) = s
    · rw [if_pos e]
      have := zt_rm_l3 R
      rw [rs, ← e, Int.toNat_natCast] at this
      exact this
    · rw [if_neg e]
      have b := fun n (n0 : n ≤ 27) (n1 : n ≠ 1) (n2 : n ≠ 2) (n3 : n ≠ 3) => zt_sepH (a := a) (i := i) (n := n) (x := 0) n0 (by decide) n1 n2 n3
      refine (zt_rm_I R _ 3 (fun q => ?_) (fun q => absurd q.2 (by decide)) (fun q => b 18 (by decide) (by decide) (by decide) (by decide) q.symm) (fun q => absurd q.2 (by decide))).trans ((h0 _ _).trans (zt_U_lv U i hi))
      rw [rs] at q
      exact zt_sep (a := a) (i := i) (j := s.toNat) (x := 0) (y := 0) (fun z => e (by rw [z, Int.toNat_of_nonneg hs.1.1])) (by decide) (by decide) q.1
  · obtain ⟨tc, tn⟩ := st t ht
    obtain ⟨l, hl', ok', _⟩ := zt_line W' ht
    have hl : zm_Ln c (t :: l) t := zm_Ln_cg (fun u hu => (ag u (ok'.2.2.1 u hu)).1) hl'
    have t48 : t.toNat < 48 := by have := tc.1; omega
    have rt := zt_r_p (a := a) tc.1.1
    have S := zt_U_st U t tc
    have cell : ∀ x k, x ≤ 2 → k ≠ 11 → ¬ (x = 0 ∧ k = 3) → zv_I g' (zt_r a t + x) k = zv_I g (zt_r a t + x) k := fun x k hx hk h3 => by
      rw [rt]
      exact iS _ x k t48 hx hk h3
    have nts : zt_r a t ≠ zt_r a s := fun e => tn (zt_r_inj la tc.1 hs.1 e)
    have cell2 : ∀ x k, x = 1 ∨ x = 2 → zv_I g' (zt_r a t + x) k = zv_I g (zt_r a t + x) k := fun x k hx => by
      have b := fun n (n0 : n ≤ 27) (n1 : n ≠ 1) (n2 : n ≠ 2) (n3 : n ≠ 3) => zt_sepH (a := a) (i := t.toNat) (n := n) (x := x) n0 (by omega) n1 n2 n3
      rw [rt]
      have l5 := zc_l5 (zt_r_l la tc.1)
      have lS := zt_r_l la hs.1
      rw [rt] at l5
      have no : ∀ Q : Nat, zv_lay Q = (1, 5) → ¬ (zc_stt a t.toNat + x = Q) := fun Q lQ e => by
        rcases hx with q | q <;> subst q
        · rw [← e] at lQ; exact absurd (l5.1.symm.trans lQ) (by decide)
        · rw [← e] at lQ; exact absurd (l5.2.symm.trans lQ) (by decide)
      refine (zt_rm_I R _ k (fun q => no _ lS q.1) (fun q => ?_) (fun q => b 18 (by decide) (by decide) (by decide) (by decide) q.symm) (fun q => b 0 (by decide) (by decide) (by decide) (by decide) q.1.symm)).trans (h0 _ _)
      have z := zt_rm_p R
      exact no _ z q.1
    refine zt_S0_cg W tc (zt_S_0 S) hl (fun u hu w w0 w1 w7 => ((ag u (ok'.2.2.1 u hu)).1 w w0 w1 w7).symm) ?_ (fun k k1 _ k3 _ => cell 0 k (by decide) k1 (fun q => k3 q.2)) (fun k => cell2 1 k (Or.inl rfl)) (fun k => cell2 2 k (Or.inr rfl)) (fun k => ?_) (fun k => ?_) (fun _ k _ => ?_)
    · rw [(ag t ht).2]
      exact (cell 0 13 (by decide) (by decide) (fun q => absurd q.2 (by decide))).trans (zt_S_vi S)
    · unfold zv_J
      rw [zt_rm_J R]
      exact hJ0 _ _
    · rw [zt_rm_R R _ _ (fun q => nts q.1)]
      exact hR0 _ _ (fun q => by have := zt_r_l la tc.1; rw [q.1] at this; rw [this] at la; exact absurd la (by decide))
    · have l5 : zv_lay (a + 5) = (2, 604) := by rcases zc_lh la with e | e <;> rw [e] <;> rfl
      have lS := zt_r_l la hs.1
      have lP := zt_rm_p R
      refine (zt_rm_I R _ _ (fun q => ?_) (fun q => ?_) (by omega) (fun q => by omega)).trans (h0 _ _)
      · rw [← q.1] at lS; rw [l5] at lS; exact absurd lS (by decide)
      · rw [← q.1] at lP; rw [l5] at lP; exact absurd lP (by decide)
  · rw [zt_rm_R R _ _ (fun q => by have := zt_r_l la hs.1; rw [← q.1] at this; rw [this] at la; exact absurd la (by decide))]
    exact he
  · have lS := zt_r_l la hs.1
    have lP := zt_rm_p R
    rw [← nw]
    refine (zt_rm_I R a 11 (fun q => absurd q.2 (by decide)) (fun q => ?_) (by omega) (fun q => absurd q.2 (by decide))).trans ((h0 _ _).trans (zt_U_nw U))
    rw [← q.1] at lP; rw [la] at lP; exact absurd lP (by decide)
  · rw [zt_rm_ct R, h0, zt_U_ct U, ct]
    clear hs
    exact zm_w (by omega)
