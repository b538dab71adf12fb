/-! ===== the class: a new State ===== -/
theorem zc_sIr {h : zv_H} {s j : Nat} {v : Int} (a : ∀ k, zv_rg (zv_I h s k)) (hv : zv_rg v) : ∀ k, zv_rg (zv_I (zv_sI h s j v) s k) := fun k => by
  by_cases e : k = j
  · rw [e, zc_sI2]; exact hv
  · rw [zc_sI1 _ _ _ _ (fun q => e q.2)]; exact a k
section
variable {α : Type} {h : zv_H} {r c k : Nat} {P : α → Prop}
theorem zc_dI {v : Int} {g : zv_H → Option α} (ob : zv_ob h r c) (n : zm_R (g (zv_sI h r k v)) P) : zm_R ((zv_pI h r c k v).bind g) P := by
  rw [zm_e (show zv_pI h r c k v = some _ from if_pos ob)]
  exact n
theorem zc_dZ {v : Int} {g : zv_H → Option α} (ob : zv_ob h r c) (hv : v = 0 ∨ v = 1) (n : zm_R (g (zv_sI h r k v)) P) : zm_R ((zv_pZ h r c k v).bind g) P := by
  rw [zm_e (show zv_pZ h r c k v = some _ from if_pos ⟨ob, hv⟩)]
  exact n
theorem zc_dJ {v : Int64} {g : zv_H → Option α} (ob : zv_ob h r c) (n : zm_R (g (zv_sJ h r k v)) P) : zm_R ((zv_pJ h r c k v).bind g) P := by
  rw [zm_e (show zv_pJ h r c k v = some _ from if_pos ob)]
  exact n
theorem zc_dR {v : Nat} {g : zv_H → Option α} (ob : zv_ob h r c) (n : zm_R (g (zv_sR h r k v)) P) : zm_R ((zv_pR h r c k v).bind g) P := by
  rw [zm_e (show zv_pR h r c k v = some _ from if_pos ob)]
  exact n
theorem zc_eI {v : Int} {g : Int → Option α} (ob : zv_ob h r c) (e : zv_I h r k = v) (n : zm_R (g v) P) : zm_R ((zv_gI h r c k).bind g) P := by
  rw [zm_e (show zv_gI h r c k = some _ from if_pos ob), e]
  exact n
theorem zc_eR {v : Nat} {g : Nat → Option α} (ob : zv_ob h r c) (e : zv_R h r k = v) (n : zm_R (g v) P) : zm_R ((zv_gR h r c k).bind g) P := by
  rw [zm_e (show zv_gR h r c k = some _ from if_pos ob), e]
  exact n
end
/-- what State.open leaves -/
def zc_N (h h' : zv_H) (s p : Nat) : Prop := h'.1 = h.1 ∧ h'.2.2.2.2 = h.2.2.2.2 ∧ (∀ r, r ≠ s → h'.2.1 r = h.2.1 r ∧ h'.2.2.1 r = h.2.2.1 r ∧ h'.2.2.2.1 r = h.2.2.2.1 r) ∧ (∀ k, zv_rg (zv_I h' s k)) ∧ zv_I h' s 0 = zv_I h s 0 ∧ zv_I h' s 3 = 1 ∧ zv_R h' s 4 = p ∧ zv_R h' s 5 = s ∧ zv_I h' s 10 = (if p = 0 then 0 else zv_w (zv_I h p 10 + 1)) ∧ zv_I h' s 11 = 0 ∧ zv_I h' s 12 = 0 ∧ (∀ k, k ≠ 4 → k ≠ 5 → zv_R h' s k = zv_R h s k)
theorem zc_E5_open {d : Nat} {h : zv_H} {s p : Nat} {x y z : Int} (ob : zv_ob h s 5) (op : p = 0 ∨ (zv_ob h p 5 ∧ p ≠ s)) (rx : zv_rg x) (ry : zv_rg y) (rz : zv_rg z) (rr : ∀ k, zv_rg (zv_I h s k)) : zm_R (E5_open d s p x y z h) (zm_V fun h' => zc_N h h' s p) := by
  have r0 : zv_rg 0 := by unfold zv_rg; omega
  have r1 : zv_rg 1 := by unfold zv_rg; omega
  have rm : zv_rg (-1) := by unfold zv_rg; omega
  have tail : ∀ (g : zv_H) (w : Int), zv_rg w → g.1 = h.1 → g.2.2.2.2 = h.2.2.2.2 → (∀ r, r ≠ s → g.2.1 r = h.2.1 r ∧ g.2.2.1 r = h.2.2.1 r ∧ g.2.2.2.1 r = h.2.2.2.1 r) → (∀ k, zv_rg (zv_I g s k)) → zv_I g s 0 = zv_I h s 0 → zv_I g s 3 = 1 → zv_R g s 4 = p → zv_R g s 5 = s → (∀ k, k ≠ 4 → k ≠ 5 → zv_R g s k = zv_R h s k) → w = (if p = 0 then 0 else zv_w (zv_I h p 10 + 1)) → zm_R (L5_open_51 d s s w g) (zm_V fun h' => zc_N h h' s p) := by
    intro g w rw' g1 g2 g3 g4 g5 g6 g7 g8 g10 g9
    have ob' : zv_ob g s 5 := ⟨by have := ob.1; unfold zv_n at *; rw [g1]; exact this, ob.2⟩
    rw [qL5_open_51]
    refine zc_dI ob' ?_
    refine zc_dI ob' ?_
    refine zc_dI ob' ?_
    refine zc_dI ob' ?_
    refine zc_dI ob' ?_
    refine zc_dI ob' ?_
    refine zc_dJ ob' ?_
    refine zc_dJ ob' ?_
    refine zm_iV ⟨g1, g2, fun r hr => ⟨?_, ?_, (g3 r hr).2.2⟩, ?_, ?_, ?_, g7, g8, ?_, ?_, ?_, g10⟩
    · rw [← (g3 r hr).1]
      funext b
      simp [zv_sI, zv_sJ, zv_up, hr]
    · rw [← (g3 r hr).2.1]
      funext b
      simp [zv_sI, zv_sJ, zv_up, hr]
    · exact zc_sIr (zc_sIr (zc_sIr (zc_sIr (zc_sIr (zc_sIr g4 rw') r0) r0) r0) r0) rm
    · rw [← g5]
      simp [zv_I, zv_sI, zv_sJ, zv_up]
    · rw [← g6]
      simp [zv_I, zv_sI, zv_sJ, zv_up]
    · rw [← g9]
      simp [zv_I, zv_sI, zv_sJ, zv_up]
    · simp [zv_I, zv_sI, zv_sJ, zv_up]
    · simp [zv_I, zv_sI, zv_sJ, zv_up]
  have A : ∀ w : Int, zv_rg w → w = (if p = 0 then 0 else zv_w (zv_I h p 10 + 1)) → zm_R (L5_open_51 d s s w (zv_sI (zv_sI (zv_sI (zv_sI (zv_sR (zv_sR (zv_sI h s 3 1) s 4 p) s 5 s) s 6 x) s 7 0) s 8 y) s 9 z)) (zm_V fun h' => zc_N h h' s p) := by
    intro w rw' ew
    refine tail _ w rw' rfl rfl (fun r hr => ⟨?_, ?_, ?_⟩) (zc_sIr (zc_sIr (zc_sIr (zc_sIr (zc_sIr rr r1) rx) r0) ry) rz) ?_ ?_ ?_ ?_ (fun k k4 k5 => ?_) ew
    · funext b
      simp [zv_sI, zv_sR, zv_up, hr]
    · funext b
      simp [zv_sI, zv_sR]
    · funext b
      simp [zv_sI, zv_sR, zv_up, hr]
    · simp [zv_I, zv_sI, zv_sR, zv_up]
    · simp [zv_I, zv_sI, zv_sR, zv_up]
    · simp [zv_R, zv_sI, zv_sR, zv_up]
    · simp [zv_R, zv_sI, zv_sR, zv_up]
    · simp [zv_R, zv_sI, zv_sR, zv_up, k4, k5]
  rw [qE5_open]
  refine zc_dZ ob (Or.inr rfl) ?_
  refine zc_dR ob ?_
  refine zc_dR ob ?_
  refine zc_dI ob ?_
  refine zc_dI ob ?_
  refine zc_dI ob ?_
  refine zc_dI ob ?_
  refine zm_if (fun c => A 0 r0 (by rw [if_pos c])) (fun c => ?_)
  have op' := op.resolve_left c
  refine zc_eI op'.1 rfl ?_
  refine A _ (zc_w _) ?_
  rw [if_neg c]
  simp [zv_I, zv_sI, zv_sR, zv_up, op'.2]
theorem zc_C5_open {d : Nat} {h : zv_H} {s p : Nat} {x y z : Int} (ob : zv_ob h s 5) (op : p = 0 ∨ (zv_ob h p 5 ∧ p ≠ s)) (rx : zv_rg x) (ry : zv_rg y) (rz : zv_rg z) (rr : ∀ k, zv_rg (zv_I h s k)) : zm_R (C5_open (d + 1) s p x y z h) (fun h' => zc_N h h' s p) := zm_cV (fun e => lC5_open ob e) (zc_E5_open ob op rx ry rz rr)
/-- at, exactly -/
theorem zc_at {d : Nat} {h : zv_H} (hA : zc_A h) {a : Nat} (ha : zv_lay a = (1, 0)) {i : Int} (h0 : 0 ≤ i) (h1 : i < 48) : C0_at (d + 1) a i h = some ((if zv_I h (zc_stt a i.toNat) 3 = 0 then 0 else zc_stt a i.toNat), h) := by
  refine lC0_at (zc_ob hA ha) ?_
  have s := zc_stl ha (show i.toNat < 48 by omega)
  have F := zc_Q_r hA
  have hl : zv_lay (a + 4) = (6, 48) := by cases zc_lh ha with
    | inl e => rw [e]; rfl
    | inr e => rw [e]; rfl
  have e1 : zv_aR h (a + 4) i = some (zc_stt a i.toNat) := by
    unfold zv_aR
    rw [if_pos ⟨zc_n hA.1 (zc_ly hl), by rw [hl], h0, by rw [hl]; exact h1⟩, hA.1.2.2.1 a i.toNat ha (by omega)]
  rw [qE0_at, if_neg (by omega), if_pos h1, zm_e (zc_gF hA ha 1 4 rfl (by decide)), zm_e e1, if_neg (zc_nz s.1), zm_e (zc_gI hA s.1 3)]
  by_cases c : zv_I h (zc_stt a i.toNat) 3 = 0
  · rw [if_pos c, if_pos c]
  · rw [if_neg c, if_neg c]
/-- one new State s below here -/
def zc_G (a : Nat) (h h' : zv_H) (s : Nat) : Prop := zv_lay s = (1, 5) ∧ zc_hf s = a ∧ zv_I h s 3 = 0 ∧ zv_R h s 4 = 0 ∧ zv_I h' s 3 = 1 ∧ zv_I h' s 11 = 0 ∧ zv_R h' s 4 = zv_R h a 10 ∧ zv_R h' a 10 = s ∧ (∀ t, zv_lay t = (1, 5) → t ≠ s → zv_I h' t 3 = zv_I h t 3 ∧ zv_R h' t 4 = zv_R h t 4 ∧ (zv_I h t 3 = 1 → zv_I h' t 11 = (if t = zv_R h a 10 then zv_I h t 11 + 1 else zv_I h t 11))) ∧ ∀ b, zv_lay b = (1, 0) → b ≠ a → zv_R h' b 10 = zv_R h b 10
theorem zc_qR {h h' : zv_H} (f : zc_q h h') {r c : Nat} (hr : zv_lay r = (1, c)) (k : Nat) : zv_R h' r k = zv_R h r k := congrFun (f.2.2.2.1 r (fun e => by rw [e] at hr; cases hr) (fun e => by rw [e] at hr; cases hr)) k
theorem zc_G_q {a : Nat} {h h1 h2 : zv_H} {s : Nat} (ha : zv_lay a = (1, 0)) (g : zc_G a h h1 s) (f : zc_q h1 h2) : zc_G a h h2 s := by
  obtain ⟨g1, g2, g3, g4, g5, g6, g7, g8, g9, g10⟩ := g
  have i := f.2.2.2.2.1
  exact ⟨g1, g2, g3, g4, (i s g1).2.1.trans g5, (i s g1).2.2.2.trans g6, (zc_qR f g1 4).trans g7, (zc_qR f ha 10).trans g8, fun t ht hs => ⟨(i t ht).2.1.trans (g9 t ht hs).1, (zc_qR f ht 4).trans (g9 t ht hs).2.1, fun q => (i t ht).2.2.2.trans ((g9 t ht hs).2.2 q)⟩, fun b hb hn => (zc_qR f hb 10).trans (g10 b hb hn)⟩
theorem zc_q_G {a : Nat} {h h1 h2 : zv_H} {s : Nat} (ha : zv_lay a = (1, 0)) (f : zc_q h h1) (g : zc_G a h1 h2 s) : zc_G a h h2 s := by
  obtain ⟨g1, g2, g3, g4, g5, g6, g7, g8, g9, g10⟩ := g
  have i := f.2.2.2.2.1
  refine ⟨g1, g2, (i s g1).2.1.symm.trans g3, (zc_qR f g1 4).symm.trans g4, g5, g6, g7.trans (zc_qR f ha 10), g8, fun t ht hs => ⟨(g9 t ht hs).1.trans (i t ht).2.1, (g9 t ht hs).2.1.trans (zc_qR f ht 4), fun q => ?_⟩, fun b hb hn => (g10 b hb hn).trans (zc_qR f hb 10)⟩
  have := (g9 t ht hs).2.2 ((i t ht).2.1.trans q)
  rw [zc_qR f ha 10, (i t ht).2.2.2] at this
  exact this
theorem zc_G_V {a : Nat} {h h' : zv_H} {s : Nat} (g : zc_G a h h' s) {t : Nat} (hV : zc_V h t) : zc_V h' t ∧ t ≠ s := by
  have ne : t ≠ s := fun e => by
    have := hV.2
    rw [e, g.2.2.1] at this
    cases this
  exact ⟨⟨hV.1, ((g.2.2.2.2.2.2.2.2.1 t hV.1 ne).1).trans hV.2⟩, ne⟩
/-- counting children, one more -/
theorem zc_ch_add {h h' : zv_H} {s p a i0 : Nat} (ha : zv_lay a = (1, 0)) (hi : i0 < 48) (es : s = zc_stt a i0) (hs : zv_R h s 4 = 0) (hs' : zv_R h' s 4 = p) (o : ∀ t, zv_lay t = (1, 5) → t ≠ s → zv_R h' t 4 = zv_R h t 4) {r : Nat} (hr : r ≠ 0) (hp : r = p → zc_hf r = a) : ∀ n, n ≤ 48 → zc_ch h' r n = zc_ch h r n + (if r = p ∧ i0 < n then 1 else 0) := by
  intro n
  induction n with
  | zero => intro _; rw [if_neg (fun q => Nat.not_lt_zero _ q.2)]; rfl
  | succ n ih =>
    intro hn
    have l := zc_stl (zc_hl r) (show n < 48 by omega)
    have e1 : ∀ g : zv_H, zc_ch g r (n + 1) = zc_ch g r n + (if zv_R g (zc_stt (zc_hf r) n) 4 = r then 1 else 0) := fun _ => rfl
    rw [e1, e1, ih (by omega)]
    by_cases q : zc_stt (zc_hf r) n = s
    · have q1 : zc_hf r = a := by
        have := l.2.1
        rw [q, es, (zc_stl ha hi).2.1] at this
        exact this.symm
      have q2 : n = i0 := by
        rw [q1, es] at q
        exact zc_stinj ha q
      subst q2
      rw [q, hs, hs', if_neg (show ¬ (r = p ∧ n < n) by omega), if_neg (show ¬ 0 = r by omega)]
      by_cases w : r = p
      · rw [if_pos w.symm, if_pos ⟨w, Nat.lt_succ_self n⟩]
      · rw [if_neg (fun e => w e.symm), if_neg (fun e => w e.1)]
    · rw [o _ l.1 q]
      have ne : r = p → n ≠ i0 := fun w e => q (by rw [hp w, e]; exact es.symm)
      by_cases w : r = p ∧ i0 < n
      · rw [if_pos w, if_pos (show r = p ∧ i0 < n + 1 from ⟨w.1, by omega⟩)]; omega
      · rw [if_neg w, if_neg (show ¬ (r = p ∧ i0 < n + 1) from fun e => w ⟨e.1, by have := ne e.1; omega⟩)]; omega
