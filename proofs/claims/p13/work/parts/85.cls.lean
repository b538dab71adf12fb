/-! ===== the class: its cells, and what holds of them ===== -/
def zc_offL : List (List Nat) := [[1, 4, 5, 6, 7, 8, 14, 17, 22, 26], [1, 2, 3], [1, 2], [1, 2], [1, 2, 3, 4, 5], [0, 1, 2], [1, 2, 3, 4], [1], [1, 2, 4]]
def zc_off (c k : Nat) : Nat := (zc_offL.getD c []).getD k 0
def zc_stt (a i : Nat) : Nat := if i = 0 then a + 1 else a + 25 + 3 * i
def zc_hf (r : Nat) : Nat := if r < 178 then 9 else 178
def zc_ch (h : zv_H) (r : Nat) : Nat → Int
  | 0 => 0
  | n + 1 => zc_ch h r n + if zv_R h (zc_stt (zc_hf r) n) 4 = r then 1 else 0
/-- ints of narrow bounds: the length of a Row, the letters of a State, the size of a Word -/
def zc_bd (c k : Nat) : Option Int := if c = 4 ∧ k = 5 then some 48 else if c = 5 ∧ k = 12 then some 120 else if c = 7 ∧ k = 1 then some 40 else none
def zc_B (h : zv_H) : Prop := zv_n h = 372 ∧ (∀ r k, (zv_lay r).1 = 1 → zc_off (zv_lay r).2 k ≠ 0 → zv_R h r k = r + zc_off (zv_lay r).2 k) ∧ (∀ a i, zv_lay a = (1, 0) → i < 48 → zv_R h (a + 4) i = zc_stt a i) ∧ ((zv_R h 1 3 = 9 ∧ zv_R h 1 4 = 178) ∨ (zv_R h 1 3 = 178 ∧ zv_R h 1 4 = 9)) ∧ (∀ r k, r < 347 → zv_rg (zv_I h r k)) ∧ (∀ r c k m, zv_lay r = (1, c) → zc_bd c k = some m → 0 ≤ zv_I h r k ∧ zv_I h r k ≤ m) ∧ (∀ r k, zv_lay r = (1, 4) → zv_R h (r + 1) k = 0 ∨ zv_lay (zv_R h (r + 1) k) = (1, 5)) ∧ ∀ a i, zv_lay a = (1, 0) → i < 48 → zv_I h (zc_stt a i) 0 = (i : Int)
/-- the tree, at one State -/
def zc_t (h : zv_H) (r : Nat) : Prop := (zv_I h r 3 = 0 ∧ zv_R h r 4 = 0) ∨ (zv_I h r 3 = 1 ∧ (0 ≤ zv_I h r 10 ∧ zv_I h r 10 ≤ 47) ∧ ((zv_R h r 4 = 0 ∧ zv_I h r 10 = 0) ∨ (zv_lay (zv_R h r 4) = (1, 5) ∧ zv_I h (zv_R h r 4) 3 = 1 ∧ zc_hf (zv_R h r 4) = zc_hf r ∧ zv_I h (zv_R h r 4) 10 + 1 = zv_I h r 10)) ∧ (zv_R h r 5 = r ∨ (zv_R h r 4 ≠ 0 ∧ zv_R h r 5 = zv_R h (zv_R h r 4) 5)) ∧ zv_I h r 11 = zc_ch h r 48)
def zc_T (h : zv_H) : Prop := (∀ r, zv_lay r = (1, 5) → zc_t h r) ∧ ∀ a, zv_lay a = (1, 0) → zv_lay (zv_R h a 10) = (1, 5) ∧ zv_I h (zv_R h a 10) 3 = 1 ∧ zc_hf (zv_R h a 10) = a
/-- what a quiet call leaves as it was -/
def zc_q (h h' : zv_H) : Prop := h'.1 = h.1 ∧ h'.2.2.2.2 = h.2.2.2.2 ∧ (∀ r, 347 ≤ r → h'.2.1 r = h.2.1 r ∧ h'.2.2.1 r = h.2.2.1 r) ∧ (∀ r, r ≠ 18 → r ≠ 187 → h'.2.2.2.1 r = h.2.2.2.1 r) ∧ (∀ r, zv_lay r = (1, 5) → zv_I h' r 0 = zv_I h r 0 ∧ zv_I h' r 3 = zv_I h r 3 ∧ zv_I h' r 10 = zv_I h r 10 ∧ zv_I h' r 11 = zv_I h r 11) ∧ zv_I h' 5 2 = zv_I h 5 2
/-- all that holds -/
def zc_A (h : zv_H) : Prop := zc_B h ∧ zc_T h
def zc_Q (h h' : zv_H) : Prop := zc_q h h' ∧ zc_A h'
theorem zc_q_r (h : zv_H) : zc_q h h := ⟨rfl, rfl, fun _ _ => ⟨rfl, rfl⟩, fun _ _ _ => rfl, fun _ _ => ⟨rfl, rfl, rfl, rfl⟩, rfl⟩
theorem zc_q_t {h h1 h2 : zv_H} (f : zc_q h h1) (g : zc_q h1 h2) : zc_q h h2 := by
  obtain ⟨a1, a2, a3, a4, a5, a6⟩ := f
  obtain ⟨b1, b2, b3, b4, b5, b6⟩ := g
  exact ⟨b1.trans a1, b2.trans a2, fun r x => ⟨((b3 r x).1).trans (a3 r x).1, ((b3 r x).2).trans (a3 r x).2⟩, fun r x y => (b4 r x y).trans (a4 r x y), fun r x => ⟨((b5 r x).1).trans (a5 r x).1, ((b5 r x).2.1).trans (a5 r x).2.1, ((b5 r x).2.2.1).trans (a5 r x).2.2.1, ((b5 r x).2.2.2).trans (a5 r x).2.2.2⟩, b6.trans a6⟩
theorem zc_Q_r {h : zv_H} (hA : zc_A h) : zc_Q h h := ⟨zc_q_r h, hA⟩
theorem zc_Q_t {h h1 h2 : zv_H} (f : zc_Q h h1) (g : zc_Q h1 h2) : zc_Q h h2 := ⟨zc_q_t f.1 g.1, g.2⟩
/-! layouts -/
def zc_wk (P : Nat → List (Nat × Nat) → Bool) : Nat → List (Nat × Nat) → Bool
  | _, [] => true
  | r, a :: l => P r (a :: l) && zc_wk P (r + 1) l
theorem zc_wk_ok (P : Nat → List (Nat × Nat) → Bool) : ∀ (l : List (Nat × Nat)) (k r : Nat), zc_wk P k l = true → r < l.length → P (k + r) (l.drop r) = true
  | [], _, _, _, hr => absurd hr (Nat.not_lt_zero _)
  | a :: l, k, 0, h, _ => by
    have h : (P k (a :: l) && zc_wk P (k + 1) l) = true := h
    rw [Bool.and_eq_true] at h
    exact h.1
  | a :: l, k, r + 1, h, hr => by
    have h : (P k (a :: l) && zc_wk P (k + 1) l) = true := h
    rw [Bool.and_eq_true] at h
    have := zc_wk_ok P l (k + 1) r h.2 (Nat.lt_of_succ_lt_succ hr)
    rw [show k + (r + 1) = k + 1 + r by omega]
    exact this
theorem zc_dr {r : Nat} {l : List (Nat × Nat)} {a : Nat × Nat} (h : zv_layL.drop r = a :: l) : zv_lay r = a ∧ zv_layL.drop (r + 1) = l := by
  constructor
  · unfold zv_lay
    rw [List.getD_eq_getElem?_getD, ← Nat.add_zero r, ← List.getElem?_drop, h]
    rfl
  · rw [← List.drop_drop, h]
    rfl
theorem zc_allW (P : Nat → List (Nat × Nat) → Bool) (hP : zc_wk P 0 zv_layL = true) {r : Nat} (hr : ¬ (zv_lay r).1 = 0) : ∃ l, zv_layL.drop r = zv_lay r :: l ∧ P r (zv_lay r :: l) = true := by
  have hl := zv_lay_lt hr
  have h := zc_wk_ok P zv_layL 0 r hP (by rw [zv_layL_len]; exact hl)
  rw [Nat.zero_add] at h
  cases e : zv_layL.drop r with
  | nil =>
    have := congrArg List.length e
    rw [List.length_drop, zv_layL_len] at this
    exact absurd this (by show ¬ 373 - r = 0; omega)
  | cons a l =>
    rw [e] at h
    rw [(zc_dr e).1]
    exact ⟨l, rfl, h⟩
theorem zc_all (P : Nat → Nat × Nat → Bool) (hP : zc_wk (fun r l => match l with | a :: _ => P r a | [] => true) 0 zv_layL = true) {r : Nat} (hr : ¬ (zv_lay r).1 = 0) : P r (zv_lay r) = true := by
  obtain ⟨l, -, h⟩ := zc_allW _ hP hr
  exact h
theorem zc_ly {r : Nat} {k c : Nat} (h : zv_lay r = (k + 1, c)) : ¬ (zv_lay r).1 = 0 := by
  rw [h]
  exact Nat.succ_ne_zero k
theorem zc_lh {r : Nat} (h : zv_lay r = (1, 0)) : r = 9 ∨ r = 178 := by
  have := zc_all (fun r a => if a = (1, 0) then Nat.beq r 9 || Nat.beq r 178 else true) (by decide +kernel) (zc_ly h)
  rw [if_pos h, Bool.or_eq_true] at this
  exact this.imp Nat.eq_of_beq_eq_true Nat.eq_of_beq_eq_true
theorem zc_l4 {r : Nat} (h : zv_lay r = (1, 4)) : r = 17 ∨ r = 186 := by
  have := zc_all (fun r a => if a = (1, 4) then Nat.beq r 17 || Nat.beq r 186 else true) (by decide +kernel) (zc_ly h)
  rw [if_pos h, Bool.or_eq_true] at this
  exact this.imp Nat.eq_of_beq_eq_true Nat.eq_of_beq_eq_true
def zc_p5 (l : List (Nat × Nat)) : Bool := match l with
  | a :: b :: c :: _ => if a = (1, 5) then decide (b = (2, 12)) && decide (c = (2, 120)) else true
  | a :: _ => !decide (a = (1, 5))
  | [] => true
theorem zc_l5 {r : Nat} (h : zv_lay r = (1, 5)) : zv_lay (r + 1) = (2, 12) ∧ zv_lay (r + 2) = (2, 120) := by
  obtain ⟨l, h1, h2⟩ := zc_allW (fun _ l => zc_p5 l) (by decide +kernel) (zc_ly h)
  have h2 : zc_p5 (zv_lay r :: l) = true := h2
  rw [h] at h2
  have d1 := (zc_dr h1).2
  cases l with
  | nil => cases h2
  | cons b l =>
    cases l with
    | nil => cases h2
    | cons c l =>
      obtain ⟨e1, d2⟩ := zc_dr d1
      obtain ⟨e2, -⟩ := zc_dr d2
      have h2 : (decide (b = (2, 12)) && decide (c = (2, 120))) = true := h2
      rw [Bool.and_eq_true] at h2
      exact ⟨e1.trans (of_decide_eq_true h2.1), e2.trans (of_decide_eq_true h2.2)⟩
/-- a State is one of the 48 of its half -/
def zc_ix (r : Nat) : Nat := if r = zc_hf r + 1 then 0 else (r - zc_hf r - 25) / 3
theorem zc_l5i {r : Nat} (h : zv_lay r = (1, 5)) : ∃ i, i < 48 ∧ r = zc_stt (zc_hf r) i := by
  have := zc_all (fun r a => if a = (1, 5) then Nat.ble (zc_ix r) 47 && Nat.beq r (zc_stt (zc_hf r) (zc_ix r)) else true) (by decide +kernel) (zc_ly h)
  rw [if_pos h, Bool.and_eq_true] at this
  exact ⟨zc_ix r, Nat.lt_succ_of_le (Nat.le_of_ble_eq_true this.1), Nat.eq_of_beq_eq_true this.2⟩
theorem zc_stl {a i : Nat} (ha : zv_lay a = (1, 0)) (hi : i < 48) : zv_lay (zc_stt a i) = (1, 5) ∧ zc_hf (zc_stt a i) = a ∧ zc_hf a = a := by
  have e : ((List.range 48).all fun i => decide (zv_lay (zc_stt 9 i) = (1, 5) ∧ zc_hf (zc_stt 9 i) = 9 ∧ zc_hf 9 = 9) && decide (zv_lay (zc_stt 178 i) = (1, 5) ∧ zc_hf (zc_stt 178 i) = 178 ∧ zc_hf 178 = 178)) = true := by decide +kernel
  have e1 := List.all_eq_true.mp e i (List.mem_range.mpr hi)
  rw [Bool.and_eq_true] at e1
  cases zc_lh ha with
  | inl q => subst q; exact of_decide_eq_true e1.1
  | inr q => subst q; exact of_decide_eq_true e1.2
theorem zc_hl (r : Nat) : zv_lay (zc_hf r) = (1, 0) := by
  unfold zc_hf
  by_cases h : r < 178
  · rw [if_pos h]; rfl
  · rw [if_neg h]; rfl
theorem zc_stinj {a i j : Nat} (ha : zv_lay a = (1, 0)) (e : zc_stt a i = zc_stt a j) : i = j := by
  have := zc_lh ha
  unfold zc_stt at e
  by_cases h1 : i = 0
  · rw [if_pos h1] at e
    by_cases h2 : j = 0
    · omega
    · rw [if_neg h2] at e
      omega
  · rw [if_neg h1] at e
    by_cases h2 : j = 0
    · rw [if_pos h2] at e
      omega
    · rw [if_neg h2] at e
      omega
/-! reading -/
theorem zc_n {h : zv_H} (hB : zc_B h) {r : Nat} (hr : ¬ (zv_lay r).1 = 0) : r ≤ zv_n h := by
  rw [hB.1]
  exact Nat.le_of_lt_succ (zv_lay_lt hr)
theorem zc_ob {h : zv_H} (hA : zc_A h) {r c : Nat} (hr : zv_lay r = (1, c)) : zv_ob h r c := ⟨zc_n hA.1 (zc_ly hr), hr⟩
theorem zc_gI {h : zv_H} (hA : zc_A h) {r c : Nat} (hr : zv_lay r = (1, c)) (k : Nat) : zv_gI h r c k = some (zv_I h r k) := if_pos (zc_ob hA hr)
theorem zc_gJ {h : zv_H} (hA : zc_A h) {r c : Nat} (hr : zv_lay r = (1, c)) (k : Nat) : zv_gJ h r c k = some (zv_J h r k) := if_pos (zc_ob hA hr)
theorem zc_gR {h : zv_H} (hA : zc_A h) {r c : Nat} (hr : zv_lay r = (1, c)) (k : Nat) : zv_gR h r c k = some (zv_R h r k) := if_pos (zc_ob hA hr)
/-- a final field -/
theorem zc_gF {h : zv_H} (hA : zc_A h) {r c : Nat} (hr : zv_lay r = (1, c)) (k v : Nat) (hv : zc_off c k = v) (h0 : v ≠ 0) : zv_gR h r c k = some (r + v) := by
  rw [zc_gR hA hr, hA.1.2.1 r k (by rw [hr]) (by rw [hr]; dsimp only; rw [hv]; exact h0), hr, hv]
theorem zc_rg {h : zv_H} (hA : zc_A h) {r : Nat} (hr : r < 347) (k : Nat) : zv_rg (zv_I h r k) := hA.1.2.2.2.2.1 r k hr
/-! keeping -/
theorem zc_ch_q {h h' : zv_H} (f : zc_q h h') (r n : Nat) (hn : n ≤ 48) : zc_ch h' r n = zc_ch h r n := by
  induction n with
  | zero => rfl
  | succ n ih =>
    have hl := (zc_stl (zc_hl r) (show n < 48 by omega)).1
    have e : zv_R h' (zc_stt (zc_hf r) n) 4 = zv_R h (zc_stt (zc_hf r) n) 4 := congrFun (f.2.2.2.1 _ (fun e => by rw [e] at hl; cases hl) (fun e => by rw [e] at hl; cases hl)) 4
    show zc_ch h' r n + (if zv_R h' (zc_stt (zc_hf r) n) 4 = r then 1 else 0) = zc_ch h r n + (if zv_R h (zc_stt (zc_hf r) n) 4 = r then 1 else 0)
    rw [ih (by omega), e]
theorem zc_sR_q {h h' : zv_H} (f : zc_q h h') {r : Nat} (hl : zv_lay r = (1, 5)) (k : Nat) : zv_R h' r k = zv_R h r k := congrFun (f.2.2.2.1 _ (fun e => by rw [e] at hl; cases hl) (fun e => by rw [e] at hl; cases hl)) k
theorem zc_T_q {h h' : zv_H} (f : zc_q h h') (hT : zc_T h) : zc_T h' := by
  refine ⟨fun r hr => ?_, fun a ha => ?_⟩
  · have i1 := f.2.2.2.2.1 r hr
    have t := hT.1 r hr
    unfold zc_t
    rw [i1.2.1, i1.2.2.1, i1.2.2.2, zc_sR_q f hr 4, zc_sR_q f hr 5, zc_ch_q f r 48 (Nat.le_refl _)]
    cases t with
    | inl t => exact Or.inl t
    | inr t =>
      refine Or.inr ⟨t.1, t.2.1, ?_, ?_, t.2.2.2.2⟩
      · cases t.2.2.1 with
        | inl u => exact Or.inl u
        | inr u =>
          refine Or.inr ⟨u.1, ?_, u.2.2.1, ?_⟩
          · rw [(f.2.2.2.2.1 _ u.1).2.1]; exact u.2.1
          · rw [(f.2.2.2.2.1 _ u.1).2.2.1]; exact u.2.2.2
      · cases t.2.2.2.1 with
        | inl u => exact Or.inl u
        | inr u =>
          refine Or.inr ⟨u.1, ?_⟩
          cases t.2.2.1 with
          | inl w => exact absurd w.1 u.1
          | inr w => rw [zc_sR_q f w.1 5]; exact u.2
  · have t := hT.2 a ha
    have e : zv_R h' a 10 = zv_R h a 10 := congrFun (f.2.2.2.1 _ (fun e => by rw [e] at ha; cases ha) (fun e => by rw [e] at ha; cases ha)) 10
    rw [e]
    exact ⟨t.1, by rw [(f.2.2.2.2.1 _ t.1).2.1]; exact t.2.1, t.2.2⟩
/-- a cell that a quiet call may write -/
def zc_fr (r k : Nat) : Prop := r < 347 ∧ (zv_lay r = (1, 5) → k ≠ 0 ∧ k ≠ 3 ∧ k ≠ 10 ∧ k ≠ 11) ∧ (∀ c, zv_lay r = (1, c) → zc_bd c k = none) ∧ (zv_lay r = (1, 3) → k ≠ 2)
theorem zc_sI1 (h : zv_H) (r k : Nat) (v : Int) {a b : Nat} (hn : ¬ (a = r ∧ b = k)) : zv_I (zv_sI h r k v) a b = zv_I h a b := if_neg hn
theorem zc_sI2 (h : zv_H) (r k : Nat) (v : Int) : zv_I (zv_sI h r k v) r k = v := if_pos ⟨rfl, rfl⟩
/-- writing an int that keeps what holds -/
theorem zc_BI {h : zv_H} (hB : zc_B h) {r k : Nat} {v : Int} (hv : zv_rg v) (h5 : zv_lay r = (1, 5) → k ≠ 0) (h4 : ∀ c m, zv_lay r = (1, c) → zc_bd c k = some m → 0 ≤ v ∧ v ≤ m) : zc_B (zv_sI h r k v) := by
  obtain ⟨b1, b2, b3, b4, b5, b6, b7, b8⟩ := hB
  refine ⟨b1, b2, b3, b4, fun a b hab => ?_, fun a c b m ha hb => ?_, b7, fun a i ha hi => ?_⟩
  · by_cases e : a = r ∧ b = k
    · rw [e.1, e.2, zc_sI2]; exact hv
    · rw [zc_sI1 _ _ _ _ e]; exact b5 a b hab
  · by_cases e : a = r ∧ b = k
    · rw [e.1, e.2, zc_sI2]; exact h4 c m (e.1 ▸ ha) (e.2 ▸ hb)
    · rw [zc_sI1 _ _ _ _ e]; exact b6 a c b m ha hb
  · refine Eq.trans (zc_sI1 h r k v (fun e => h5 (by rw [← e.1]; exact (zc_stl ha hi).1) e.2.symm)) ?_
    exact b8 a i ha hi
theorem zc_QI {h : zv_H} (hA : zc_A h) {r k : Nat} {v : Int} (hf : zc_fr r k) (hv : zv_rg v) : zc_Q h (zv_sI h r k v) := by
  have q : zc_q h (zv_sI h r k v) := by
    refine ⟨rfl, rfl, fun a ha => ⟨?_, rfl⟩, fun _ _ _ => rfl, fun a ha => ⟨?_, ?_, ?_, ?_⟩, ?_⟩
    · funext b
      exact zc_sI1 h r k v (fun e => by have := hf.1; omega)
    · exact zc_sI1 h r k v (fun e => (hf.2.1 (e.1 ▸ ha)).1 e.2.symm)
    · exact zc_sI1 h r k v (fun e => (hf.2.1 (e.1 ▸ ha)).2.1 e.2.symm)
    · exact zc_sI1 h r k v (fun e => (hf.2.1 (e.1 ▸ ha)).2.2.1 e.2.symm)
    · exact zc_sI1 h r k v (fun e => (hf.2.1 (e.1 ▸ ha)).2.2.2 e.2.symm)
    · exact zc_sI1 h r k v (fun e => hf.2.2.2 (e.1 ▸ rfl) e.2.symm)
  exact ⟨q, zc_BI hA.1 hv (fun e => (hf.2.1 e).1) (fun c m e e1 => by rw [hf.2.2.1 c e] at e1; cases e1), zc_T_q q hA.2⟩
theorem zc_QJ {h : zv_H} (hA : zc_A h) {r k : Nat} {v : Int64} (hr : r < 347) : zc_Q h (zv_sJ h r k v) := by
  have q : zc_q h (zv_sJ h r k v) := by
    refine ⟨rfl, rfl, fun a ha => ⟨rfl, ?_⟩, fun _ _ _ => rfl, fun a ha => ⟨rfl, rfl, rfl, rfl⟩, rfl⟩
    funext b
    exact if_neg (fun e => by omega)
  exact ⟨q, hA.1, zc_T_q q hA.2⟩
/-- an entry of a path -/
theorem zc_QP {h : zv_H} (hA : zc_A h) {r k : Nat} {v : Nat} (hr : zv_lay r = (1, 4)) (hv : zv_lay v = (1, 5)) : zc_Q h (zv_sR h (r + 1) k v) := by
  have h1 := zc_l4 hr
  have q : zc_q h (zv_sR h (r + 1) k v) := by
    refine ⟨rfl, rfl, fun a ha => ⟨rfl, rfl⟩, fun a h2 h3 => ?_, fun a ha => ⟨rfl, rfl, rfl, rfl⟩, rfl⟩
    funext b
    exact if_neg (fun e => by omega)
  have ne : ∀ a b, ¬ (a = 18 ∨ a = 187) → zv_R (zv_sR h (r + 1) k v) a b = zv_R h a b := fun a b ha => if_neg (fun e => by omega)
  obtain ⟨b1, b2, b3, b4, b5, b6, b7, b8⟩ := hA.1
  refine ⟨q, ⟨b1, fun a b ha => ?_, fun a i ha hi => ?_, by rw [ne 1 3 (by omega), ne 1 4 (by omega)]; exact b4, b5, b6, fun a b ha => ?_, b8⟩, zc_T_q q hA.2⟩
  · rw [ne a b (fun e => by cases e with
      | inl e => rw [e] at ha; cases ha
      | inr e => rw [e] at ha; cases ha)]
    exact b2 a b ha
  · rw [ne (a + 4) i (fun e => by have := zc_lh ha; omega)]
    exact b3 a i ha hi
  · by_cases e : a + 1 = r + 1 ∧ b = k
    · refine Or.inr ?_
      have : zv_R (zv_sR h (r + 1) k v) (a + 1) b = v := if_pos e
      rw [this]; exact hv
    · have : zv_R (zv_sR h (r + 1) k v) (a + 1) b = zv_R h (a + 1) b := if_neg e
      rw [this]; exact b7 a b ha
/-- arrays -/
theorem zc_frA {r k c n : Nat} (hr : zv_lay r = (c + 2, n)) (h3 : r < 347) : zc_fr r k := ⟨h3, fun e => (by rw [e] at hr; cases hr), fun c e => (by rw [e] at hr; cases hr), fun e => (by rw [e] at hr; cases hr)⟩
theorem zc_frO {r k c : Nat} (hr : zv_lay r = (1, c)) (h3 : r < 347) (hc : c ≠ 5 ∨ (k ≠ 0 ∧ k ≠ 3 ∧ k ≠ 10 ∧ k ≠ 11)) (hd : zc_bd c k = none) (he : c ≠ 3 ∨ k ≠ 2) : zc_fr r k := by
  refine ⟨h3, fun e => ?_, fun c1 e => ?_, fun e => ?_⟩
  · rw [hr] at e; cases e; exact hc.resolve_left (fun q => q rfl)
  · rw [hr] at e; cases e; exact hd
  · rw [hr] at e; cases e; exact he.resolve_left (fun q => q rfl)
