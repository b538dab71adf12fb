/-! ===== the class: one step, and what it leaves ===== -/
def zc_V (h : zv_H) (s : Nat) : Prop := zv_lay s = (1, 5) ∧ zv_I h s 3 = 1
theorem zc_Vq {h h' : zv_H} (f : zc_q h h') {s : Nat} (v : zc_V h s) : zc_V h' s := ⟨v.1, by rw [(f.2.2.2.2.1 s v.1).2.1]; exact v.2⟩
theorem zc_Vb {h h' : zv_H} (f : zc_q h h') {s : Nat} (v : zc_V h' s) : zc_V h s := ⟨v.1, by rw [← (f.2.2.2.2.1 s v.1).2.1]; exact v.2⟩
theorem zc_w (x : Int) : zv_rg (zv_w x) := by unfold zv_rg zv_w; omega
theorem zc_lt {r c : Nat} {h : zv_H} (hr : zv_lay r = (1, c)) (hc : c < 9) : r < 347 := by
  have := zc_all (fun r => if Nat.ble 347 r then decide ((zv_lay r).1 ≠ 1 ∨ (zv_lay r).2 = 9) else true) (by decide +kernel) (zc_ly hr)
  by_cases q : Nat.ble 347 r = true
  · rw [if_pos q] at this
    have := of_decide_eq_true this
    rw [hr] at this
    dsimp only at this
    omega
  · have : ¬ 347 ≤ r := fun e => q (Nat.ble_eq.mpr e)
    omega
section
variable {α : Type} {h0 h : zv_H} {P : α → Prop}
theorem zc_rI (F : zc_Q h0 h) {r c k : Nat} (hr : zv_lay r = (1, c)) {g : Int → Option α} (n : ∀ v, v = zv_I h r k → zv_rg v → zm_R (g v) P) : zm_R ((zv_gI h r c k).bind g) P := by
  rw [zm_e (zc_gI F.2 hr k)]
  exact n _ rfl (zc_rg F.2 r k)
/-- number, there, depth, children of a State: as at the start -/
theorem zc_rT (F : zc_Q h0 h) {r k : Nat} (hr : zv_lay r = (1, 5)) {g : Int → Option α} (n : ∀ v, v = zv_I h0 r k → zv_rg v → zm_R (g v) P) (hk : k = 0 ∨ k = 3 ∨ k = 10 ∨ k = 11 := by decide) : zm_R ((zv_gI h r 5 k).bind g) P := by
  rw [zm_e (zc_gI F.2 hr k)]
  have i1 := F.1.2.2.2.2.1 r hr
  refine n _ ?_ (zc_rg F.2 r k)
  rcases hk with e | e | e | e
  · subst e; exact i1.1
  · subst e; exact i1.2.1
  · subst e; exact i1.2.2.1
  · subst e; exact i1.2.2.2
theorem zc_rJ (F : zc_Q h0 h) {r c k : Nat} (hr : zv_lay r = (1, c)) {g : Int64 → Option α} (n : ∀ v, zm_R (g v) P) : zm_R ((zv_gJ h r c k).bind g) P := by
  rw [zm_e (zc_gJ F.2 hr k)]
  exact n _
theorem zc_rF (F : zc_Q h0 h) {r c k : Nat} (v : Nat) (hr : zv_lay r = (1, c)) {g : Nat → Option α} (n : zm_R (g (r + (v + 1))) P) (hv : zc_off c k = v + 1 := by rfl) : zm_R ((zv_gR h r c k).bind g) P := by
  rw [zm_e (zc_gF F.2 hr k v hv)]
  exact n
theorem zc_rR (F : zc_Q h0 h) {r c k : Nat} (hr : zv_lay r = (1, c)) {g : Nat → Option α} (n : ∀ v, v = zv_R h r k → zm_R (g v) P) : zm_R ((zv_gR h r c k).bind g) P := by
  rw [zm_e (zc_gR F.2 hr k)]
  exact n _ rfl
theorem zc_dep (F : zc_Q h0 h) {s : Nat} (hV : zc_V h0 s) : 0 ≤ zv_I h0 s 10 ∧ (zv_R h s 4 = 0 ∨ (zc_V h0 (zv_R h s 4) ∧ zc_hf (zv_R h s 4) = zc_hf s ∧ zv_I h0 (zv_R h s 4) 10 + 1 = zv_I h0 s 10)) := by
  have t := F.2.2.1 s hV.1
  have e := F.1.2.2.2.2.1 s hV.1
  have v := zc_Vq F.1 hV
  cases t with
  | inl t => exact absurd t.1 (by rw [v.2]; decide)
  | inr t =>
    refine ⟨by rw [← e.2.2.1]; exact t.2.1, ?_⟩
    cases t.2.2.1 with
    | inl u => exact Or.inl u.1
    | inr u =>
      refine Or.inr ⟨zc_Vb F.1 ⟨u.1, u.2.1⟩, u.2.2.1, ?_⟩
      rw [← e.2.2.1, ← u.2.2.2, (F.1.2.2.2.2.1 _ u.1).2.2.1]
/-- the parent of a State that is there -/
theorem zc_rP (F : zc_Q h0 h) {s : Nat} (hV : zc_V h0 s) {g : Nat → Option α} (n0 : zm_R (g 0) P) (n : ∀ v, zc_V h0 v → zc_hf v = zc_hf s → zv_I h0 v 10 + 1 = zv_I h0 s 10 → zm_R (g v) P) : zm_R ((zv_gR h s 5 4).bind g) P := by
  rw [zm_e (zc_gR F.2 hV.1 4)]
  cases (zc_dep F hV).2 with
  | inl u => rw [u]; exact n0
  | inr u => exact n _ u.1 u.2.1 u.2.2
theorem zc_rA (F : zc_Q h0 h) {r n0 : Nat} {j : Int} (hr : zv_lay r = (2, n0)) (j0 : 0 ≤ j) (j1 : j < n0) {g : Int → Option α} (n : ∀ v, zv_rg v → zm_R (g v) P) : zm_R ((zv_aI h r j).bind g) P := by
  have h1 := zv_lay_lt (zc_ly hr)
  have e : zv_aI h r j = some (zv_I h r j.toNat) := by
    unfold zv_aI
    rw [if_neg (show ¬ r = 2000000 by omega), if_pos ⟨zc_n F.2.1 (zc_ly hr), by rw [hr], j0, by rw [hr]; exact j1⟩]
  rw [zm_e e]
  exact n _ (zc_rg F.2 r _)
theorem zc_rB (F : zc_Q h0 h) {r n0 : Nat} {j : Int} (hr : zv_lay r = (3, n0)) (j0 : 0 ≤ j) (j1 : j < n0) {g : Int → Option α} (n : ∀ v, zv_rg v → zm_R (g v) P) : zm_R ((zv_aB h r j).bind g) P := by
  have h1 := zv_lay_lt (zc_ly hr)
  have e : zv_aB h r j = some (zv_I h r j.toNat) := by
    unfold zv_aB
    rw [if_neg (by omega), if_pos ⟨zc_n F.2.1 (zc_ly hr), by rw [hr]; exact Or.inl rfl, j0, by rw [hr]; exact j1⟩]
  rw [zm_e e]
  exact n _ (zc_rg F.2 r _)
/-- the States of a History -/
theorem zc_rS (F : zc_Q h0 h) {a : Nat} {j : Int} (ha : zv_lay a = (1, 0)) (j0 : 0 ≤ j) (j1 : j < 48) {g : Nat → Option α} (n : ∀ v, zv_lay v = (1, 5) → zc_hf v = a → v = zc_stt a j.toNat → zv_I h0 v 0 = j → zm_R (g v) P) : zm_R ((zv_aR h (a + 4) j).bind g) P := by
  have hl : zv_lay (a + 4) = (6, 48) := by cases zc_lh ha with
    | inl e => rw [e]; rfl
    | inr e => rw [e]; rfl
  have e : zv_aR h (a + 4) j = some (zc_stt a j.toNat) := by
    unfold zv_aR
    rw [if_pos ⟨zc_n F.2.1 (zc_ly hl), by rw [hl], j0, by rw [hl]; exact j1⟩, F.2.1.2.2.1 a j.toNat ha (by omega)]
  rw [zm_e e]
  have s := zc_stl ha (show j.toNat < 48 by omega)
  refine n _ s.1 s.2.1 rfl ?_
  rw [← (F.1.2.2.2.2.1 _ s.1).1]
  exact (F.2.1.2.2.2.2.2.2.2 a j.toNat ha (by omega)).trans (Int.toNat_of_nonneg j0)
/-- the path of a Row -/
theorem zc_rQ (F : zc_Q h0 h) {r : Nat} {j : Int} (hr : zv_lay r = (1, 4)) (j0 : 0 ≤ j) (j1 : j < 48) {g : Nat → Option α} (n0 : zm_R (g 0) P) (n : ∀ v, zv_lay v = (1, 5) → zm_R (g v) P) : zm_R ((zv_aR h (r + 1) j).bind g) P := by
  have hl : zv_lay (r + 1) = (6, 48) := by cases zc_l4 hr with
    | inl e => rw [e]; rfl
    | inr e => rw [e]; rfl
  have e : zv_aR h (r + 1) j = some (zv_R h (r + 1) j.toNat) := by
    unfold zv_aR
    rw [if_pos ⟨zc_n F.2.1 (zc_ly hl), by rw [hl], j0, by rw [hl]; exact j1⟩]
  rw [zm_e e]
  cases F.2.1.2.2.2.2.2.2.1 r j.toNat hr with
  | inl q => rw [q]; exact n0
  | inr q => exact n _ q
theorem zc_wO (F : zc_Q h0 h) {r c k : Nat} {v : Int} (hr : zv_lay r = (1, c)) (hf : zc_fr r k) (hv : zv_rg v) {g : zv_H → Option α} (n : ∀ h', zc_Q h0 h' → zm_R (g h') P) : zm_R ((zv_pI h r c k v).bind g) P := by
  have e : zv_pI h r c k v = some (zv_sI h r k v) := if_pos (zc_ob F.2 hr)
  rw [zm_e e]
  exact n _ (zc_Q_t F (zc_QI F.2 hf hv))
theorem zc_wJ (F : zc_Q h0 h) {r c k : Nat} {v : Int64} (hr : zv_lay r = (1, c)) (hc : r < 347) {g : zv_H → Option α} (n : ∀ h', zc_Q h0 h' → zm_R (g h') P) : zm_R ((zv_pJ h r c k v).bind g) P := by
  have e : zv_pJ h r c k v = some (zv_sJ h r k v) := if_pos (zc_ob F.2 hr)
  rw [zm_e e]
  exact n _ (zc_Q_t F (zc_QJ F.2 hc))
theorem zc_wA (F : zc_Q h0 h) {r n0 : Nat} {j v : Int} (hr : zv_lay r = (2, n0)) (hc : r < 347) (j0 : 0 ≤ j) (j1 : j < n0) (hv : zv_rg v) {g : zv_H → Option α} (n : ∀ h', zc_Q h0 h' → zm_R (g h') P) : zm_R ((zv_wI h r j v).bind g) P := by
  have e : zv_wI h r j v = some (zv_sI h r j.toNat v) := by
    unfold zv_wI
    rw [if_pos ⟨zc_n F.2.1 (zc_ly hr), by rw [hr], j0, by rw [hr]; exact j1⟩]
  rw [zm_e e]
  exact n _ (zc_Q_t F (zc_QI F.2 (zc_frA (c := 0) hr hc) hv))
theorem zc_wB (F : zc_Q h0 h) {r n0 : Nat} {j v : Int} (hr : zv_lay r = (3, n0)) (hc : r < 347) (j0 : 0 ≤ j) (j1 : j < n0) {g : zv_H → Option α} (n : ∀ h', zc_Q h0 h' → zm_R (g h') P) : zm_R ((zv_wB h r j v).bind g) P := by
  have e : zv_wB h r j v = some (zv_sI h r j.toNat (zv_nz v)) := by
    unfold zv_wB
    rw [if_pos ⟨zc_n F.2.1 (zc_ly hr), by rw [hr]; exact Or.inl rfl, j0, by rw [hr]; exact j1⟩, if_pos (by rw [hr])]
  rw [zm_e e]
  exact n _ (zc_Q_t F (zc_QI F.2 (zc_frA (c := 1) hr hc) (by unfold zv_rg zv_nz; omega)))
theorem zc_wP (F : zc_Q h0 h) {r : Nat} {j : Int} {v : Nat} (hr : zv_lay r = (1, 4)) (j0 : 0 ≤ j) (j1 : j < 48) (hv : zv_lay v = (1, 5)) {g : zv_H → Option α} (n : ∀ h', zc_Q h0 h' → zm_R (g h') P) : zm_R ((zv_wR h (r + 1) j v).bind g) P := by
  have hl : zv_lay (r + 1) = (6, 48) := by cases zc_l4 hr with
    | inl e => rw [e]; rfl
    | inr e => rw [e]; rfl
  have e : zv_wR h (r + 1) j v = some (zv_sR h (r + 1) j.toNat v) := by
    unfold zv_wR
    rw [if_pos ⟨⟨zc_n F.2.1 (zc_ly hl), by rw [hl], j0, by rw [hl]; exact j1⟩, Or.inr ⟨zc_n F.2.1 (zc_ly hv), hv⟩⟩]
  rw [zm_e e]
  exact n _ (zc_Q_t F (zc_QP F.2 hr hv))
/-- the length of a Row -/
theorem zc_wL (F : zc_Q h0 h) {r : Nat} {v : Int} (hr : zv_lay r = (1, 4)) (hv : 0 ≤ v ∧ v ≤ 48) {g : zv_H → Option α} (n : ∀ h', zc_Q h0 h' → zm_R (g h') P) : zm_R ((zv_pI h r 4 5 v).bind g) P := by
  have h4 := zc_l4 hr
  have e : zv_pI h r 4 5 v = some (zv_sI h r 5 v) := if_pos (zc_ob F.2 hr)
  have ne : ∀ c, c ≠ 4 → ∀ a, zv_lay a = (1, c) → a ≠ r := fun c hc a ha e => by
    subst e
    rw [hr] at ha
    cases ha
    exact hc rfl
  rw [zm_e e]
  have q : zc_q h (zv_sI h r 5 v) := by
    refine ⟨rfl, rfl, fun a ha => ⟨?_, rfl⟩, fun _ _ _ => rfl, fun a ha => ?_, ?_⟩
    · funext b
      exact zc_sI1 h r 5 v (fun e => by omega)
    · exact ⟨zc_sI1 h r 5 v (fun e => ne 5 (by decide) a ha e.1), zc_sI1 h r 5 v (fun e => ne 5 (by decide) a ha e.1), zc_sI1 h r 5 v (fun e => ne 5 (by decide) a ha e.1), zc_sI1 h r 5 v (fun e => ne 5 (by decide) a ha e.1)⟩
    · exact zc_sI1 h r 5 v (fun e => by omega)
  exact n _ (zc_Q_t F ⟨q, zc_BI F.2.1 (by unfold zv_rg; omega) (fun e1 => absurd rfl (ne 5 (by decide) r e1)) (fun _ _ => hv), zc_T_q q F.2.2⟩)
/-- calls -/
theorem zc_cI {h0 h : zv_H} (F : zc_Q h0 h) {o : Option (Int × zv_H)} {K : Int → Prop} (e : zm_R o (fun q => zc_Q h q.2 ∧ zv_rg q.1 ∧ K q.1)) {g : Int × zv_H → Option α} (n : ∀ v h', zc_Q h0 h' → zv_rg v → K v → zm_R (g (v, h')) P) : zm_R (o.bind g) P := by
  obtain ⟨⟨v, h'⟩, rfl, a, b, c⟩ := e
  exact n v h' (zc_Q_t F a) b c
theorem zc_cJ {h0 h : zv_H} (F : zc_Q h0 h) {o : Option (Int64 × zv_H)} (e : zm_R o (fun q => zc_Q h q.2)) {g : Int64 × zv_H → Option α} (n : ∀ v h', zc_Q h0 h' → zm_R (g (v, h')) P) : zm_R (o.bind g) P := by
  obtain ⟨⟨v, h'⟩, rfl, a⟩ := e
  exact n v h' (zc_Q_t F a)
theorem zc_cN {h0 h : zv_H} (F : zc_Q h0 h) {o : Option (Nat × zv_H)} {K : Nat → Prop} (e : zm_R o (fun q => zc_Q h q.2 ∧ K q.1)) {g : Nat × zv_H → Option α} (n : ∀ v h', zc_Q h0 h' → K v → zm_R (g (v, h')) P) : zm_R (o.bind g) P := by
  obtain ⟨⟨v, h'⟩, rfl, a, b⟩ := e
  exact n v h' (zc_Q_t F a) b
theorem zc_cV {h0 h : zv_H} (F : zc_Q h0 h) {o : Option zv_H} (e : zm_R o (fun q => zc_Q h q)) {g : zv_H → Option α} (n : ∀ h', zc_Q h0 h' → zm_R (g h') P) : zm_R (o.bind g) P := by
  obtain ⟨h', rfl, a⟩ := e
  exact n h' (zc_Q_t F a)
end
