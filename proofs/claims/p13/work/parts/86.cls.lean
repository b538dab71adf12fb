/-! 86.cls -/
section
/-! ===== the class: one step, and what it leaves ===== -/
def zc_V (h : zv_H) (s : Nat) : Prop := zv_lay s = (1, 5) ∧ zv_I h s 3 = 1
theorem zc_Vq {h h' : zv_H} (f : zc_q h h') {s : Nat} (v : zc_V h s) : zc_V h' s := ⟨v.1, by rw [(f.2.2.2.2.1 s v.1).2.1]; exact v.2⟩
theorem zc_Vb {h h' : zv_H} (f : zc_q h h') {s : Nat} (v : zc_V h' s) : zc_V h s := ⟨v.1, by rw [← (f.2.2.2.2.1 s v.1).2.1]; exact v.2⟩
theorem zc_w (x : Int) : zv_rg (zv_w x) := by unfold zv_rg zv_w; omega
theorem zc_lt {r c : Nat} (hr : zv_lay r = (1, c)) (hc : c < 9) : r < 347 := by
  have := zc_all (fun r a => if Nat.ble 347 r then decide ((a).1 ≠ 1 ∨ (a).2 = 9) else true) (by decide +kernel) (zc_ly hr)
  by_cases q : Nat.ble 347 r = true
  · rw [if_pos q] at this
    have := of_decide_eq_true this
    rw [hr] at this
    dsimp only at this
    omega
  · have : ¬ 347 ≤ r := fun e => q (Nat.ble_eq.mpr e)
    omega
section
variable {α : Type} {h0 h : zv_H} {P : α → Prop}
theorem zc_rI (F : zc_Q h0 h) {r c k : Nat} (hr : zv_lay r = (1, c)) {g : Int → Option α} (n : ∀ v, v = zv_I h r k → zv_rg v → zm_R (g v) P) (hc : c < 9 := by decide) : zm_R ((zv_gI h r c k).bind g) P := by
  rw [zm_e (zc_gI F.2 hr k)]
  exact n _ rfl (zc_rg F.2 (zc_lt hr hc) k)
/-- number, there, depth, children of a State: as at the start -/
theorem zc_rT (F : zc_Q h0 h) {r k : Nat} (hr : zv_lay r = (1, 5)) {g : Int → Option α} (n : ∀ v, v = zv_I h0 r k → zv_rg v → zm_R (g v) P) (hk : k = 0 ∨ k = 3 ∨ k = 10 ∨ k = 11 := by decide) : zm_R ((zv_gI h r 5 k).bind g) P := by
  rw [zm_e (zc_gI F.2 hr k)]
  have i1 := F.1.2.2.2.2.1 r hr
  refine n _ ?_ (zc_rg F.2 (zc_lt hr (by decide)) k)
  rcases hk with e | e | e | e
  · subst e; exact i1.1
  · subst e; exact i1.2.1
  · subst e; exact i1.2.2.1
  · subst e; exact i1.2.2.2
theorem zc_rJ (F : zc_Q h0 h) {r c k : Nat} (hr : zv_lay r = (1, c)) {g : Int64 → Option α} (n : ∀ v, zm_R (g v) P) : zm_R ((zv_gJ h r c k).bind g) P := by
  rw [zm_e (zc_gJ F.2 hr k)]
  exact n _
theorem zc_rF (F : zc_Q h0 h) {r c k : Nat} (o : Nat) (hr : zv_lay r = (1, c)) {g : Nat → Option α} (n : zm_R (g (r + o)) P) (hv : zc_off c k = o := by rfl) (ho : o ≠ 0 := by decide) : zm_R ((zv_gR h r c k).bind g) P := by
  rw [zm_e (zc_gF F.2 hr k o hv ho)]
  exact n
theorem zc_rR (F : zc_Q h0 h) {r c k : Nat} (hr : zv_lay r = (1, c)) {g : Nat → Option α} (n : ∀ v, v = zv_R h r k → zm_R (g v) P) : zm_R ((zv_gR h r c k).bind g) P := by
  rw [zm_e (zc_gR F.2 hr k)]
  exact n _ rfl
theorem zc_dep (F : zc_Q h0 h) {s : Nat} (hV : zc_V h0 s) : (0 ≤ zv_I h0 s 10 ∧ zv_I h0 s 10 ≤ 47) ∧ (zv_R h s 4 = 0 ∨ (zc_V h0 (zv_R h s 4) ∧ zc_hf (zv_R h s 4) = zc_hf s ∧ zv_I h0 (zv_R h s 4) 10 + 1 = zv_I h0 s 10)) := by
  have t := F.2.2.1 s hV.1
  have e := F.1.2.2.2.2.1 s hV.1
  have v := zc_Vq F.1 hV
  cases t with
  | inl t => exact absurd t.1 (by rw [v.2]; decide)
  | inr t =>
    refine ⟨by rw [← e.2.2.1]; exact t.2.1, ?_⟩
    cases t.2.2.1 with
    | inl u => exact Or.inl u.1
    | inr u =>
      refine Or.inr ⟨zc_Vb F.1 ⟨u.1, u.2.1⟩, u.2.2.1, ?_⟩
      rw [← e.2.2.1, ← u.2.2.2, (F.1.2.2.2.2.1 _ u.1).2.2.1]
/-- a ref of a State or of a History: as at the start -/
theorem zc_rR5 (F : zc_Q h0 h) {r k : Nat} (hr : zv_lay r = (1, 5)) {g : Nat → Option α} (n : zm_R (g (zv_R h0 r k)) P) : zm_R ((zv_gR h r 5 k).bind g) P := by
  rw [zm_e (zc_gR F.2 hr k), zc_sR_q F.1 hr k]
  exact n
theorem zc_rRo (F : zc_Q h0 h) {r c k : Nat} (hr : zv_lay r = (1, c)) {g : Nat → Option α} (n : zm_R (g (zv_R h0 r k)) P) : zm_R ((zv_gR h r c k).bind g) P := by
  have e : zv_R h r k = zv_R h0 r k := congrFun (F.1.2.2.2.1 r (fun e => by rw [e] at hr; cases hr) (fun e => by rw [e] at hr; cases hr)) k
  rw [zm_e (zc_gR F.2 hr k), e]
  exact n
theorem zc_pV (F : zc_Q h0 h) {s : Nat} (hV : zc_V h0 s) : zv_R h0 s 4 = 0 ∨ zc_V h0 (zv_R h0 s 4) := by
  have t := (zc_dep F hV).2
  rw [zc_sR_q F.1 hV.1 4] at t
  exact t.imp id And.left
theorem zc_hV (F : zc_Q h0 h) {a : Nat} (ha : zv_lay a = (1, 0)) : zc_V h0 (zv_R h0 a 10) ∧ zc_hf (zv_R h0 a 10) = a := by
  have e : zv_R h a 10 = zv_R h0 a 10 := congrFun (F.1.2.2.2.1 a (fun e => by rw [e] at ha; cases ha) (fun e => by rw [e] at ha; cases ha)) 10
  have t := F.2.2.2 a ha
  rw [e] at t
  exact ⟨zc_Vb F.1 ⟨t.1, t.2.1⟩, t.2.2⟩
theorem zc_xH (F : zc_Q h0 h) : zv_lay (zv_R h0 1 3) = (1, 0) ∧ zv_lay (zv_R h0 1 4) = (1, 0) := by
  have e : ∀ k, zv_R h 1 k = zv_R h0 1 k := fun k => congrFun (F.1.2.2.2.1 1 (by decide) (by decide)) k
  have t := F.2.1.2.2.2.1
  rw [e, e] at t
  cases t with
  | inl t => rw [t.1, t.2]; exact ⟨rfl, rfl⟩
  | inr t => rw [t.1, t.2]; exact ⟨rfl, rfl⟩
/-- how far it is to walk up -/
noncomputable def zc_dm (h : zv_H) (s : Nat) : Nat := if s = 0 then 0 else (zv_I h s 10).toNat + 1
theorem zc_nz {s k c : Nat} (hs : zv_lay s = (k + 1, c)) : ¬ s = 0 := fun e => by
  rw [e, zv_lay0] at hs
  cases hs
theorem zc_dmP (F : zc_Q h0 h) {s : Nat} (hV : zc_V h0 s) : zc_dm h0 (zv_R h0 s 4) < zc_dm h0 s := by
  have t := zc_dep F hV
  rw [zc_sR_q F.1 hV.1 4] at t
  unfold zc_dm
  rw [if_neg (zc_nz hV.1)]
  cases t.2 with
  | inl u => rw [if_pos u]; omega
  | inr u =>
    have u1 := (zc_dep F u.1).1
    rw [if_neg (zc_nz u.1.1)]
    omega
/-- counters -/
theorem zc_up {x y : Int} (hx : zv_rg x) (hy : zv_rg y) (c : x < y) : (2147483647 - zv_w (x + 1)).toNat < (2147483647 - x).toNat := by
  unfold zv_rg at hx hy
  rw [zm_w (show -2147483648 ≤ x + 1 ∧ x + 1 < 2147483648 by omega)]
  omega
theorem zc_up1 {x y : Int} (hx : zv_rg x) (hy : zv_rg y) (c : x < y) : zv_w (x + 1) = x + 1 := by
  unfold zv_rg at hx hy
  exact zm_w (by omega)
theorem zc_dn {x : Int} (hx : zv_rg x) (c : ¬ x < 0) : (zv_w (x + (-1)) + 1).toNat < (x + 1).toNat := by
  unfold zv_rg at hx
  rw [zm_w (show -2147483648 ≤ x + (-1) ∧ x + (-1) < 2147483648 by omega)]
  omega
theorem zc_rA (F : zc_Q h0 h) {r n0 : Nat} {j : Int} (hr : zv_lay r = (2, n0)) (hl : r < 347) (j0 : 0 ≤ j) (j1 : j < n0) {g : Int → Option α} (n : ∀ v, zv_rg v → zm_R (g v) P) : zm_R ((zv_aI h r j).bind g) P := by
  have h1 := zv_lay_lt (zc_ly hr)
  have e : zv_aI h r j = some (zv_I h r j.toNat) := by
    unfold zv_aI
    rw [if_neg (show ¬ r = 2000000 by omega), if_pos ⟨zc_n F.2.1 (zc_ly hr), by rw [hr], j0, by rw [hr]; exact j1⟩]
  rw [zm_e e]
  exact n _ (zc_rg F.2 hl _)
theorem zc_rB (F : zc_Q h0 h) {r n0 : Nat} {j : Int} (hr : zv_lay r = (3, n0)) (hl : r < 347) (j0 : 0 ≤ j) (j1 : j < n0) {g : Int → Option α} (n : ∀ v, zv_rg v → zm_R (g v) P) : zm_R ((zv_aB h r j).bind g) P := by
  have h1 := zv_lay_lt (zc_ly hr)
  have e : zv_aB h r j = some (zv_I h r j.toNat) := by
    unfold zv_aB
    rw [if_neg (by omega), if_pos ⟨zc_n F.2.1 (zc_ly hr), by rw [hr]; exact Or.inl rfl, j0, by rw [hr]; exact j1⟩]
  rw [zm_e e]
  exact n _ (zc_rg F.2 hl _)
/-- the States of a History -/
theorem zc_rS (F : zc_Q h0 h) {a : Nat} {j : Int} (ha : zv_lay a = (1, 0)) (j0 : 0 ≤ j) (j1 : j < 48) {g : Nat → Option α} (n : ∀ v, zv_lay v = (1, 5) → zc_hf v = a → v = zc_stt a j.toNat → zv_I h0 v 0 = j → zm_R (g v) P) : zm_R ((zv_aR h (a + 4) j).bind g) P := by
  have hl : zv_lay (a + 4) = (6, 48) := by cases zc_lh ha with
    | inl e => rw [e]; rfl
    | inr e => rw [e]; rfl
  have e : zv_aR h (a + 4) j = some (zc_stt a j.toNat) := by
    unfold zv_aR
    rw [if_pos ⟨zc_n F.2.1 (zc_ly hl), by rw [hl], j0, by rw [hl]; exact j1⟩, F.2.1.2.2.1 a j.toNat ha (by omega)]
  rw [zm_e e]
  have s := zc_stl ha (show j.toNat < 48 by omega)
  refine n _ s.1 s.2.1 rfl ?_
  rw [← (F.1.2.2.2.2.1 _ s.1).1]
  exact (F.2.1.2.2.2.2.2.2.2 a j.toNat ha (by omega)).trans (Int.toNat_of_nonneg j0)
/-- the path of a Row -/
theorem zc_pa (F : zc_Q h0 h) {r : Nat} (hr : zv_lay r = (1, 4)) (k : Nat) : zv_R h (r + 1) k = 0 ∨ zv_lay (zv_R h (r + 1) k) = (1, 5) := F.2.1.2.2.2.2.2.2.1 r k hr
theorem zc_rQ (F : zc_Q h0 h) {r : Nat} {j : Int} (hr : zv_lay r = (1, 4)) (j0 : 0 ≤ j) (j1 : j < 48) {g : Nat → Option α} (n : zm_R (g (zv_R h (r + 1) j.toNat)) P) : zm_R ((zv_aR h (r + 1) j).bind g) P := by
  have hl : zv_lay (r + 1) = (6, 48) := by cases zc_l4 hr with
    | inl e => rw [e]; rfl
    | inr e => rw [e]; rfl
  have e : zv_aR h (r + 1) j = some (zv_R h (r + 1) j.toNat) := by
    unfold zv_aR
    rw [if_pos ⟨zc_n F.2.1 (zc_ly hl), by rw [hl], j0, by rw [hl]; exact j1⟩]
  rw [zm_e e]
  exact n
theorem zc_wO (F : zc_Q h0 h) {r c k : Nat} {v : Int} (hr : zv_lay r = (1, c)) (hf : zc_fr r k) (hv : zv_rg v) {g : zv_H → Option α} (n : ∀ h', zc_Q h0 h' → zm_R (g h') P) : zm_R ((zv_pI h r c k v).bind g) P := by
  have e : zv_pI h r c k v = some (zv_sI h r k v) := if_pos (zc_ob F.2 hr)
  rw [zm_e e]
  exact n _ (zc_Q_t F (zc_QI F.2 hf hv))
theorem zc_wJ (F : zc_Q h0 h) {r c k : Nat} {v : Int64} (hr : zv_lay r = (1, c)) (hc : r < 347) {g : zv_H → Option α} (n : ∀ h', zc_Q h0 h' → zm_R (g h') P) : zm_R ((zv_pJ h r c k v).bind g) P := by
  have e : zv_pJ h r c k v = some (zv_sJ h r k v) := if_pos (zc_ob F.2 hr)
  rw [zm_e e]
  exact n _ (zc_Q_t F (zc_QJ F.2 hc))
theorem zc_wA (F : zc_Q h0 h) {r n0 : Nat} {j v : Int} (hr : zv_lay r = (2, n0)) (hc : r < 347) (j0 : 0 ≤ j) (j1 : j < n0) (hv : zv_rg v) {g : zv_H → Option α} (n : ∀ h', zc_Q h0 h' → (∀ x k, (zv_lay x).1 = 1 → zv_I h' x k = zv_I h x k) → zm_R (g h') P) : zm_R ((zv_wI h r j v).bind g) P := by
  have e : zv_wI h r j v = some (zv_sI h r j.toNat v) := by
    unfold zv_wI
    rw [if_pos ⟨zc_n F.2.1 (zc_ly hr), by rw [hr], j0, by rw [hr]; exact j1⟩]
  rw [zm_e e]
  exact n _ (zc_Q_t F (zc_QI F.2 (zc_frA (c := 0) hr hc) hv)) (fun x k hx => zc_sI1 _ _ _ _ (fun e => by rw [e.1, hr] at hx; cases hx))
theorem zc_wB (F : zc_Q h0 h) {r n0 : Nat} {j v : Int} (hr : zv_lay r = (3, n0)) (hc : r < 347) (j0 : 0 ≤ j) (j1 : j < n0) {g : zv_H → Option α} (n : ∀ h', zc_Q h0 h' → (∀ x k, (zv_lay x).1 = 1 → zv_I h' x k = zv_I h x k) → zm_R (g h') P) : zm_R ((zv_wB h r j v).bind g) P := by
  have e : zv_wB h r j v = some (zv_sI h r j.toNat (zv_nz v)) := by
    unfold zv_wB
    rw [if_pos ⟨zc_n F.2.1 (zc_ly hr), by rw [hr]; exact Or.inl rfl, j0, by rw [hr]; exact j1⟩, if_pos (by rw [hr])]
  rw [zm_e e]
  exact n _ (zc_Q_t F (zc_QI F.2 (zc_frA (c := 1) hr hc) (by unfold zv_rg zv_nz; omega))) (fun x k hx => zc_sI1 _ _ _ _ (fun e => by rw [e.1, hr] at hx; cases hx))
theorem zc_wP (F : zc_Q h0 h) {r : Nat} {j : Int} {v : Nat} (hr : zv_lay r = (1, 4)) (j0 : 0 ≤ j) (j1 : j < 48) (hv : zv_lay v = (1, 5)) {g : zv_H → Option α} (n : ∀ h', zc_Q h0 h' → zm_R (g h') P) : zm_R ((zv_wR h (r + 1) j v).bind g) P := by
  have hl : zv_lay (r + 1) = (6, 48) := by cases zc_l4 hr with
    | inl e => rw [e]; rfl
    | inr e => rw [e]; rfl
  have e : zv_wR h (r + 1) j v = some (zv_sR h (r + 1) j.toNat v) := by
    unfold zv_wR
    rw [if_pos ⟨⟨zc_n F.2.1 (zc_ly hl), by rw [hl], j0, by rw [hl]; exact j1⟩, Or.inr ⟨zc_n F.2.1 (zc_ly hv), hv⟩⟩]
  rw [zm_e e]
  exact n _ (zc_Q_t F (zc_QP F.2 hr hv))
/-- an int of narrow bounds -/
theorem zc_bdv (F : zc_Q h0 h) {r c k : Nat} {m : Int} (hr : zv_lay r = (1, c)) (hm : zc_bd c k = some m) : 0 ≤ zv_I h r k ∧ zv_I h r k ≤ m := F.2.1.2.2.2.2.2.1 r c k m hr hm
theorem zc_wL (F : zc_Q h0 h) {r c k : Nat} {v m : Int} (hr : zv_lay r = (1, c)) (hm : zc_bd c k = some m) (h0v : 0 ≤ v) (hv : v ≤ m) {g : zv_H → Option α} (n : ∀ h', zc_Q h0 h' → zm_R (g h') P) (hc : zc_bd c k = some m → m < 2147483648 ∧ c < 9 ∧ (c = 5 → k ≠ 0 ∧ k ≠ 3 ∧ k ≠ 10 ∧ k ≠ 11) ∧ (c = 3 → k ≠ 2)) : zm_R ((zv_pI h r c k v).bind g) P := by
  have e : zv_pI h r c k v = some (zv_sI h r k v) := if_pos (zc_ob F.2 hr)
  obtain ⟨c1, c2, c3, c4⟩ := hc hm
  have hlt := zc_lt hr c2
  have ce : ∀ a c', zv_lay a = (1, c') → a = r → c' = c := fun a c' ha e => by
    subst e
    rw [hr] at ha
    cases ha
    rfl
  rw [zm_e e]
  have q : zc_q h (zv_sI h r k v) := by
    refine ⟨rfl, rfl, fun a ha => ⟨?_, rfl⟩, fun _ _ _ => rfl, fun a ha => ?_, ?_⟩
    · funext b
      exact zc_sI1 h r k v (fun e => by omega)
    · have ne : a = r → k ≠ 0 ∧ k ≠ 3 ∧ k ≠ 10 ∧ k ≠ 11 := fun e => c3 (ce a 5 ha e).symm
      exact ⟨zc_sI1 h r k v (fun e => (ne e.1).1 e.2.symm), zc_sI1 h r k v (fun e => (ne e.1).2.1 e.2.symm), zc_sI1 h r k v (fun e => (ne e.1).2.2.1 e.2.symm), zc_sI1 h r k v (fun e => (ne e.1).2.2.2 e.2.symm)⟩
    · exact zc_sI1 h r k v (fun e => c4 (ce 5 3 rfl e.1).symm e.2.symm)
  refine n _ (zc_Q_t F ⟨q, zc_BI F.2.1 (by unfold zv_rg; omega) (fun e1 => (c3 (ce r 5 e1 rfl).symm).1) (fun c' m' e1 e2 => ?_), zc_T_q q F.2.2⟩)
  rw [ce r c' e1 rfl, hm] at e2
  cases e2
  exact ⟨h0v, hv⟩
/-- calls -/
theorem zc_cI {h0 h : zv_H} (F : zc_Q h0 h) {o : Option (Int × zv_H)} {K : Int → Prop} (e : zm_R o (fun q => zc_Q h q.2 ∧ zv_rg q.1 ∧ K q.1)) {g : Int × zv_H → Option α} (n : ∀ v h', zc_Q h0 h' → zv_rg v → K v → zm_R (g (v, h')) P) : zm_R (o.bind g) P := by
  obtain ⟨⟨v, h'⟩, rfl, a, b, c⟩ := e
  exact n v h' (zc_Q_t F a) b c
theorem zc_cJ {h0 h : zv_H} (F : zc_Q h0 h) {o : Option (Int64 × zv_H)} (e : zm_R o (fun q => zc_Q h q.2)) {g : Int64 × zv_H → Option α} (n : ∀ v h', zc_Q h0 h' → zm_R (g (v, h')) P) : zm_R (o.bind g) P := by
  obtain ⟨⟨v, h'⟩, rfl, a⟩ := e
  exact n v h' (zc_Q_t F a)
theorem zc_cN {h0 h : zv_H} (F : zc_Q h0 h) {o : Option (Nat × zv_H)} {K : Nat → Prop} (e : zm_R o (fun q => zc_Q h q.2 ∧ K q.1)) {g : Nat × zv_H → Option α} (n : ∀ v h', zc_Q h0 h' → K v → zm_R (g (v, h')) P) : zm_R (o.bind g) P := by
  obtain ⟨⟨v, h'⟩, rfl, a, b⟩ := e
  exact n v h' (zc_Q_t F a) b
theorem zc_cV {h0 h : zv_H} (F : zc_Q h0 h) {o : Option zv_H} (e : zm_R o (fun q => zc_Q h q)) {g : zv_H → Option α} (n : ∀ h', zc_Q h0 h' → zm_R (g h') P) : zm_R (o.bind g) P := by
  obtain ⟨h', rfl, a⟩ := e
  exact n h' (zc_Q_t F a)
end
end
/-! 87.q -/
section
/-! ===== the class: quiet methods (genq.py) ===== -/
section
variable {α : Type} {h0 h : zv_H} {P : α → Prop}
theorem zc_pI {o : Option (Int × zv_H)} {K : Int → Prop} (e : zm_R o (fun q => q.2 = h ∧ zv_rg q.1 ∧ K q.1)) {g : Int × zv_H → Option α} (n : ∀ v, zv_rg v → K v → zm_R (g (v, h)) P) : zm_R (o.bind g) P := by
  obtain ⟨⟨v, h'⟩, rfl, a, b, c⟩ := e
  have a1 : h' = h := a
  subst a1
  exact n v b c
theorem zc_pJ {o : Option (Int64 × zv_H)} (e : zm_R o (fun q => q.2 = h)) {g : Int64 × zv_H → Option α} (n : ∀ v, zm_R (g (v, h)) P) : zm_R (o.bind g) P := by
  obtain ⟨⟨v, h'⟩, rfl, a⟩ := e
  have a1 : h' = h := a
  subst a1
  exact n v
theorem zc_pN {o : Option (Nat × zv_H)} {K : Nat → Prop} (e : zm_R o (fun q => q.2 = h ∧ K q.1)) {g : Nat × zv_H → Option α} (n : ∀ v, K v → zm_R (g (v, h)) P) : zm_R (o.bind g) P := by
  obtain ⟨⟨v, h'⟩, rfl, a, b⟩ := e
  have a1 : h' = h := a
  subst a1
  exact n v b
theorem zc_rAl (F : zc_Q h0 h) {r n0 : Nat} (hr : zv_lay r = (2, n0)) {g : Int → Option α} (n : ∀ v, v = (n0 : Int) → zm_R (g v) P) : zm_R ((zv_al h r).bind g) P := by
  have h1 := zv_lay_lt (zc_ly hr)
  have e : zv_al h r = some (n0 : Int) := by
    unfold zv_al
    rw [if_neg (show ¬ r = 2000000 by omega), if_neg (show ¬ (1000100 ≤ r ∧ r < 1000124) by omega), if_pos ⟨zc_n F.2.1 (zc_ly hr), by rw [hr]; exact Nat.le_refl 2⟩, hr]
  rw [zm_e e]
  exact n _ rfl
end
theorem zc_upe {x y : Int} (hx : zv_rg x) (hy : y < 2147483647) (c : x ≤ y) : (2147483647 - zv_w (x + 1)).toNat < (2147483647 - x).toNat := by
  unfold zv_rg at hx
  rw [zm_w (show -2147483648 ≤ x + 1 ∧ x + 1 < 2147483648 by omega)]
  omega
theorem zc_mx {x y : Int} (hx : zv_rg x) (hy : zv_rg y) : zv_rg (max x y) := by unfold zv_rg at *; omega
theorem zc_mn {x y : Int} (hx : zv_rg x) (hy : zv_rg y) : zv_rg (min x y) := by unfold zv_rg at *; omega
/-- where the objects of each class lie -/
def zc_cls : List (List Nat) := [[9, 178], [31, 200], [23, 192], [5], [17, 186], [10, 37, 40, 43, 46, 49, 52, 55, 58, 61, 64, 67, 70, 73, 76, 79, 82, 85, 88, 91, 94, 97, 100, 103, 106, 109, 112, 115, 118, 121, 124, 127, 130, 133, 136, 139, 142, 145, 148, 151, 154, 157, 160, 163, 166, 169, 172, 175, 179, 206, 209, 212, 215, 218, 221, 224, 227, 230, 233, 236, 239, 242, 245, 248, 251, 254, 257, 260, 263, 266, 269, 272, 275, 278, 281, 284, 287, 290, 293, 296, 299, 302, 305, 308, 311, 314, 317, 320, 323, 326, 329, 332, 335, 338, 341, 344], [26, 195], [3, 7, 35, 204], [1], [347]]
theorem zc_tb {r c : Nat} (hr : zv_lay r = (1, c)) : (zc_cls.getD c []).contains r = true := by
  have := zc_all (fun r a => if (a).1 = 1 then (zc_cls.getD (a).2 []).contains r else true) (by decide +kernel) (zc_ly hr)
  rw [if_pos (by rw [hr]), hr] at this
  exact this
theorem zc_tq {r c : Nat} (hr : zv_lay r = (1, c)) {P : Nat → Prop} (h : ∀ x ∈ zc_cls.getD c [], P x) : P r := h r (List.contains_iff_mem.mp (zc_tb hr))
theorem zc_y0_0 {r : Nat} (hr : zv_lay r = (1, 0)) : zv_lay (r + 1) = (1, 5) ∧ r + 1 < 347 := zc_tq hr (P := fun r => zv_lay (r + 1) = (1, 5) ∧ r + 1 < 347) (by decide +kernel)
theorem zc_y0_1 {r : Nat} (hr : zv_lay r = (1, 0)) : zv_lay (r + 4) = (6, 48) ∧ r + 4 < 347 := zc_tq hr (P := fun r => zv_lay (r + 4) = (6, 48) ∧ r + 4 < 347) (by decide +kernel)
theorem zc_y0_2 {r : Nat} (hr : zv_lay r = (1, 0)) : zv_lay (r + 5) = (2, 604) ∧ r + 5 < 347 := zc_tq hr (P := fun r => zv_lay (r + 5) = (2, 604) ∧ r + 5 < 347) (by decide +kernel)
theorem zc_y0_3 {r : Nat} (hr : zv_lay r = (1, 0)) : zv_lay (r + 6) = (2, 48) ∧ r + 6 < 347 := zc_tq hr (P := fun r => zv_lay (r + 6) = (2, 48) ∧ r + 6 < 347) (by decide +kernel)
theorem zc_y0_4 {r : Nat} (hr : zv_lay r = (1, 0)) : zv_lay (r + 7) = (2, 121) ∧ r + 7 < 347 := zc_tq hr (P := fun r => zv_lay (r + 7) = (2, 121) ∧ r + 7 < 347) (by decide +kernel)
theorem zc_y0_5 {r : Nat} (hr : zv_lay r = (1, 0)) : zv_lay (r + 8) = (1, 4) ∧ r + 8 < 347 := zc_tq hr (P := fun r => zv_lay (r + 8) = (1, 4) ∧ r + 8 < 347) (by decide +kernel)
theorem zc_y0_6 {r : Nat} (hr : zv_lay r = (1, 0)) : zv_lay (r + 14) = (1, 2) ∧ r + 14 < 347 := zc_tq hr (P := fun r => zv_lay (r + 14) = (1, 2) ∧ r + 14 < 347) (by decide +kernel)
theorem zc_y0_7 {r : Nat} (hr : zv_lay r = (1, 0)) : zv_lay (r + 17) = (1, 6) ∧ r + 17 < 347 := zc_tq hr (P := fun r => zv_lay (r + 17) = (1, 6) ∧ r + 17 < 347) (by decide +kernel)
theorem zc_y0_8 {r : Nat} (hr : zv_lay r = (1, 0)) : zv_lay (r + 22) = (1, 1) ∧ r + 22 < 347 := zc_tq hr (P := fun r => zv_lay (r + 22) = (1, 1) ∧ r + 22 < 347) (by decide +kernel)
theorem zc_y0_9 {r : Nat} (hr : zv_lay r = (1, 0)) : zv_lay (r + 26) = (1, 7) ∧ r + 26 < 347 := zc_tq hr (P := fun r => zv_lay (r + 26) = (1, 7) ∧ r + 26 < 347) (by decide +kernel)
theorem zc_y1_0 {r : Nat} (hr : zv_lay r = (1, 1)) : zv_lay (r + 1) = (2, 176) ∧ r + 1 < 347 := zc_tq hr (P := fun r => zv_lay (r + 1) = (2, 176) ∧ r + 1 < 347) (by decide +kernel)
theorem zc_y1_1 {r : Nat} (hr : zv_lay r = (1, 1)) : zv_lay (r + 2) = (2, 176) ∧ r + 2 < 347 := zc_tq hr (P := fun r => zv_lay (r + 2) = (2, 176) ∧ r + 2 < 347) (by decide +kernel)
theorem zc_y1_2 {r : Nat} (hr : zv_lay r = (1, 1)) : zv_lay (r + 3) = (2, 6) ∧ r + 3 < 347 := zc_tq hr (P := fun r => zv_lay (r + 3) = (2, 6) ∧ r + 3 < 347) (by decide +kernel)
theorem zc_y2_0 {r : Nat} (hr : zv_lay r = (1, 2)) : zv_lay (r + 1) = (2, 12) ∧ r + 1 < 347 := zc_tq hr (P := fun r => zv_lay (r + 1) = (2, 12) ∧ r + 1 < 347) (by decide +kernel)
theorem zc_y2_1 {r : Nat} (hr : zv_lay r = (1, 2)) : zv_lay (r + 2) = (2, 12) ∧ r + 2 < 347 := zc_tq hr (P := fun r => zv_lay (r + 2) = (2, 12) ∧ r + 2 < 347) (by decide +kernel)
theorem zc_y3_0 {r : Nat} (hr : zv_lay r = (1, 3)) : zv_lay (r + 1) = (2, 700) ∧ r + 1 < 347 := zc_tq hr (P := fun r => zv_lay (r + 1) = (2, 700) ∧ r + 1 < 347) (by decide +kernel)
theorem zc_y3_1 {r : Nat} (hr : zv_lay r = (1, 3)) : zv_lay (r + 2) = (1, 7) ∧ r + 2 < 347 := zc_tq hr (P := fun r => zv_lay (r + 2) = (1, 7) ∧ r + 2 < 347) (by decide +kernel)
theorem zc_y4_0 {r : Nat} (hr : zv_lay r = (1, 4)) : zv_lay (r + 1) = (6, 48) ∧ r + 1 < 347 := zc_tq hr (P := fun r => zv_lay (r + 1) = (6, 48) ∧ r + 1 < 347) (by decide +kernel)
theorem zc_y4_1 {r : Nat} (hr : zv_lay r = (1, 4)) : zv_lay (r + 2) = (2, 604) ∧ r + 2 < 347 := zc_tq hr (P := fun r => zv_lay (r + 2) = (2, 604) ∧ r + 2 < 347) (by decide +kernel)
theorem zc_y4_2 {r : Nat} (hr : zv_lay r = (1, 4)) : zv_lay (r + 3) = (3, 604) ∧ r + 3 < 347 := zc_tq hr (P := fun r => zv_lay (r + 3) = (3, 604) ∧ r + 3 < 347) (by decide +kernel)
theorem zc_y4_3 {r : Nat} (hr : zv_lay r = (1, 4)) : zv_lay (r + 4) = (3, 604) ∧ r + 4 < 347 := zc_tq hr (P := fun r => zv_lay (r + 4) = (3, 604) ∧ r + 4 < 347) (by decide +kernel)
theorem zc_y4_4 {r : Nat} (hr : zv_lay r = (1, 4)) : zv_lay (r + 5) = (2, 605) ∧ r + 5 < 347 := zc_tq hr (P := fun r => zv_lay (r + 5) = (2, 605) ∧ r + 5 < 347) (by decide +kernel)
theorem zc_y5_1 {r : Nat} (hr : zv_lay r = (1, 5)) : zv_lay (r + 1) = (2, 12) ∧ r + 1 < 347 := zc_tq hr (P := fun r => zv_lay (r + 1) = (2, 12) ∧ r + 1 < 347) (by decide +kernel)
theorem zc_y5_2 {r : Nat} (hr : zv_lay r = (1, 5)) : zv_lay (r + 2) = (2, 120) ∧ r + 2 < 347 := zc_tq hr (P := fun r => zv_lay (r + 2) = (2, 120) ∧ r + 2 < 347) (by decide +kernel)
theorem zc_y6_0 {r : Nat} (hr : zv_lay r = (1, 6)) : zv_lay (r + 1) = (2, 40) ∧ r + 1 < 347 := zc_tq hr (P := fun r => zv_lay (r + 1) = (2, 40) ∧ r + 1 < 347) (by decide +kernel)
theorem zc_y6_1 {r : Nat} (hr : zv_lay r = (1, 6)) : zv_lay (r + 2) = (2, 40) ∧ r + 2 < 347 := zc_tq hr (P := fun r => zv_lay (r + 2) = (2, 40) ∧ r + 2 < 347) (by decide +kernel)
theorem zc_y6_2 {r : Nat} (hr : zv_lay r = (1, 6)) : zv_lay (r + 3) = (2, 40) ∧ r + 3 < 347 := zc_tq hr (P := fun r => zv_lay (r + 3) = (2, 40) ∧ r + 3 < 347) (by decide +kernel)
theorem zc_y6_3 {r : Nat} (hr : zv_lay r = (1, 6)) : zv_lay (r + 4) = (2, 40) ∧ r + 4 < 347 := zc_tq hr (P := fun r => zv_lay (r + 4) = (2, 40) ∧ r + 4 < 347) (by decide +kernel)
theorem zc_y7_0 {r : Nat} (hr : zv_lay r = (1, 7)) : zv_lay (r + 1) = (2, 40) ∧ r + 1 < 347 := zc_tq hr (P := fun r => zv_lay (r + 1) = (2, 40) ∧ r + 1 < 347) (by decide +kernel)
theorem zc_y8_0 {r : Nat} (hr : zv_lay r = (1, 8)) : zv_lay (r + 1) = (2, 160) ∧ r + 1 < 347 := zc_tq hr (P := fun r => zv_lay (r + 1) = (2, 160) ∧ r + 1 < 347) (by decide +kernel)
theorem zc_y8_1 {r : Nat} (hr : zv_lay r = (1, 8)) : zv_lay (r + 2) = (1, 7) ∧ r + 2 < 347 := zc_tq hr (P := fun r => zv_lay (r + 2) = (1, 7) ∧ r + 2 < 347) (by decide +kernel)
theorem zc_y8_2 {r : Nat} (hr : zv_lay r = (1, 8)) : zv_lay (r + 4) = (1, 3) ∧ r + 4 < 347 := zc_tq hr (P := fun r => zv_lay (r + 4) = (1, 3) ∧ r + 4 < 347) (by decide +kernel)
end
/-! 88.q -/
section
theorem zc_E1_clear {d : Nat} {h : zv_H} {a0 : Nat} (hA : zc_A h) (h_a0 : zv_lay a0 = (1, 1)) : zm_R (E1_clear (d + 0) a0 h) (zm_V fun h' => zc_Q h h') := by
  have F0 := zc_Q_r hA
  rw [qE1_clear]
  refine zc_wO F0 h_a0 (zc_frO h_a0 (zc_lt h_a0 (by decide)) (by decide) rfl (by decide)) (by unfold zv_rg; omega) fun g1 F1 => ?_
  exact zm_iV F1
theorem zc_C1_clear {d : Nat} {h : zv_H} {a0 : Nat} (hA : zc_A h) (h_a0 : zv_lay a0 = (1, 1)) : zm_R (C1_clear (d + 1) a0 h) (fun q => zc_Q h q) := zm_cV (fun e => lC1_clear (zc_ob hA h_a0) e) (zc_E1_clear hA h_a0)
theorem zc_E1_add {d : Nat} {h : zv_H} {a0 : Nat} {a1 : Int} {a2 : Int} (hA : zc_A h) (h_a0 : zv_lay a0 = (1, 1)) (h_a1 : zv_rg a1) (h_a2 : zv_rg a2) : zm_R (E1_add (d + 0) a0 a1 a2 h) (zm_V fun h' => zc_Q h h') := by
  have F0 := zc_Q_r hA
  rw [qE1_add]
  refine zc_rI F0 h_a0 fun v1 e_v1 r_v1 => ?_
  refine zm_if (fun c1 => ?_) (fun c1 => ?_)
  · exact zm_iV F0
  · refine zc_rI F0 h_a0 fun v2 e_v2 r_v2 => ?_
    refine zm_if (fun c2 => ?_) (fun c2 => ?_)
    · refine zc_rF F0 1 h_a0 ?_
      refine zc_rI F0 h_a0 fun v4 e_v4 r_v4 => ?_
      refine zc_wA F0 (zc_y1_0 h_a0).1 (zc_y1_0 h_a0).2 (by omega) (by omega) h_a1 fun g5 F3 u_g5 => ?_
      refine zc_rF F3 2 h_a0 ?_
      refine zc_rI F3 h_a0 fun v7 e_v7 r_v7 => ?_
      rw [u_g5 _ _ (by rw [h_a0])] at e_v7
      refine zc_wA F3 (zc_y1_1 h_a0).1 (zc_y1_1 h_a0).2 (by omega) (by omega) h_a2 fun g8 F4 u_g8 => ?_
      refine zc_rI F4 h_a0 fun v9 e_v9 r_v9 => ?_
      rw [u_g8 _ _ (by rw [h_a0])] at e_v9
      rw [u_g5 _ _ (by rw [h_a0])] at e_v9
      refine zc_wO F4 h_a0 (zc_frO h_a0 (zc_lt h_a0 (by decide)) (by decide) rfl (by decide)) (zc_w _) fun g10 F5 => ?_
      exact zm_iV F5
    · exact zm_iV F0
theorem zc_C1_add {d : Nat} {h : zv_H} {a0 : Nat} {a1 : Int} {a2 : Int} (hA : zc_A h) (h_a0 : zv_lay a0 = (1, 1)) (h_a1 : zv_rg a1) (h_a2 : zv_rg a2) : zm_R (C1_add (d + 1) a0 a1 a2 h) (fun q => zc_Q h q) := zm_cV (fun e => lC1_add (zc_ob hA h_a0) e) (zc_E1_add hA h_a0 h_a1 h_a2)
theorem zc_E1_compare {d : Nat} {h : zv_H} {a0 : Nat} {a1 : Int} {a2 : Int} {a3 : Int} (hA : zc_A h) (h_a0 : zv_lay a0 = (1, 1)) (h_a1 : zv_rg a1) (h_a2 : zv_rg a2) (h_a3 : zv_rg a3) : zm_R (E1_compare (d + 1) a0 a1 a2 a3 h) (zm_V fun h' => zc_Q h h') := by
  have F0 := zc_Q_r hA
  rw [qE1_compare]
  refine zc_cV F0 (zc_C1_add F0.2 h_a0 (zc_w _) h_a3) fun g1 F1 => ?_
  exact zm_iV F1
theorem zc_C1_compare {d : Nat} {h : zv_H} {a0 : Nat} {a1 : Int} {a2 : Int} {a3 : Int} (hA : zc_A h) (h_a0 : zv_lay a0 = (1, 1)) (h_a1 : zv_rg a1) (h_a2 : zv_rg a2) (h_a3 : zv_rg a3) : zm_R (C1_compare (d + 2) a0 a1 a2 a3 h) (fun q => zc_Q h q) := zm_cV (fun e => lC1_compare (zc_ob hA h_a0) e) (zc_E1_compare hA h_a0 h_a1 h_a2 h_a3)
theorem zc_E1_usual {d : Nat} {h : zv_H} {a0 : Nat} (hA : zc_A h) (h_a0 : zv_lay a0 = (1, 1)) : zm_R (E1_usual (d + 2) a0 h) (zm_V fun h' => zc_Q h h') := by
  have F0 := zc_Q_r hA
  rw [qE1_usual]
  refine zc_cV F0 (zc_C1_clear F0.2 h_a0) fun g1 F1 => ?_
  refine zc_cV F1 (zc_C1_compare F1.2 h_a0 (by unfold zv_rg; omega) (by unfold zv_rg; omega) (by unfold zv_rg; omega)) fun g2 F2 => ?_
  refine zc_cV F2 (zc_C1_compare F2.2 h_a0 (by unfold zv_rg; omega) (by unfold zv_rg; omega) (by unfold zv_rg; omega)) fun g3 F3 => ?_
  refine zc_cV F3 (zc_C1_add F3.2 h_a0 (by unfold zv_rg; omega) (by unfold zv_rg; omega)) fun g4 F4 => ?_
  refine zc_cV F4 (zc_C1_compare F4.2 h_a0 (by unfold zv_rg; omega) (by unfold zv_rg; omega) (by unfold zv_rg; omega)) fun g5 F5 => ?_
  refine zc_cV F5 (zc_C1_add F5.2 h_a0 (by unfold zv_rg; omega) (by unfold zv_rg; omega)) fun g6 F6 => ?_
  refine zc_cV F6 (zc_C1_compare F6.2 h_a0 (by unfold zv_rg; omega) (by unfold zv_rg; omega) (by unfold zv_rg; omega)) fun g7 F7 => ?_
  refine zc_cV F7 (zc_C1_add F7.2 h_a0 (by unfold zv_rg; omega) (by unfold zv_rg; omega)) fun g8 F8 => ?_
  exact zm_iV F8
theorem zc_C1_usual {d : Nat} {h : zv_H} {a0 : Nat} (hA : zc_A h) (h_a0 : zv_lay a0 = (1, 1)) : zm_R (C1_usual (d + 3) a0 h) (fun q => zc_Q h q) := zm_cV (fun e => lC1_usual (zc_ob hA h_a0) e) (zc_E1_usual hA h_a0)
theorem zc_E1_set {d : Nat} {h : zv_H} {a0 : Nat} {a1 : Int} {a2 : Int} (hA : zc_A h) (h_a0 : zv_lay a0 = (1, 1)) (h_a1 : zv_rg a1) (h_a2 : zv_rg a2) : zm_R (E1_set (d + 0) a0 a1 a2 h) (zm_V fun h' => zc_Q h h') := by
  have F0 := zc_Q_r hA
  rw [qE1_set]
  refine zm_if (fun c1 => ?_) (fun c1 => ?_)
  · exact zm_iV F0
  · refine zm_if (fun c2 => ?_) (fun c2 => ?_)
    · refine zc_rF F0 3 h_a0 ?_
      refine zc_wA F0 (zc_y1_2 h_a0).1 (zc_y1_2 h_a0).2 (by omega) (by omega) h_a2 fun g2 F3 u_g2 => ?_
      exact zm_iV F3
    · exact zm_iV F0
theorem zc_C1_set {d : Nat} {h : zv_H} {a0 : Nat} {a1 : Int} {a2 : Int} (hA : zc_A h) (h_a0 : zv_lay a0 = (1, 1)) (h_a1 : zv_rg a1) (h_a2 : zv_rg a2) : zm_R (C1_set (d + 1) a0 a1 a2 h) (fun q => zc_Q h q) := zm_cV (fun e => lC1_set (zc_ob hA h_a0) e) (zc_E1_set hA h_a0 h_a1 h_a2)
theorem zc_L1_holds_4 {d : Nat} {h0 : zv_H} (hA : zc_A h0) (N_L1_holds_4 : Nat) : ∀ {a0 : Nat} {a1 : Int64} {a3 : Int}, (zv_lay a0 = (1, 1)) → (0 ≤ a3 ∧ zv_rg a3) → (2147483647 - a3).toNat = N_L1_holds_4 → zm_R (L1_holds_4 (d + 0) a0 a1 a3 h0) (zm_I fun v h' => h' = h0 ∧ zv_rg v ∧ True) := by
  induction N_L1_holds_4 using Nat.strongRecOn with
  | _ N_L1_holds_4 ih_L1_holds_4 =>
    intro a0 a1 a3 h_a0 h_a3 eN
    rw [qL1_holds_4]
    have z_a3 := h_a3.1
    refine zc_rI (zc_Q_r hA) h_a0 fun v1 e_v1 r_v1 => ?_
    refine zm_if (fun c1 => ?_) (fun c1 => ?_)
    · refine zm_if (fun c2 => ?_) (fun c2 => ?_)
      · refine zc_rF (zc_Q_r hA) 1 h_a0 ?_
        refine zc_rA (zc_Q_r hA) (zc_y1_0 h_a0).1 (zc_y1_0 h_a0).2 (by omega) (by omega) fun v3 r_v3 => ?_
        refine zm_if (fun c3 => ?_) (fun c3 => ?_)
        · exact ih_L1_holds_4 _ (by rw [← eN]; exact zc_up h_a3.2 (by unfold zv_rg; omega) c2) h_a0 ⟨by rw [zc_up1 h_a3.2 (by unfold zv_rg; omega) c2]; omega, zc_w _⟩  rfl
        · refine zm_if (fun c4 => ?_) (fun c4 => ?_)
          · exact ih_L1_holds_4 _ (by rw [← eN]; exact zc_up h_a3.2 (by unfold zv_rg; omega) c2) h_a0 ⟨by rw [zc_up1 h_a3.2 (by unfold zv_rg; omega) c2]; omega, zc_w _⟩  rfl
          · refine zm_if (fun c5 => ?_) (fun c5 => ?_)
            · exact ih_L1_holds_4 _ (by rw [← eN]; exact zc_up h_a3.2 (by unfold zv_rg; omega) c2) h_a0 ⟨by rw [zc_up1 h_a3.2 (by unfold zv_rg; omega) c2]; omega, zc_w _⟩  rfl
            · refine zm_if (fun c6 => ?_) (fun c6 => ?_)
              · rw [qL1_holds_107]
                rw [qL1_holds_108]
                refine zm_if (fun c7 => ?_) (fun c7 => ?_)
                · refine zc_rF (zc_Q_r hA) 2 h_a0 ?_
                  refine zc_rA (zc_Q_r hA) (zc_y1_1 h_a0).1 (zc_y1_1 h_a0).2 (by omega) (by omega) fun v2x1 r_v2x1 => ?_
                  refine zm_if (fun c8 => ?_) (fun c8 => ?_)
                  · rw [qL1_holds_181]
                    refine zm_if (fun c9 => ?_) (fun c9 => ?_)
                    · exact ih_L1_holds_4 _ (by rw [← eN]; exact zc_up h_a3.2 (by unfold zv_rg; omega) c2) h_a0 ⟨by rw [zc_up1 h_a3.2 (by unfold zv_rg; omega) c2]; omega, zc_w _⟩  rfl
                    · exact ih_L1_holds_4 _ (by rw [← eN]; exact zc_up h_a3.2 (by unfold zv_rg; omega) c2) h_a0 ⟨by rw [zc_up1 h_a3.2 (by unfold zv_rg; omega) c2]; omega, zc_w _⟩  rfl
                  · rw [qL1_holds_181]
                    refine zm_if (fun c10 => ?_) (fun c10 => ?_)
                    · exact ih_L1_holds_4 _ (by rw [← eN]; exact zc_up h_a3.2 (by unfold zv_rg; omega) c2) h_a0 ⟨by rw [zc_up1 h_a3.2 (by unfold zv_rg; omega) c2]; omega, zc_w _⟩  rfl
                    · exact ih_L1_holds_4 _ (by rw [← eN]; exact zc_up h_a3.2 (by unfold zv_rg; omega) c2) h_a0 ⟨by rw [zc_up1 h_a3.2 (by unfold zv_rg; omega) c2]; omega, zc_w _⟩  rfl
                · refine zm_if (fun c11 => ?_) (fun c11 => ?_)
                  · refine zc_rF (zc_Q_r hA) 2 h_a0 ?_
                    refine zc_rA (zc_Q_r hA) (zc_y1_1 h_a0).1 (zc_y1_1 h_a0).2 (by omega) (by omega) fun v4 r_v4 => ?_
                    refine zm_if (fun c12 => ?_) (fun c12 => ?_)
                    · rw [qL1_holds_181]
                      refine zm_if (fun c13 => ?_) (fun c13 => ?_)
                      · exact ih_L1_holds_4 _ (by rw [← eN]; exact zc_up h_a3.2 (by unfold zv_rg; omega) c2) h_a0 ⟨by rw [zc_up1 h_a3.2 (by unfold zv_rg; omega) c2]; omega, zc_w _⟩  rfl
                      · exact ih_L1_holds_4 _ (by rw [← eN]; exact zc_up h_a3.2 (by unfold zv_rg; omega) c2) h_a0 ⟨by rw [zc_up1 h_a3.2 (by unfold zv_rg; omega) c2]; omega, zc_w _⟩  rfl
                    · rw [qL1_holds_181]
                      refine zm_if (fun c14 => ?_) (fun c14 => ?_)
                      · exact ih_L1_holds_4 _ (by rw [← eN]; exact zc_up h_a3.2 (by unfold zv_rg; omega) c2) h_a0 ⟨by rw [zc_up1 h_a3.2 (by unfold zv_rg; omega) c2]; omega, zc_w _⟩  rfl
                      · exact ih_L1_holds_4 _ (by rw [← eN]; exact zc_up h_a3.2 (by unfold zv_rg; omega) c2) h_a0 ⟨by rw [zc_up1 h_a3.2 (by unfold zv_rg; omega) c2]; omega, zc_w _⟩  rfl
                  · refine zc_rF (zc_Q_r hA) 2 h_a0 ?_
                    refine zc_rA (zc_Q_r hA) (zc_y1_1 h_a0).1 (zc_y1_1 h_a0).2 (by omega) (by omega) fun v6 r_v6 => ?_
                    refine zm_if (fun c15 => ?_) (fun c15 => ?_)
                    · rw [qL1_holds_181]
                      refine zm_if (fun c16 => ?_) (fun c16 => ?_)
                      · exact ih_L1_holds_4 _ (by rw [← eN]; exact zc_up h_a3.2 (by unfold zv_rg; omega) c2) h_a0 ⟨by rw [zc_up1 h_a3.2 (by unfold zv_rg; omega) c2]; omega, zc_w _⟩  rfl
                      · exact ih_L1_holds_4 _ (by rw [← eN]; exact zc_up h_a3.2 (by unfold zv_rg; omega) c2) h_a0 ⟨by rw [zc_up1 h_a3.2 (by unfold zv_rg; omega) c2]; omega, zc_w _⟩  rfl
                    · rw [qL1_holds_181]
                      refine zm_if (fun c17 => ?_) (fun c17 => ?_)
                      · exact ih_L1_holds_4 _ (by rw [← eN]; exact zc_up h_a3.2 (by unfold zv_rg; omega) c2) h_a0 ⟨by rw [zc_up1 h_a3.2 (by unfold zv_rg; omega) c2]; omega, zc_w _⟩  rfl
                      · exact ih_L1_holds_4 _ (by rw [← eN]; exact zc_up h_a3.2 (by unfold zv_rg; omega) c2) h_a0 ⟨by rw [zc_up1 h_a3.2 (by unfold zv_rg; omega) c2]; omega, zc_w _⟩  rfl
              · refine zm_if (fun c18 => ?_) (fun c18 => ?_)
                · refine zc_rF (zc_Q_r hA) 3 h_a0 ?_
                  refine zc_rA (zc_Q_r hA) (zc_y1_2 h_a0).1 (zc_y1_2 h_a0).2 (by first | omega | (rw [zm_w (by omega)]; omega)) (by first | omega | (rw [zm_w (by omega)]; omega)) fun v5x1 r_v5x1 => ?_
                  rw [qL1_holds_108]
                  refine zm_if (fun c19 => ?_) (fun c19 => ?_)
                  · refine zc_rF (zc_Q_r hA) 2 h_a0 ?_
                    refine zc_rA (zc_Q_r hA) (zc_y1_1 h_a0).1 (zc_y1_1 h_a0).2 (by omega) (by omega) fun v2x2 r_v2x2 => ?_
                    refine zm_if (fun c20 => ?_) (fun c20 => ?_)
                    · rw [qL1_holds_181]
                      refine zm_if (fun c21 => ?_) (fun c21 => ?_)
                      · exact ih_L1_holds_4 _ (by rw [← eN]; exact zc_up h_a3.2 (by unfold zv_rg; omega) c2) h_a0 ⟨by rw [zc_up1 h_a3.2 (by unfold zv_rg; omega) c2]; omega, zc_w _⟩  rfl
                      · exact ih_L1_holds_4 _ (by rw [← eN]; exact zc_up h_a3.2 (by unfold zv_rg; omega) c2) h_a0 ⟨by rw [zc_up1 h_a3.2 (by unfold zv_rg; omega) c2]; omega, zc_w _⟩  rfl
                    · rw [qL1_holds_181]
                      refine zm_if (fun c22 => ?_) (fun c22 => ?_)
                      · exact ih_L1_holds_4 _ (by rw [← eN]; exact zc_up h_a3.2 (by unfold zv_rg; omega) c2) h_a0 ⟨by rw [zc_up1 h_a3.2 (by unfold zv_rg; omega) c2]; omega, zc_w _⟩  rfl
                      · exact ih_L1_holds_4 _ (by rw [← eN]; exact zc_up h_a3.2 (by unfold zv_rg; omega) c2) h_a0 ⟨by rw [zc_up1 h_a3.2 (by unfold zv_rg; omega) c2]; omega, zc_w _⟩  rfl
                  · refine zm_if (fun c23 => ?_) (fun c23 => ?_)
                    · refine zc_rF (zc_Q_r hA) 2 h_a0 ?_
                      refine zc_rA (zc_Q_r hA) (zc_y1_1 h_a0).1 (zc_y1_1 h_a0).2 (by omega) (by omega) fun v4x2 r_v4x2 => ?_
                      refine zm_if (fun c24 => ?_) (fun c24 => ?_)
                      · rw [qL1_holds_181]
                        refine zm_if (fun c25 => ?_) (fun c25 => ?_)
                        · exact ih_L1_holds_4 _ (by rw [← eN]; exact zc_up h_a3.2 (by unfold zv_rg; omega) c2) h_a0 ⟨by rw [zc_up1 h_a3.2 (by unfold zv_rg; omega) c2]; omega, zc_w _⟩  rfl
                        · exact ih_L1_holds_4 _ (by rw [← eN]; exact zc_up h_a3.2 (by unfold zv_rg; omega) c2) h_a0 ⟨by rw [zc_up1 h_a3.2 (by unfold zv_rg; omega) c2]; omega, zc_w _⟩  rfl
                      · rw [qL1_holds_181]
                        refine zm_if (fun c26 => ?_) (fun c26 => ?_)
                        · exact ih_L1_holds_4 _ (by rw [← eN]; exact zc_up h_a3.2 (by unfold zv_rg; omega) c2) h_a0 ⟨by rw [zc_up1 h_a3.2 (by unfold zv_rg; omega) c2]; omega, zc_w _⟩  rfl
                        · exact ih_L1_holds_4 _ (by rw [← eN]; exact zc_up h_a3.2 (by unfold zv_rg; omega) c2) h_a0 ⟨by rw [zc_up1 h_a3.2 (by unfold zv_rg; omega) c2]; omega, zc_w _⟩  rfl
                    · refine zc_rF (zc_Q_r hA) 2 h_a0 ?_
                      refine zc_rA (zc_Q_r hA) (zc_y1_1 h_a0).1 (zc_y1_1 h_a0).2 (by omega) (by omega) fun v6x1 r_v6x1 => ?_
                      refine zm_if (fun c27 => ?_) (fun c27 => ?_)
                      · rw [qL1_holds_181]
                        refine zm_if (fun c28 => ?_) (fun c28 => ?_)
                        · exact ih_L1_holds_4 _ (by rw [← eN]; exact zc_up h_a3.2 (by unfold zv_rg; omega) c2) h_a0 ⟨by rw [zc_up1 h_a3.2 (by unfold zv_rg; omega) c2]; omega, zc_w _⟩  rfl
                        · exact ih_L1_holds_4 _ (by rw [← eN]; exact zc_up h_a3.2 (by unfold zv_rg; omega) c2) h_a0 ⟨by rw [zc_up1 h_a3.2 (by unfold zv_rg; omega) c2]; omega, zc_w _⟩  rfl
                      · rw [qL1_holds_181]
                        refine zm_if (fun c29 => ?_) (fun c29 => ?_)
                        · exact ih_L1_holds_4 _ (by rw [← eN]; exact zc_up h_a3.2 (by unfold zv_rg; omega) c2) h_a0 ⟨by rw [zc_up1 h_a3.2 (by unfold zv_rg; omega) c2]; omega, zc_w _⟩  rfl
                        · exact ih_L1_holds_4 _ (by rw [← eN]; exact zc_up h_a3.2 (by unfold zv_rg; omega) c2) h_a0 ⟨by rw [zc_up1 h_a3.2 (by unfold zv_rg; omega) c2]; omega, zc_w _⟩  rfl
                · rw [qL1_holds_107]
                  rw [qL1_holds_108]
                  refine zm_if (fun c30 => ?_) (fun c30 => ?_)
                  · refine zc_rF (zc_Q_r hA) 2 h_a0 ?_
                    refine zc_rA (zc_Q_r hA) (zc_y1_1 h_a0).1 (zc_y1_1 h_a0).2 (by omega) (by omega) fun v2x3 r_v2x3 => ?_
                    refine zm_if (fun c31 => ?_) (fun c31 => ?_)
                    · rw [qL1_holds_181]
                      refine zm_if (fun c32 => ?_) (fun c32 => ?_)
                      · exact ih_L1_holds_4 _ (by rw [← eN]; exact zc_up h_a3.2 (by unfold zv_rg; omega) c2) h_a0 ⟨by rw [zc_up1 h_a3.2 (by unfold zv_rg; omega) c2]; omega, zc_w _⟩  rfl
                      · exact ih_L1_holds_4 _ (by rw [← eN]; exact zc_up h_a3.2 (by unfold zv_rg; omega) c2) h_a0 ⟨by rw [zc_up1 h_a3.2 (by unfold zv_rg; omega) c2]; omega, zc_w _⟩  rfl
                    · rw [qL1_holds_181]
                      refine zm_if (fun c33 => ?_) (fun c33 => ?_)
                      · exact ih_L1_holds_4 _ (by rw [← eN]; exact zc_up h_a3.2 (by unfold zv_rg; omega) c2) h_a0 ⟨by rw [zc_up1 h_a3.2 (by unfold zv_rg; omega) c2]; omega, zc_w _⟩  rfl
                      · exact ih_L1_holds_4 _ (by rw [← eN]; exact zc_up h_a3.2 (by unfold zv_rg; omega) c2) h_a0 ⟨by rw [zc_up1 h_a3.2 (by unfold zv_rg; omega) c2]; omega, zc_w _⟩  rfl
                  · refine zm_if (fun c34 => ?_) (fun c34 => ?_)
                    · refine zc_rF (zc_Q_r hA) 2 h_a0 ?_
                      refine zc_rA (zc_Q_r hA) (zc_y1_1 h_a0).1 (zc_y1_1 h_a0).2 (by omega) (by omega) fun v4x3 r_v4x3 => ?_
                      refine zm_if (fun c35 => ?_) (fun c35 => ?_)
                      · rw [qL1_holds_181]
                        refine zm_if (fun c36 => ?_) (fun c36 => ?_)
                        · exact ih_L1_holds_4 _ (by rw [← eN]; exact zc_up h_a3.2 (by unfold zv_rg; omega) c2) h_a0 ⟨by rw [zc_up1 h_a3.2 (by unfold zv_rg; omega) c2]; omega, zc_w _⟩  rfl
                        · exact ih_L1_holds_4 _ (by rw [← eN]; exact zc_up h_a3.2 (by unfold zv_rg; omega) c2) h_a0 ⟨by rw [zc_up1 h_a3.2 (by unfold zv_rg; omega) c2]; omega, zc_w _⟩  rfl
                      · rw [qL1_holds_181]
                        refine zm_if (fun c37 => ?_) (fun c37 => ?_)
                        · exact ih_L1_holds_4 _ (by rw [← eN]; exact zc_up h_a3.2 (by unfold zv_rg; omega) c2) h_a0 ⟨by rw [zc_up1 h_a3.2 (by unfold zv_rg; omega) c2]; omega, zc_w _⟩  rfl
                        · exact ih_L1_holds_4 _ (by rw [← eN]; exact zc_up h_a3.2 (by unfold zv_rg; omega) c2) h_a0 ⟨by rw [zc_up1 h_a3.2 (by unfold zv_rg; omega) c2]; omega, zc_w _⟩  rfl
                    · refine zc_rF (zc_Q_r hA) 2 h_a0 ?_
                      refine zc_rA (zc_Q_r hA) (zc_y1_1 h_a0).1 (zc_y1_1 h_a0).2 (by omega) (by omega) fun v6x2 r_v6x2 => ?_
                      refine zm_if (fun c38 => ?_) (fun c38 => ?_)
                      · rw [qL1_holds_181]
                        refine zm_if (fun c39 => ?_) (fun c39 => ?_)
                        · exact ih_L1_holds_4 _ (by rw [← eN]; exact zc_up h_a3.2 (by unfold zv_rg; omega) c2) h_a0 ⟨by rw [zc_up1 h_a3.2 (by unfold zv_rg; omega) c2]; omega, zc_w _⟩  rfl
                        · exact ih_L1_holds_4 _ (by rw [← eN]; exact zc_up h_a3.2 (by unfold zv_rg; omega) c2) h_a0 ⟨by rw [zc_up1 h_a3.2 (by unfold zv_rg; omega) c2]; omega, zc_w _⟩  rfl
                      · rw [qL1_holds_181]
                        refine zm_if (fun c40 => ?_) (fun c40 => ?_)
                        · exact ih_L1_holds_4 _ (by rw [← eN]; exact zc_up h_a3.2 (by unfold zv_rg; omega) c2) h_a0 ⟨by rw [zc_up1 h_a3.2 (by unfold zv_rg; omega) c2]; omega, zc_w _⟩  rfl
                        · exact ih_L1_holds_4 _ (by rw [← eN]; exact zc_up h_a3.2 (by unfold zv_rg; omega) c2) h_a0 ⟨by rw [zc_up1 h_a3.2 (by unfold zv_rg; omega) c2]; omega, zc_w _⟩  rfl
      · rw [qL1_holds_204]
        refine zm_if (fun c41 => ?_) (fun c41 => ?_)
        · exact zm_iI ⟨rfl, (by unfold zv_rg; omega), trivial⟩
        · exact zm_iI ⟨rfl, (by unfold zv_rg; omega), trivial⟩
    · rw [qL1_holds_204]
      refine zm_if (fun c42 => ?_) (fun c42 => ?_)
      · exact zm_iI ⟨rfl, (by unfold zv_rg; omega), trivial⟩
      · exact zm_iI ⟨rfl, (by unfold zv_rg; omega), trivial⟩
theorem zc_E1_holds {d : Nat} {h : zv_H} {a0 : Nat} (hA : zc_A h) (h_a0 : zv_lay a0 = (1, 1)) : zm_R (E1_holds (d + 0) a0 h) (zm_I fun v h' => h' = h ∧ zv_rg v ∧ True) := by
  have F0 := zc_Q_r hA
  rw [qE1_holds]
  exact zc_L1_holds_4 hA  _ h_a0 ⟨by omega, (by unfold zv_rg; omega)⟩  rfl
theorem zc_C1_holds {d : Nat} {h : zv_H} {a0 : Nat} (hA : zc_A h) (h_a0 : zv_lay a0 = (1, 1)) : zm_R (C1_holds (d + 1) a0 h) (fun q => q.2 = h ∧ zv_rg q.1 ∧ True) := zm_cI (fun e => lC1_holds (zc_ob hA h_a0) e) (zc_E1_holds hA h_a0)
theorem zc_L2_indexOf_2 {d : Nat} {h0 : zv_H} (hA : zc_A h0) (N_L2_indexOf_2 : Nat) : ∀ {a0 : Nat} {a1 : Int} {a2 : Int}, (zv_lay a0 = (1, 2)) → (zv_rg a1) → (0 ≤ a2 ∧ zv_rg a2) → (2147483647 - a2).toNat = N_L2_indexOf_2 → zm_R (L2_indexOf_2 (d + 0) a0 a1 a2 h0) (zm_I fun v h' => h' = h0 ∧ zv_rg v ∧ ((v = -1 ∨ (0 ≤ v ∧ v < 12)))) := by
  induction N_L2_indexOf_2 using Nat.strongRecOn with
  | _ N_L2_indexOf_2 ih_L2_indexOf_2 =>
    intro a0 a1 a2 h_a0 h_a1 h_a2 eN
    rw [qL2_indexOf_2]
    have z_a2 := h_a2.1
    refine zc_rI (zc_Q_r hA) h_a0 fun v1 e_v1 r_v1 => ?_
    refine zm_if (fun c1 => ?_) (fun c1 => ?_)
    · refine zm_if (fun c2 => ?_) (fun c2 => ?_)
      · refine zc_rF (zc_Q_r hA) 1 h_a0 ?_
        refine zc_rA (zc_Q_r hA) (zc_y2_0 h_a0).1 (zc_y2_0 h_a0).2 (by omega) (by omega) fun v3 r_v3 => ?_
        refine zm_if (fun c3 => ?_) (fun c3 => ?_)
        · exact zm_iI ⟨rfl, h_a2.2, by omega⟩
        · exact ih_L2_indexOf_2 _ (by rw [← eN]; exact zc_up h_a2.2 (by unfold zv_rg; omega) c2) h_a0 h_a1 ⟨by rw [zc_up1 h_a2.2 (by unfold zv_rg; omega) c2]; omega, zc_w _⟩  rfl
      · exact zm_iI ⟨rfl, (by unfold zv_rg; omega), by omega⟩
    · exact zm_iI ⟨rfl, (by unfold zv_rg; omega), by omega⟩
theorem zc_E2_indexOf {d : Nat} {h : zv_H} {a0 : Nat} {a1 : Int} (hA : zc_A h) (h_a0 : zv_lay a0 = (1, 2)) (h_a1 : zv_rg a1) : zm_R (E2_indexOf (d + 0) a0 a1 h) (zm_I fun v h' => h' = h ∧ zv_rg v ∧ ((v = -1 ∨ (0 ≤ v ∧ v < 12)))) := by
  have F0 := zc_Q_r hA
  rw [qE2_indexOf]
  exact zc_L2_indexOf_2 hA  _ h_a0 h_a1 ⟨by omega, (by unfold zv_rg; omega)⟩  rfl
theorem zc_C2_indexOf {d : Nat} {h : zv_H} {a0 : Nat} {a1 : Int} (hA : zc_A h) (h_a0 : zv_lay a0 = (1, 2)) (h_a1 : zv_rg a1) : zm_R (C2_indexOf (d + 1) a0 a1 h) (fun q => q.2 = h ∧ zv_rg q.1 ∧ ((q.1 = -1 ∨ (0 ≤ q.1 ∧ q.1 < 12)))) := zm_cI (fun e => lC2_indexOf (zc_ob hA h_a0) e) (zc_E2_indexOf hA h_a0 h_a1)
theorem zc_E2_keyAt {d : Nat} {h : zv_H} {a0 : Nat} {a1 : Int} (hA : zc_A h) (h_a0 : zv_lay a0 = (1, 2)) (h_a1 : zv_rg a1) : zm_R (E2_keyAt (d + 0) a0 a1 h) (zm_I fun v h' => h' = h ∧ zv_rg v ∧ True) := by
  have F0 := zc_Q_r hA
  rw [qE2_keyAt]
  refine zm_if (fun c1 => ?_) (fun c1 => ?_)
  · exact zm_iI ⟨rfl, (by unfold zv_rg; omega), trivial⟩
  · refine zc_rI F0 h_a0 fun v1 e_v1 r_v1 => ?_
    refine zm_if (fun c2 => ?_) (fun c2 => ?_)
    · refine zm_if (fun c3 => ?_) (fun c3 => ?_)
      · refine zc_rF F0 1 h_a0 ?_
        refine zc_rA F0 (zc_y2_0 h_a0).1 (zc_y2_0 h_a0).2 (by omega) (by omega) fun v3 r_v3 => ?_
        exact zm_iI ⟨rfl, r_v3, trivial⟩
      · exact zm_iI ⟨rfl, (by unfold zv_rg; omega), trivial⟩
    · exact zm_iI ⟨rfl, (by unfold zv_rg; omega), trivial⟩
theorem zc_C2_keyAt {d : Nat} {h : zv_H} {a0 : Nat} {a1 : Int} (hA : zc_A h) (h_a0 : zv_lay a0 = (1, 2)) (h_a1 : zv_rg a1) : zm_R (C2_keyAt (d + 1) a0 a1 h) (fun q => q.2 = h ∧ zv_rg q.1 ∧ True) := zm_cI (fun e => lC2_keyAt (zc_ob hA h_a0) e) (zc_E2_keyAt hA h_a0 h_a1)
theorem zc_E2_ownerAt {d : Nat} {h : zv_H} {a0 : Nat} {a1 : Int} (hA : zc_A h) (h_a0 : zv_lay a0 = (1, 2)) (h_a1 : zv_rg a1) : zm_R (E2_ownerAt (d + 0) a0 a1 h) (zm_I fun v h' => h' = h ∧ zv_rg v ∧ True) := by
  have F0 := zc_Q_r hA
  rw [qE2_ownerAt]
  refine zm_if (fun c1 => ?_) (fun c1 => ?_)
  · exact zm_iI ⟨rfl, (by unfold zv_rg; omega), trivial⟩
  · refine zc_rI F0 h_a0 fun v1 e_v1 r_v1 => ?_
    refine zm_if (fun c2 => ?_) (fun c2 => ?_)
    · refine zm_if (fun c3 => ?_) (fun c3 => ?_)
      · refine zc_rF F0 2 h_a0 ?_
        refine zc_rA F0 (zc_y2_1 h_a0).1 (zc_y2_1 h_a0).2 (by omega) (by omega) fun v3 r_v3 => ?_
        exact zm_iI ⟨rfl, r_v3, trivial⟩
      · exact zm_iI ⟨rfl, (by unfold zv_rg; omega), trivial⟩
    · exact zm_iI ⟨rfl, (by unfold zv_rg; omega), trivial⟩
theorem zc_C2_ownerAt {d : Nat} {h : zv_H} {a0 : Nat} {a1 : Int} (hA : zc_A h) (h_a0 : zv_lay a0 = (1, 2)) (h_a1 : zv_rg a1) : zm_R (C2_ownerAt (d + 1) a0 a1 h) (fun q => q.2 = h ∧ zv_rg q.1 ∧ True) := zm_cI (fun e => lC2_ownerAt (zc_ob hA h_a0) e) (zc_E2_ownerAt hA h_a0 h_a1)
theorem zc_L2_countOf_4 {d : Nat} {h0 : zv_H} (hA : zc_A h0) (N_L2_countOf_4 : Nat) : ∀ {a0 : Nat} {a1 : Int} {a2 : Int} {a3 : Int}, (zv_lay a0 = (1, 2)) → (zv_rg a1) → (zv_rg a2) → (0 ≤ a3 ∧ zv_rg a3) → (2147483647 - a3).toNat = N_L2_countOf_4 → zm_R (L2_countOf_4 (d + 0) a0 a1 a2 a3 h0) (zm_I fun v h' => h' = h0 ∧ zv_rg v ∧ True) := by
  induction N_L2_countOf_4 using Nat.strongRecOn with
  | _ N_L2_countOf_4 ih_L2_countOf_4 =>
    intro a0 a1 a2 a3 h_a0 h_a1 h_a2 h_a3 eN
    rw [qL2_countOf_4]
    have z_a3 := h_a3.1
    refine zc_rI (zc_Q_r hA) h_a0 fun v1 e_v1 r_v1 => ?_
    refine zm_if (fun c1 => ?_) (fun c1 => ?_)
    · refine zm_if (fun c2 => ?_) (fun c2 => ?_)
      · refine zc_rF (zc_Q_r hA) 2 h_a0 ?_
        refine zc_rA (zc_Q_r hA) (zc_y2_1 h_a0).1 (zc_y2_1 h_a0).2 (by omega) (by omega) fun v3 r_v3 => ?_
        refine zm_if (fun c3 => ?_) (fun c3 => ?_)
        · exact ih_L2_countOf_4 _ (by rw [← eN]; exact zc_up h_a3.2 (by unfold zv_rg; omega) c2) h_a0 h_a1 (zc_w _) ⟨by rw [zc_up1 h_a3.2 (by unfold zv_rg; omega) c2]; omega, zc_w _⟩  rfl
        · exact ih_L2_countOf_4 _ (by rw [← eN]; exact zc_up h_a3.2 (by unfold zv_rg; omega) c2) h_a0 h_a1 (zc_w _) ⟨by rw [zc_up1 h_a3.2 (by unfold zv_rg; omega) c2]; omega, zc_w _⟩  rfl
      · exact zm_iI ⟨rfl, h_a2, trivial⟩
    · exact zm_iI ⟨rfl, h_a2, trivial⟩
theorem zc_E2_countOf {d : Nat} {h : zv_H} {a0 : Nat} {a1 : Int} (hA : zc_A h) (h_a0 : zv_lay a0 = (1, 2)) (h_a1 : zv_rg a1) : zm_R (E2_countOf (d + 0) a0 a1 h) (zm_I fun v h' => h' = h ∧ zv_rg v ∧ True) := by
  have F0 := zc_Q_r hA
  rw [qE2_countOf]
  exact zc_L2_countOf_4 hA  _ h_a0 h_a1 (by unfold zv_rg; omega) ⟨by omega, (by unfold zv_rg; omega)⟩  rfl
theorem zc_C2_countOf {d : Nat} {h : zv_H} {a0 : Nat} {a1 : Int} (hA : zc_A h) (h_a0 : zv_lay a0 = (1, 2)) (h_a1 : zv_rg a1) : zm_R (C2_countOf (d + 1) a0 a1 h) (fun q => q.2 = h ∧ zv_rg q.1 ∧ True) := zm_cI (fun e => lC2_countOf (zc_ob hA h_a0) e) (zc_E2_countOf hA h_a0 h_a1)
theorem zc_E2_own {d : Nat} {h : zv_H} {a0 : Nat} {a1 : Int} {a2 : Int} (hA : zc_A h) (h_a0 : zv_lay a0 = (1, 2)) (h_a1 : zv_rg a1) (h_a2 : zv_rg a2) : zm_R (E2_own (d + 1) a0 a1 a2 h) (zm_V fun h' => zc_Q h h') := by
  have F0 := zc_Q_r hA
  rw [qE2_own]
  refine zc_pI (K := fun v => (v = -1 ∨ (0 ≤ v ∧ v < 12))) (zc_C2_indexOf F0.2 h_a0 h_a1) fun q1v r_q1 k_q1 => ?_
  dsimp only
  refine zm_if (fun c2 => ?_) (fun c2 => ?_)
  · refine zc_rI F0 h_a0 fun v2 e_v2 r_v2 => ?_
    rw [qL2_own_16]
    refine zm_if (fun c3 => ?_) (fun c3 => ?_)
    · exact zm_iV F0
    · refine zm_if (fun c4 => ?_) (fun c4 => ?_)
      · refine zc_rF F0 1 h_a0 ?_
        refine zc_wA F0 (zc_y2_0 h_a0).1 (zc_y2_0 h_a0).2 (by omega) (by omega) h_a1 fun g2 F5 u_g2 => ?_
        refine zc_rF F5 2 h_a0 ?_
        refine zc_wA F5 (zc_y2_1 h_a0).1 (zc_y2_1 h_a0).2 (by omega) (by omega) h_a2 fun g4 F6 u_g4 => ?_
        refine zc_rI F6 h_a0 fun v5 e_v5 r_v5 => ?_
        rw [u_g4 _ _ (by rw [h_a0])] at e_v5
        rw [u_g2 _ _ (by rw [h_a0])] at e_v5
        refine zc_wO F6 h_a0 (zc_frO h_a0 (zc_lt h_a0 (by decide)) (by decide) rfl (by decide)) (zc_mx r_v5 (zc_w _)) fun g6 F7 => ?_
        exact zm_iV F7
      · exact zm_iV F0
  · rw [qL2_own_16]
    refine zm_if (fun c8 => ?_) (fun c8 => ?_)
    · exact zm_iV F0
    · refine zm_if (fun c9 => ?_) (fun c9 => ?_)
      · refine zc_rF F0 1 h_a0 ?_
        refine zc_wA F0 (zc_y2_0 h_a0).1 (zc_y2_0 h_a0).2 (by omega) (by omega) h_a1 fun g2x1 F10 u_g2x1 => ?_
        refine zc_rF F10 2 h_a0 ?_
        refine zc_wA F10 (zc_y2_1 h_a0).1 (zc_y2_1 h_a0).2 (by omega) (by omega) h_a2 fun g4x1 F11 u_g4x1 => ?_
        refine zc_rI F11 h_a0 fun v5x1 e_v5x1 r_v5x1 => ?_
        rw [u_g4x1 _ _ (by rw [h_a0])] at e_v5x1
        rw [u_g2x1 _ _ (by rw [h_a0])] at e_v5x1
        refine zc_wO F11 h_a0 (zc_frO h_a0 (zc_lt h_a0 (by decide)) (by decide) rfl (by decide)) (zc_mx r_v5x1 (zc_w _)) fun g6x1 F12 => ?_
        exact zm_iV F12
      · exact zm_iV F0
theorem zc_C2_own {d : Nat} {h : zv_H} {a0 : Nat} {a1 : Int} {a2 : Int} (hA : zc_A h) (h_a0 : zv_lay a0 = (1, 2)) (h_a1 : zv_rg a1) (h_a2 : zv_rg a2) : zm_R (C2_own (d + 2) a0 a1 a2 h) (fun q => zc_Q h q) := zm_cV (fun e => lC2_own (zc_ob hA h_a0) e) (zc_E2_own hA h_a0 h_a1 h_a2)
theorem zc_E5_bit {d : Nat} {h : zv_H} {a0 : Nat} (hA : zc_A h) (h_a0 : zv_lay a0 = (1, 5)) : zm_R (E5_bit (d + 0) a0 h) (zm_J fun _ h' => h' = h) := by
  have F0 := zc_Q_r hA
  rw [qE5_bit]
  refine zc_rT F0 h_a0 fun v1 e_v1 r_v1 => ?_
  exact zm_iJ rfl
theorem zc_C5_bit {d : Nat} {h : zv_H} {a0 : Nat} (hA : zc_A h) (h_a0 : zv_lay a0 = (1, 5)) : zm_R (C5_bit (d + 1) a0 h) (fun q => q.2 = h) := zm_cJ (fun e => lC5_bit (zc_ob hA h_a0) e) (zc_E5_bit hA h_a0)
theorem zc_E5_edits {d : Nat} {h : zv_H} {a0 : Nat} (hA : zc_A h) (h_a0 : zv_lay a0 = (1, 5)) : zm_R (E5_edits (d + 0) a0 h) (zm_I fun v h' => h' = h ∧ zv_rg v ∧ True) := by
  have F0 := zc_Q_r hA
  rw [qE5_edits]
  refine zc_rI F0 h_a0 fun v1 e_v1 r_v1 => ?_
  refine zm_if (fun c1 => ?_) (fun c1 => ?_)
  · exact zm_iI ⟨rfl, (by unfold zv_rg; omega), trivial⟩
  · refine zc_rI F0 h_a0 fun v2 e_v2 r_v2 => ?_
    refine zm_if (fun c2 => ?_) (fun c2 => ?_)
    · exact zm_iI ⟨rfl, (by unfold zv_rg; omega), trivial⟩
    · exact zm_iI ⟨rfl, (by unfold zv_rg; omega), trivial⟩
theorem zc_C5_edits {d : Nat} {h : zv_H} {a0 : Nat} (hA : zc_A h) (h_a0 : zv_lay a0 = (1, 5)) : zm_R (C5_edits (d + 1) a0 h) (fun q => q.2 = h ∧ zv_rg q.1 ∧ True) := zm_cI (fun e => lC5_edits (zc_ob hA h_a0) e) (zc_E5_edits hA h_a0)
theorem zc_E5_brings {d : Nat} {h : zv_H} {a0 : Nat} (hA : zc_A h) (h_a0 : zv_lay a0 = (1, 5)) : zm_R (E5_brings (d + 0) a0 h) (zm_I fun v h' => h' = h ∧ zv_rg v ∧ True) := by
  have F0 := zc_Q_r hA
  rw [qE5_brings]
  refine zc_rI F0 h_a0 fun v1 e_v1 r_v1 => ?_
  refine zm_if (fun c1 => ?_) (fun c1 => ?_)
  · exact zm_iI ⟨rfl, (by unfold zv_rg; omega), trivial⟩
  · refine zc_rI F0 h_a0 fun v2 e_v2 r_v2 => ?_
    refine zm_if (fun c2 => ?_) (fun c2 => ?_)
    · exact zm_iI ⟨rfl, (by unfold zv_rg; omega), trivial⟩
    · exact zm_iI ⟨rfl, (by unfold zv_rg; omega), trivial⟩
theorem zc_C5_brings {d : Nat} {h : zv_H} {a0 : Nat} (hA : zc_A h) (h_a0 : zv_lay a0 = (1, 5)) : zm_R (C5_brings (d + 1) a0 h) (fun q => q.2 = h ∧ zv_rg q.1 ∧ True) := zm_cI (fun e => lC5_brings (zc_ob hA h_a0) e) (zc_E5_brings hA h_a0)
theorem zc_E5_idAt {d : Nat} {h : zv_H} {a0 : Nat} {a1 : Int} (hA : zc_A h) (h_a0 : zv_lay a0 = (1, 5)) (h_a1 : zv_rg a1) : zm_R (E5_idAt (d + 0) a0 a1 h) (zm_I fun v h' => h' = h ∧ zv_rg v ∧ True) := by
  have F0 := zc_Q_r hA
  rw [qE5_idAt]
  refine zm_if (fun c1 => ?_) (fun c1 => ?_)
  · exact zm_iI ⟨rfl, (by unfold zv_rg; omega), trivial⟩
  · refine zc_rI F0 h_a0 fun v1 e_v1 r_v1 => ?_
    have b_v1 := zc_bdv (k := 12) (m := 120) F0 h_a0 rfl
    rw [← e_v1] at b_v1
    refine zm_if (fun c2 => ?_) (fun c2 => ?_)
    · refine zc_rF F0 2 h_a0 ?_
      refine zc_rAl F0 (zc_y5_2 h_a0).1 fun v3 e_v3 => ?_
      refine zm_if (fun c3 => ?_) (fun c3 => ?_)
      · refine zc_rF F0 2 h_a0 ?_
        refine zc_rA F0 (zc_y5_2 h_a0).1 (zc_y5_2 h_a0).2 (by omega) (by omega) fun v5 r_v5 => ?_
        exact zm_iI ⟨rfl, r_v5, trivial⟩
      · exact zm_iI ⟨rfl, (by unfold zv_rg; omega), trivial⟩
    · exact zm_iI ⟨rfl, (by unfold zv_rg; omega), trivial⟩
theorem zc_C5_idAt {d : Nat} {h : zv_H} {a0 : Nat} {a1 : Int} (hA : zc_A h) (h_a0 : zv_lay a0 = (1, 5)) (h_a1 : zv_rg a1) : zm_R (C5_idAt (d + 1) a0 a1 h) (fun q => q.2 = h ∧ zv_rg q.1 ∧ True) := zm_cI (fun e => lC5_idAt (zc_ob hA h_a0) e) (zc_E5_idAt hA h_a0 h_a1)
theorem zc_E5_addId {d : Nat} {h : zv_H} {a0 : Nat} {a1 : Int} (hA : zc_A h) (h_a0 : zv_lay a0 = (1, 5)) (h_a1 : zv_rg a1) : zm_R (E5_addId (d + 0) a0 a1 h) (zm_V fun h' => zc_Q h h') := by
  have F0 := zc_Q_r hA
  rw [qE5_addId]
  refine zc_rI F0 h_a0 fun v1 e_v1 r_v1 => ?_
  have b_v1 := zc_bdv (k := 12) (m := 120) F0 h_a0 rfl
  rw [← e_v1] at b_v1
  refine zm_if (fun c1 => ?_) (fun c1 => ?_)
  · exact zm_iV F0
  · refine zc_rI F0 h_a0 fun v2 e_v2 r_v2 => ?_
    have b_v2 := zc_bdv (k := 12) (m := 120) F0 h_a0 rfl
    rw [← e_v2] at b_v2
    refine zc_rF F0 2 h_a0 ?_
    refine zc_rAl F0 (zc_y5_2 h_a0).1 fun v4 e_v4 => ?_
    refine zm_if (fun c2 => ?_) (fun c2 => ?_)
    · refine zc_rF F0 2 h_a0 ?_
      refine zc_rI F0 h_a0 fun v6 e_v6 r_v6 => ?_
      have b_v6 := zc_bdv (k := 12) (m := 120) F0 h_a0 rfl
      rw [← e_v6] at b_v6
      refine zc_wA F0 (zc_y5_2 h_a0).1 (zc_y5_2 h_a0).2 (by omega) (by omega) h_a1 fun g7 F3 u_g7 => ?_
      refine zc_rI F3 h_a0 fun v8 e_v8 r_v8 => ?_
      rw [u_g7 _ _ (by rw [h_a0])] at e_v8
      have b_v8 := zc_bdv (k := 12) (m := 120) F3 h_a0 rfl
      rw [u_g7 _ _ (by rw [h_a0])] at b_v8
      rw [← e_v8] at b_v8
      refine zc_wL (m := 120) F3 h_a0 rfl (by rw [zm_w (by omega)]; omega) (by rw [zm_w (by omega)]; omega) ?_ (fun _ => by decide)
      intro g9 F4
      exact zm_iV F4
    · exact zm_iV F0
theorem zc_C5_addId {d : Nat} {h : zv_H} {a0 : Nat} {a1 : Int} (hA : zc_A h) (h_a0 : zv_lay a0 = (1, 5)) (h_a1 : zv_rg a1) : zm_R (C5_addId (d + 1) a0 a1 h) (fun q => zc_Q h q) := zm_cV (fun e => lC5_addId (zc_ob hA h_a0) e) (zc_E5_addId hA h_a0 h_a1)
theorem zc_E5_tookAt {d : Nat} {h : zv_H} {a0 : Nat} {a1 : Int} (hA : zc_A h) (h_a0 : zv_lay a0 = (1, 5)) (h_a1 : zv_rg a1) : zm_R (E5_tookAt (d + 0) a0 a1 h) (zm_I fun v h' => h' = h ∧ zv_rg v ∧ True) := by
  have F0 := zc_Q_r hA
  rw [qE5_tookAt]
  refine zc_rI F0 h_a0 fun v1 e_v1 r_v1 => ?_
  refine zm_if (fun c1 => ?_) (fun c1 => ?_)
  · refine zm_if (fun c2 => ?_) (fun c2 => ?_)
    · exact zm_iI ⟨rfl, (by unfold zv_rg; omega), trivial⟩
    · refine zc_rI F0 h_a0 fun v2 e_v2 r_v2 => ?_
      refine zm_if (fun c3 => ?_) (fun c3 => ?_)
      · refine zc_rF F0 1 h_a0 ?_
        refine zc_rAl F0 (zc_y5_1 h_a0).1 fun v4 e_v4 => ?_
        refine zm_if (fun c4 => ?_) (fun c4 => ?_)
        · refine zc_rF F0 1 h_a0 ?_
          refine zc_rA F0 (zc_y5_1 h_a0).1 (zc_y5_1 h_a0).2 (by omega) (by omega) fun v6 r_v6 => ?_
          exact zm_iI ⟨rfl, r_v6, trivial⟩
        · exact zm_iI ⟨rfl, (by unfold zv_rg; omega), trivial⟩
      · exact zm_iI ⟨rfl, (by unfold zv_rg; omega), trivial⟩
  · exact zm_iI ⟨rfl, (by unfold zv_rg; omega), trivial⟩
theorem zc_C5_tookAt {d : Nat} {h : zv_H} {a0 : Nat} {a1 : Int} (hA : zc_A h) (h_a0 : zv_lay a0 = (1, 5)) (h_a1 : zv_rg a1) : zm_R (C5_tookAt (d + 1) a0 a1 h) (fun q => q.2 = h ∧ zv_rg q.1 ∧ True) := zm_cI (fun e => lC5_tookAt (zc_ob hA h_a0) e) (zc_E5_tookAt hA h_a0 h_a1)
theorem zc_L5_tookIt_2 {d : Nat} {h0 : zv_H} (hA : zc_A h0) (N_L5_tookIt_2 : Nat) : ∀ {a0 : Nat} {a1 : Int} {a2 : Int}, (zv_lay a0 = (1, 5)) → (zv_rg a1) → (0 ≤ a2 ∧ zv_rg a2) → (2147483647 - a2).toNat = N_L5_tookIt_2 → zm_R (L5_tookIt_2 (d + 1) a0 a1 a2 h0) (zm_I fun v h' => h' = h0 ∧ zv_rg v ∧ True) := by
  induction N_L5_tookIt_2 using Nat.strongRecOn with
  | _ N_L5_tookIt_2 ih_L5_tookIt_2 =>
    intro a0 a1 a2 h_a0 h_a1 h_a2 eN
    rw [qL5_tookIt_2]
    have z_a2 := h_a2.1
    refine zc_rI (zc_Q_r hA) h_a0 fun v1 e_v1 r_v1 => ?_
    refine zm_if (fun c1 => ?_) (fun c1 => ?_)
    · refine zm_if (fun c2 => ?_) (fun c2 => ?_)
      · exact ih_L5_tookIt_2 _ (by rw [← eN]; exact zc_up h_a2.2 r_v1 c1) h_a0 h_a1 ⟨by rw [zc_up1 h_a2.2 r_v1 c1]; omega, zc_w _⟩  rfl
      · refine zc_pI (K := fun v => True) (zc_C5_tookAt (zc_Q_r hA).2 h_a0 h_a2.2) fun q2v r_q2 k_q2 => ?_
        dsimp only
        refine zm_if (fun c4 => ?_) (fun c4 => ?_)
        · exact zm_iI ⟨rfl, (by unfold zv_rg; omega), trivial⟩
        · exact ih_L5_tookIt_2 _ (by rw [← eN]; exact zc_up h_a2.2 r_v1 c1) h_a0 h_a1 ⟨by rw [zc_up1 h_a2.2 r_v1 c1]; omega, zc_w _⟩  rfl
    · exact zm_iI ⟨rfl, (by unfold zv_rg; omega), trivial⟩
theorem zc_E5_tookIt {d : Nat} {h : zv_H} {a0 : Nat} {a1 : Int} (hA : zc_A h) (h_a0 : zv_lay a0 = (1, 5)) (h_a1 : zv_rg a1) : zm_R (E5_tookIt (d + 1) a0 a1 h) (zm_I fun v h' => h' = h ∧ zv_rg v ∧ True) := by
  have F0 := zc_Q_r hA
  rw [qE5_tookIt]
  exact zc_L5_tookIt_2 hA  _ h_a0 h_a1 ⟨by omega, (by unfold zv_rg; omega)⟩  rfl
theorem zc_C5_tookIt {d : Nat} {h : zv_H} {a0 : Nat} {a1 : Int} (hA : zc_A h) (h_a0 : zv_lay a0 = (1, 5)) (h_a1 : zv_rg a1) : zm_R (C5_tookIt (d + 2) a0 a1 h) (fun q => q.2 = h ∧ zv_rg q.1 ∧ True) := zm_cI (fun e => lC5_tookIt (zc_ob hA h_a0) e) (zc_E5_tookIt hA h_a0 h_a1)
theorem zc_E7_clear {d : Nat} {h : zv_H} {a0 : Nat} (hA : zc_A h) (h_a0 : zv_lay a0 = (1, 7)) : zm_R (E7_clear (d + 0) a0 h) (zm_V fun h' => zc_Q h h') := by
  have F0 := zc_Q_r hA
  rw [qE7_clear]
  refine zc_wL (m := 40) F0 h_a0 rfl (by omega) (by omega) ?_ (fun _ => by decide)
  intro g1 F1
  exact zm_iV F1
theorem zc_C7_clear {d : Nat} {h : zv_H} {a0 : Nat} (hA : zc_A h) (h_a0 : zv_lay a0 = (1, 7)) : zm_R (C7_clear (d + 1) a0 h) (fun q => zc_Q h q) := zm_cV (fun e => lC7_clear (zc_ob hA h_a0) e) (zc_E7_clear hA h_a0)
theorem zc_E7_add {d : Nat} {h : zv_H} {a0 : Nat} {a1 : Int} (hA : zc_A h) (h_a0 : zv_lay a0 = (1, 7)) (h_a1 : zv_rg a1) : zm_R (E7_add (d + 0) a0 a1 h) (zm_V fun h' => zc_Q h h') := by
  have F0 := zc_Q_r hA
  rw [qE7_add]
  refine zc_rI F0 h_a0 fun v1 e_v1 r_v1 => ?_
  have b_v1 := zc_bdv (k := 1) (m := 40) F0 h_a0 rfl
  rw [← e_v1] at b_v1
  refine zm_if (fun c1 => ?_) (fun c1 => ?_)
  · exact zm_iV F0
  · refine zc_rI F0 h_a0 fun v2 e_v2 r_v2 => ?_
    have b_v2 := zc_bdv (k := 1) (m := 40) F0 h_a0 rfl
    rw [← e_v2] at b_v2
    refine zc_rF F0 1 h_a0 ?_
    refine zc_rAl F0 (zc_y7_0 h_a0).1 fun v4 e_v4 => ?_
    refine zm_if (fun c2 => ?_) (fun c2 => ?_)
    · refine zc_rF F0 1 h_a0 ?_
      refine zc_rI F0 h_a0 fun v6 e_v6 r_v6 => ?_
      have b_v6 := zc_bdv (k := 1) (m := 40) F0 h_a0 rfl
      rw [← e_v6] at b_v6
      refine zc_wA F0 (zc_y7_0 h_a0).1 (zc_y7_0 h_a0).2 (by omega) (by omega) h_a1 fun g7 F3 u_g7 => ?_
      refine zc_rI F3 h_a0 fun v8 e_v8 r_v8 => ?_
      rw [u_g7 _ _ (by rw [h_a0])] at e_v8
      have b_v8 := zc_bdv (k := 1) (m := 40) F3 h_a0 rfl
      rw [u_g7 _ _ (by rw [h_a0])] at b_v8
      rw [← e_v8] at b_v8
      refine zc_wL (m := 40) F3 h_a0 rfl (by rw [zm_w (by omega)]; omega) (by rw [zm_w (by omega)]; omega) ?_ (fun _ => by decide)
      intro g9 F4
      exact zm_iV F4
    · exact zm_iV F0
theorem zc_C7_add {d : Nat} {h : zv_H} {a0 : Nat} {a1 : Int} (hA : zc_A h) (h_a0 : zv_lay a0 = (1, 7)) (h_a1 : zv_rg a1) : zm_R (C7_add (d + 1) a0 a1 h) (fun q => zc_Q h q) := zm_cV (fun e => lC7_add (zc_ob hA h_a0) e) (zc_E7_add hA h_a0 h_a1)
theorem zc_E7_at {d : Nat} {h : zv_H} {a0 : Nat} {a1 : Int} (hA : zc_A h) (h_a0 : zv_lay a0 = (1, 7)) (h_a1 : zv_rg a1) : zm_R (E7_at (d + 0) a0 a1 h) (zm_I fun v h' => h' = h ∧ zv_rg v ∧ True) := by
  have F0 := zc_Q_r hA
  rw [qE7_at]
  refine zm_if (fun c1 => ?_) (fun c1 => ?_)
  · exact zm_iI ⟨rfl, (by unfold zv_rg; omega), trivial⟩
  · refine zc_rI F0 h_a0 fun v1 e_v1 r_v1 => ?_
    have b_v1 := zc_bdv (k := 1) (m := 40) F0 h_a0 rfl
    rw [← e_v1] at b_v1
    refine zm_if (fun c2 => ?_) (fun c2 => ?_)
    · refine zc_rF F0 1 h_a0 ?_
      refine zc_rAl F0 (zc_y7_0 h_a0).1 fun v3 e_v3 => ?_
      refine zm_if (fun c3 => ?_) (fun c3 => ?_)
      · refine zc_rF F0 1 h_a0 ?_
        refine zc_rA F0 (zc_y7_0 h_a0).1 (zc_y7_0 h_a0).2 (by omega) (by omega) fun v5 r_v5 => ?_
        exact zm_iI ⟨rfl, r_v5, trivial⟩
      · exact zm_iI ⟨rfl, (by unfold zv_rg; omega), trivial⟩
    · exact zm_iI ⟨rfl, (by unfold zv_rg; omega), trivial⟩
theorem zc_C7_at {d : Nat} {h : zv_H} {a0 : Nat} {a1 : Int} (hA : zc_A h) (h_a0 : zv_lay a0 = (1, 7)) (h_a1 : zv_rg a1) : zm_R (C7_at (d + 1) a0 a1 h) (fun q => q.2 = h ∧ zv_rg q.1 ∧ True) := zm_cI (fun e => lC7_at (zc_ob hA h_a0) e) (zc_E7_at hA h_a0 h_a1)
end
/-! 89.q -/
section
theorem zc_tm {x n : Int} (hx : zv_rg x) (hn : 0 < n ∧ n < 1000 := by decide) : zv_rg (x.tmod n) := by
  unfold zv_rg at *
  by_cases h : 0 ≤ x
  · have := zm_tmod (n := n) h hn.1
    omega
  · have e : x.tmod n = -((-x).tmod n) := by rw [Int.neg_tmod, Int.neg_neg]
    have := zm_tmod (x := -x) (n := n) (by omega) hn.1
    rw [e]
    omega
theorem zc_E4_id {d : Nat} {h : zv_H} {a0 : Int} {a1 : Int} (hA : zc_A h) (h_a0 : zv_rg a0) (h_a1 : zv_rg a1) : zm_R (E4_id (d + 0) a0 a1 h) (zm_I fun v h' => h' = h ∧ zv_rg v ∧ True) := by
  have F0 := zc_Q_r hA
  rw [qE4_id]
  refine zm_if (fun c1 => ?_) (fun c1 => ?_)
  · exact zm_iI ⟨rfl, h_a1, trivial⟩
  · exact zm_iI ⟨rfl, (zc_w _), trivial⟩
theorem zc_C4_id {d : Nat} {h : zv_H} {a0 : Int} {a1 : Int} (hA : zc_A h) (h_a0 : zv_rg a0) (h_a1 : zv_rg a1) : zm_R (C4_id (d + 1) a0 a1 h) (fun q => q.2 = h ∧ zv_rg q.1 ∧ True) := zm_cI (fun e => lC4_id e) (zc_E4_id hA h_a0 h_a1)
theorem zc_E4_putter {d : Nat} {h : zv_H} {a0 : Int} (hA : zc_A h) (h_a0 : zv_rg a0) : zm_R (E4_putter (d + 0) a0 h) (zm_I fun v h' => h' = h ∧ zv_rg v ∧ True) := by
  have F0 := zc_Q_r hA
  rw [qE4_putter]
  refine zm_if (fun c1 => ?_) (fun c1 => ?_)
  · exact zm_iI ⟨rfl, (by unfold zv_rg; omega), trivial⟩
  · exact zm_iI ⟨rfl, (zc_w _), trivial⟩
theorem zc_C4_putter {d : Nat} {h : zv_H} {a0 : Int} (hA : zc_A h) (h_a0 : zv_rg a0) : zm_R (C4_putter (d + 1) a0 h) (fun q => q.2 = h ∧ zv_rg q.1 ∧ True) := zm_cI (fun e => lC4_putter e) (zc_E4_putter hA h_a0)
theorem zc_E4_order {d : Nat} {h : zv_H} {a0 : Int} (hA : zc_A h) (h_a0 : zv_rg a0) : zm_R (E4_order (d + 0) a0 h) (zm_I fun v h' => h' = h ∧ zv_rg v ∧ True) := by
  have F0 := zc_Q_r hA
  rw [qE4_order]
  refine zm_if (fun c1 => ?_) (fun c1 => ?_)
  · exact zm_iI ⟨rfl, h_a0, trivial⟩
  · exact zm_iI ⟨rfl, (zc_tm (zc_w _)), trivial⟩
theorem zc_C4_order {d : Nat} {h : zv_H} {a0 : Int} (hA : zc_A h) (h_a0 : zv_rg a0) : zm_R (C4_order (d + 1) a0 h) (fun q => q.2 = h ∧ zv_rg q.1 ∧ True) := zm_cI (fun e => lC4_order e) (zc_E4_order hA h_a0)
theorem zc_E4_isId {d : Nat} {h : zv_H} {a0 : Int} (hA : zc_A h) (h_a0 : zv_rg a0) : zm_R (E4_isId (d + 0) a0 h) (zm_I fun v h' => h' = h ∧ zv_rg v ∧ ((v = 0 ∨ (v = 1 ∧ 0 ≤ a0 ∧ a0 < 604)))) := by
  have F0 := zc_Q_r hA
  rw [qE4_isId]
  refine zm_if (fun c1 => ?_) (fun c1 => ?_)
  · exact zm_iI ⟨rfl, (by unfold zv_rg; omega), by omega⟩
  · refine zm_if (fun c2 => ?_) (fun c2 => ?_)
    · exact zm_iI ⟨rfl, (by unfold zv_rg; omega), by omega⟩
    · exact zm_iI ⟨rfl, (by unfold zv_rg; omega), by omega⟩
theorem zc_C4_isId {d : Nat} {h : zv_H} {a0 : Int} (hA : zc_A h) (h_a0 : zv_rg a0) : zm_R (C4_isId (d + 1) a0 h) (fun q => q.2 = h ∧ zv_rg q.1 ∧ ((q.1 = 0 ∨ (q.1 = 1 ∧ 0 ≤ a0 ∧ a0 < 604)))) := zm_cI (fun e => lC4_isId e) (zc_E4_isId hA h_a0)
theorem zc_E4_numberAt {d : Nat} {h : zv_H} {a0 : Nat} {a1 : Int} (hA : zc_A h) (h_a0 : zv_lay a0 = (1, 4)) (h_a1 : zv_rg a1) : zm_R (E4_numberAt (d + 0) a0 a1 h) (zm_I fun v h' => h' = h ∧ zv_rg v ∧ True) := by
  have F0 := zc_Q_r hA
  rw [qE4_numberAt]
  refine zm_if (fun c1 => ?_) (fun c1 => ?_)
  · exact zm_iI ⟨rfl, (by unfold zv_rg; omega), trivial⟩
  · refine zc_rI F0 h_a0 fun v1 e_v1 r_v1 => ?_
    have b_v1 := zc_bdv (k := 5) (m := 48) F0 h_a0 rfl
    rw [← e_v1] at b_v1
    refine zm_if (fun c2 => ?_) (fun c2 => ?_)
    · refine zm_if (fun c3 => ?_) (fun c3 => ?_)
      · refine zc_rF F0 1 h_a0 ?_
        refine zc_rQ F0 h_a0 (by omega) (by omega) ?_
        refine zm_if (fun c4 => ?_) (fun c4 => ?_)
        · exact zm_iI ⟨rfl, (by unfold zv_rg; omega), trivial⟩
        · refine zc_rF F0 1 h_a0 ?_
          refine zc_rQ F0 h_a0 (by omega) (by omega) ?_
          refine zc_rT F0 ((zc_pa F0 h_a0 (a1).toNat).resolve_left c4) fun v6 e_v6 r_v6 => ?_
          exact zm_iI ⟨rfl, r_v6, trivial⟩
      · exact zm_iI ⟨rfl, (by unfold zv_rg; omega), trivial⟩
    · exact zm_iI ⟨rfl, (by unfold zv_rg; omega), trivial⟩
theorem zc_C4_numberAt {d : Nat} {h : zv_H} {a0 : Nat} {a1 : Int} (hA : zc_A h) (h_a0 : zv_lay a0 = (1, 4)) (h_a1 : zv_rg a1) : zm_R (C4_numberAt (d + 1) a0 a1 h) (fun q => q.2 = h ∧ zv_rg q.1 ∧ True) := zm_cI (fun e => lC4_numberAt (zc_ob hA h_a0) e) (zc_E4_numberAt hA h_a0 h_a1)
theorem zc_E4_idAt {d : Nat} {h : zv_H} {a0 : Nat} {a1 : Int} (hA : zc_A h) (h_a0 : zv_lay a0 = (1, 4)) (h_a1 : zv_rg a1) : zm_R (E4_idAt (d + 0) a0 a1 h) (zm_I fun v h' => h' = h ∧ zv_rg v ∧ True) := by
  have F0 := zc_Q_r hA
  rw [qE4_idAt]
  refine zm_if (fun c1 => ?_) (fun c1 => ?_)
  · exact zm_iI ⟨rfl, (by unfold zv_rg; omega), trivial⟩
  · refine zc_rI F0 h_a0 fun v1 e_v1 r_v1 => ?_
    refine zm_if (fun c2 => ?_) (fun c2 => ?_)
    · refine zm_if (fun c3 => ?_) (fun c3 => ?_)
      · refine zc_rF F0 2 h_a0 ?_
        refine zc_rA F0 (zc_y4_1 h_a0).1 (zc_y4_1 h_a0).2 (by omega) (by omega) fun v3 r_v3 => ?_
        exact zm_iI ⟨rfl, r_v3, trivial⟩
      · exact zm_iI ⟨rfl, (by unfold zv_rg; omega), trivial⟩
    · exact zm_iI ⟨rfl, (by unfold zv_rg; omega), trivial⟩
theorem zc_C4_idAt {d : Nat} {h : zv_H} {a0 : Nat} {a1 : Int} (hA : zc_A h) (h_a0 : zv_lay a0 = (1, 4)) (h_a1 : zv_rg a1) : zm_R (C4_idAt (d + 1) a0 a1 h) (fun q => q.2 = h ∧ zv_rg q.1 ∧ True) := zm_cI (fun e => lC4_idAt (zc_ob hA h_a0) e) (zc_E4_idAt hA h_a0 h_a1)
theorem zc_E4_seesAt {d : Nat} {h : zv_H} {a0 : Nat} {a1 : Int} (hA : zc_A h) (h_a0 : zv_lay a0 = (1, 4)) (h_a1 : zv_rg a1) : zm_R (E4_seesAt (d + 0) a0 a1 h) (zm_I fun v h' => h' = h ∧ zv_rg v ∧ True) := by
  have F0 := zc_Q_r hA
  rw [qE4_seesAt]
  refine zm_if (fun c1 => ?_) (fun c1 => ?_)
  · exact zm_iI ⟨rfl, (by unfold zv_rg; omega), trivial⟩
  · refine zc_rI F0 h_a0 fun v1 e_v1 r_v1 => ?_
    refine zm_if (fun c2 => ?_) (fun c2 => ?_)
    · refine zm_if (fun c3 => ?_) (fun c3 => ?_)
      · refine zc_rF F0 3 h_a0 ?_
        refine zc_rB F0 (zc_y4_2 h_a0).1 (zc_y4_2 h_a0).2 (by omega) (by omega) fun v3 r_v3 => ?_
        refine zm_if (fun c4 => ?_) (fun c4 => ?_)
        · exact zm_iI ⟨rfl, (by unfold zv_rg; omega), trivial⟩
        · exact zm_iI ⟨rfl, (by unfold zv_rg; omega), trivial⟩
      · exact zm_iI ⟨rfl, (by unfold zv_rg; omega), trivial⟩
    · exact zm_iI ⟨rfl, (by unfold zv_rg; omega), trivial⟩
theorem zc_C4_seesAt {d : Nat} {h : zv_H} {a0 : Nat} {a1 : Int} (hA : zc_A h) (h_a0 : zv_lay a0 = (1, 4)) (h_a1 : zv_rg a1) : zm_R (C4_seesAt (d + 1) a0 a1 h) (fun q => q.2 = h ∧ zv_rg q.1 ∧ True) := zm_cI (fun e => lC4_seesAt (zc_ob hA h_a0) e) (zc_E4_seesAt hA h_a0 h_a1)
theorem zc_L4_placeOf_2 {d : Nat} {h0 : zv_H} (hA : zc_A h0) (N_L4_placeOf_2 : Nat) : ∀ {a0 : Nat} {a1 : Int} {a2 : Int}, (zv_lay a0 = (1, 4)) → (zv_rg a1) → (0 ≤ a2 ∧ zv_rg a2) → (2147483647 - a2).toNat = N_L4_placeOf_2 → zm_R (L4_placeOf_2 (d + 1) a0 a1 a2 h0) (zm_I fun v h' => h' = h0 ∧ zv_rg v ∧ (v < 2147483647)) := by
  induction N_L4_placeOf_2 using Nat.strongRecOn with
  | _ N_L4_placeOf_2 ih_L4_placeOf_2 =>
    intro a0 a1 a2 h_a0 h_a1 h_a2 eN
    rw [qL4_placeOf_2]
    have z_a2 := h_a2.1
    refine zc_rI (zc_Q_r hA) h_a0 fun v1 e_v1 r_v1 => ?_
    refine zm_if (fun c1 => ?_) (fun c1 => ?_)
    · refine zm_if (fun c2 => ?_) (fun c2 => ?_)
      · exact ih_L4_placeOf_2 _ (by rw [← eN]; exact zc_up h_a2.2 r_v1 c1) h_a0 h_a1 ⟨by rw [zc_up1 h_a2.2 r_v1 c1]; omega, zc_w _⟩  rfl
      · refine zc_pI (K := fun v => True) (zc_C4_idAt (zc_Q_r hA).2 h_a0 h_a2.2) fun q2v r_q2 k_q2 => ?_
        dsimp only
        refine zm_if (fun c4 => ?_) (fun c4 => ?_)
        · exact zm_iI ⟨rfl, h_a2.2, (by unfold zv_rg at *; omega)⟩
        · exact ih_L4_placeOf_2 _ (by rw [← eN]; exact zc_up h_a2.2 r_v1 c1) h_a0 h_a1 ⟨by rw [zc_up1 h_a2.2 r_v1 c1]; omega, zc_w _⟩  rfl
    · exact zm_iI ⟨rfl, (by unfold zv_rg; omega), (by unfold zv_rg at *; omega)⟩
theorem zc_E4_placeOf {d : Nat} {h : zv_H} {a0 : Nat} {a1 : Int} (hA : zc_A h) (h_a0 : zv_lay a0 = (1, 4)) (h_a1 : zv_rg a1) : zm_R (E4_placeOf (d + 1) a0 a1 h) (zm_I fun v h' => h' = h ∧ zv_rg v ∧ (v < 2147483647)) := by
  have F0 := zc_Q_r hA
  rw [qE4_placeOf]
  exact zc_L4_placeOf_2 hA  _ h_a0 h_a1 ⟨by omega, (by unfold zv_rg; omega)⟩  rfl
theorem zc_C4_placeOf {d : Nat} {h : zv_H} {a0 : Nat} {a1 : Int} (hA : zc_A h) (h_a0 : zv_lay a0 = (1, 4)) (h_a1 : zv_rg a1) : zm_R (C4_placeOf (d + 2) a0 a1 h) (fun q => q.2 = h ∧ zv_rg q.1 ∧ (q.1 < 2147483647)) := zm_cI (fun e => lC4_placeOf (zc_ob hA h_a0) e) (zc_E4_placeOf hA h_a0 h_a1)
theorem zc_E4_outOfForce {d : Nat} {h : zv_H} {a0 : Nat} (hA : zc_A h) (h_a0 : zv_lay a0 = (1, 4)) : zm_R (E4_outOfForce (d + 0) a0 h) (zm_J fun _ h' => h' = h) := by
  have F0 := zc_Q_r hA
  rw [qE4_outOfForce]
  refine zc_rJ F0 h_a0 fun v1 => ?_
  refine zc_rJ F0 h_a0 fun v2 => ?_
  exact zm_iJ rfl
theorem zc_C4_outOfForce {d : Nat} {h : zv_H} {a0 : Nat} (hA : zc_A h) (h_a0 : zv_lay a0 = (1, 4)) : zm_R (C4_outOfForce (d + 1) a0 h) (fun q => q.2 = h) := zm_cJ (fun e => lC4_outOfForce (zc_ob hA h_a0) e) (zc_E4_outOfForce hA h_a0)
theorem zc_L4_walk_28 {d : Nat} {h0 : zv_H} (N_L4_walk_28 : Nat) : ∀ {h : zv_H} {a0 : Nat} {a2 : Int64} {a4 : Int64} {a6 : Nat}, zc_Q h0 h → (zv_lay a0 = (1, 4)) → (a6 = 0 ∨ zc_V h0 a6) → zc_dm h0 a6 = N_L4_walk_28 → zm_R (L4_walk_28 (d + 1) a0 a2 a4 a6 h) (zm_V fun h' => zc_Q h0 h') := by
  induction N_L4_walk_28 using Nat.strongRecOn with
  | _ N_L4_walk_28 ih_L4_walk_28 =>
    intro h a0 a2 a4 a6 F0 h_a0 h_a6 eN
    rw [qL4_walk_28]
    refine zm_if (fun c1 => ?_) (fun c1 => ?_)
    · refine zc_rJ F0 h_a0 fun v1 => ?_
      refine zc_wJ F0 h_a0 (zc_lt h_a0 (by decide)) fun g2 F2 => ?_
      exact zm_iV F2
    · refine zc_rT F0 (h_a6.resolve_left c1).1 fun v3 e_v3 r_v3 => ?_
      have d_v3 := (zc_dep F0 (h_a6.resolve_left c1)).1
      rw [← e_v3] at d_v3
      refine zm_if (fun c3 => ?_) (fun c3 => ?_)
      · rw [qL4_walk_63]
        refine zc_pI (K := fun v => True) (zc_C5_edits F0.2 (h_a6.resolve_left c1).1) fun q1v r_q1 k_q1 => ?_
        dsimp only
        refine zm_if (fun c5 => ?_) (fun c5 => ?_)
        · rw [qL4_walk_85]
          refine zc_rI F0 (h_a6.resolve_left c1).1 fun v1x1 e_v1x1 r_v1x1 => ?_
          refine zm_if (fun c6 => ?_) (fun c6 => ?_)
          · refine zc_rJ F0 (h_a6.resolve_left c1).1 fun v2 => ?_
            refine zc_rJ F0 (h_a6.resolve_left c1).1 fun v3x1 => ?_
            refine zc_rR5 F0 (h_a6.resolve_left c1).1 ?_
            exact ih_L4_walk_28 _ (by rw [← eN]; exact zc_dmP F0 (h_a6.resolve_left c1)) F0 h_a0 (zc_pV F0 (h_a6.resolve_left c1))  rfl
          · refine zc_rJ F0 (h_a6.resolve_left c1).1 fun v5 => ?_
            refine zc_rR5 F0 (h_a6.resolve_left c1).1 ?_
            exact ih_L4_walk_28 _ (by rw [← eN]; exact zc_dmP F0 (h_a6.resolve_left c1)) F0 h_a0 (zc_pV F0 (h_a6.resolve_left c1))  rfl
        · refine zc_rJ F0 h_a0 fun v2x1 => ?_
          refine zc_pJ (zc_C5_bit F0.2 (h_a6.resolve_left c1).1) fun q3v => ?_
          dsimp only
          refine zc_wJ F0 h_a0 (zc_lt h_a0 (by decide)) fun g4 F8 => ?_
          rw [qL4_walk_85]
          refine zc_rI F8 (h_a6.resolve_left c1).1 fun v1x2 e_v1x2 r_v1x2 => ?_
          refine zm_if (fun c9 => ?_) (fun c9 => ?_)
          · refine zc_rJ F8 (h_a6.resolve_left c1).1 fun v2x2 => ?_
            refine zc_rJ F8 (h_a6.resolve_left c1).1 fun v3x2 => ?_
            refine zc_rR5 F8 (h_a6.resolve_left c1).1 ?_
            exact ih_L4_walk_28 _ (by rw [← eN]; exact zc_dmP F8 (h_a6.resolve_left c1)) F8 h_a0 (zc_pV F8 (h_a6.resolve_left c1))  rfl
          · refine zc_rJ F8 (h_a6.resolve_left c1).1 fun v5x1 => ?_
            refine zc_rR5 F8 (h_a6.resolve_left c1).1 ?_
            exact ih_L4_walk_28 _ (by rw [← eN]; exact zc_dmP F8 (h_a6.resolve_left c1)) F8 h_a0 (zc_pV F8 (h_a6.resolve_left c1))  rfl
      · refine zc_rT F0 (h_a6.resolve_left c1).1 fun v4x2 e_v4x2 r_v4x2 => ?_
        have d_v4x2 := (zc_dep F0 (h_a6.resolve_left c1)).1
        rw [← e_v4x2] at d_v4x2
        refine zm_if (fun c10 => ?_) (fun c10 => ?_)
        · refine zc_rF F0 1 h_a0 ?_
          refine zc_rT F0 (h_a6.resolve_left c1).1 fun v6x2 e_v6x2 r_v6x2 => ?_
          have d_v6x2 := (zc_dep F0 (h_a6.resolve_left c1)).1
          rw [← e_v6x2] at d_v6x2
          refine zc_wP F0 h_a0 (by omega) (by omega) (h_a6.resolve_left c1).1 fun g7 F11 => ?_
          rw [qL4_walk_63]
          refine zc_pI (K := fun v => True) (zc_C5_edits F11.2 (h_a6.resolve_left c1).1) fun q1x1v r_q1x1 k_q1x1 => ?_
          dsimp only
          refine zm_if (fun c13 => ?_) (fun c13 => ?_)
          · rw [qL4_walk_85]
            refine zc_rI F11 (h_a6.resolve_left c1).1 fun v1x3 e_v1x3 r_v1x3 => ?_
            refine zm_if (fun c14 => ?_) (fun c14 => ?_)
            · refine zc_rJ F11 (h_a6.resolve_left c1).1 fun v2x3 => ?_
              refine zc_rJ F11 (h_a6.resolve_left c1).1 fun v3x3 => ?_
              refine zc_rR5 F11 (h_a6.resolve_left c1).1 ?_
              exact ih_L4_walk_28 _ (by rw [← eN]; exact zc_dmP F11 (h_a6.resolve_left c1)) F11 h_a0 (zc_pV F11 (h_a6.resolve_left c1))  rfl
            · refine zc_rJ F11 (h_a6.resolve_left c1).1 fun v5x3 => ?_
              refine zc_rR5 F11 (h_a6.resolve_left c1).1 ?_
              exact ih_L4_walk_28 _ (by rw [← eN]; exact zc_dmP F11 (h_a6.resolve_left c1)) F11 h_a0 (zc_pV F11 (h_a6.resolve_left c1))  rfl
          · refine zc_rJ F11 h_a0 fun v2x4 => ?_
            refine zc_pJ (zc_C5_bit F11.2 (h_a6.resolve_left c1).1) fun q3x1v => ?_
            dsimp only
            refine zc_wJ F11 h_a0 (zc_lt h_a0 (by decide)) fun g4x1 F16 => ?_
            rw [qL4_walk_85]
            refine zc_rI F16 (h_a6.resolve_left c1).1 fun v1x4 e_v1x4 r_v1x4 => ?_
            refine zm_if (fun c17 => ?_) (fun c17 => ?_)
            · refine zc_rJ F16 (h_a6.resolve_left c1).1 fun v2x5 => ?_
              refine zc_rJ F16 (h_a6.resolve_left c1).1 fun v3x4 => ?_
              refine zc_rR5 F16 (h_a6.resolve_left c1).1 ?_
              exact ih_L4_walk_28 _ (by rw [← eN]; exact zc_dmP F16 (h_a6.resolve_left c1)) F16 h_a0 (zc_pV F16 (h_a6.resolve_left c1))  rfl
            · refine zc_rJ F16 (h_a6.resolve_left c1).1 fun v5x4 => ?_
              refine zc_rR5 F16 (h_a6.resolve_left c1).1 ?_
              exact ih_L4_walk_28 _ (by rw [← eN]; exact zc_dmP F16 (h_a6.resolve_left c1)) F16 h_a0 (zc_pV F16 (h_a6.resolve_left c1))  rfl
        · rw [qL4_walk_63]
          refine zc_pI (K := fun v => True) (zc_C5_edits F0.2 (h_a6.resolve_left c1).1) fun q1x2v r_q1x2 k_q1x2 => ?_
          dsimp only
          refine zm_if (fun c19 => ?_) (fun c19 => ?_)
          · rw [qL4_walk_85]
            refine zc_rI F0 (h_a6.resolve_left c1).1 fun v1x5 e_v1x5 r_v1x5 => ?_
            refine zm_if (fun c20 => ?_) (fun c20 => ?_)
            · refine zc_rJ F0 (h_a6.resolve_left c1).1 fun v2x6 => ?_
              refine zc_rJ F0 (h_a6.resolve_left c1).1 fun v3x5 => ?_
              refine zc_rR5 F0 (h_a6.resolve_left c1).1 ?_
              exact ih_L4_walk_28 _ (by rw [← eN]; exact zc_dmP F0 (h_a6.resolve_left c1)) F0 h_a0 (zc_pV F0 (h_a6.resolve_left c1))  rfl
            · refine zc_rJ F0 (h_a6.resolve_left c1).1 fun v5x5 => ?_
              refine zc_rR5 F0 (h_a6.resolve_left c1).1 ?_
              exact ih_L4_walk_28 _ (by rw [← eN]; exact zc_dmP F0 (h_a6.resolve_left c1)) F0 h_a0 (zc_pV F0 (h_a6.resolve_left c1))  rfl
          · refine zc_rJ F0 h_a0 fun v2x7 => ?_
            refine zc_pJ (zc_C5_bit F0.2 (h_a6.resolve_left c1).1) fun q3x2v => ?_
            dsimp only
            refine zc_wJ F0 h_a0 (zc_lt h_a0 (by decide)) fun g4x2 F22 => ?_
            rw [qL4_walk_85]
            refine zc_rI F22 (h_a6.resolve_left c1).1 fun v1x6 e_v1x6 r_v1x6 => ?_
            refine zm_if (fun c23 => ?_) (fun c23 => ?_)
            · refine zc_rJ F22 (h_a6.resolve_left c1).1 fun v2x8 => ?_
              refine zc_rJ F22 (h_a6.resolve_left c1).1 fun v3x6 => ?_
              refine zc_rR5 F22 (h_a6.resolve_left c1).1 ?_
              exact ih_L4_walk_28 _ (by rw [← eN]; exact zc_dmP F22 (h_a6.resolve_left c1)) F22 h_a0 (zc_pV F22 (h_a6.resolve_left c1))  rfl
            · refine zc_rJ F22 (h_a6.resolve_left c1).1 fun v5x6 => ?_
              refine zc_rR5 F22 (h_a6.resolve_left c1).1 ?_
              exact ih_L4_walk_28 _ (by rw [← eN]; exact zc_dmP F22 (h_a6.resolve_left c1)) F22 h_a0 (zc_pV F22 (h_a6.resolve_left c1))  rfl
theorem zc_E4_walk {d : Nat} {h : zv_H} {a0 : Nat} {a1 : Nat} (hA : zc_A h) (h_a0 : zv_lay a0 = (1, 4)) (h_a1 : zc_V h a1) : zm_R (E4_walk (d + 1) a0 a1 h) (zm_V fun h' => zc_Q h h') := by
  have F0 := zc_Q_r hA
  rw [qE4_walk]
  refine zc_wJ F0 h_a0 (zc_lt h_a0 (by decide)) fun g1 F1 => ?_
  refine zc_rT F1 h_a1.1 fun v2 e_v2 r_v2 => ?_
  have d_v2 := (zc_dep F1 h_a1).1
  rw [← e_v2] at d_v2
  refine zc_wL (m := 48) F1 h_a0 rfl (by rw [zm_w (by omega)]; omega) (by rw [zm_w (by omega)]; omega) ?_ (fun _ => by decide)
  intro g3 F2
  exact zc_L4_walk_28  _ F2 h_a0 (Or.inr h_a1)  rfl
theorem zc_C4_walk {d : Nat} {h : zv_H} {a0 : Nat} {a1 : Nat} (hA : zc_A h) (h_a0 : zv_lay a0 = (1, 4)) (h_a1 : zc_V h a1) : zm_R (C4_walk (d + 2) a0 a1 h) (fun q => zc_Q h q) := zm_cV (fun e => lC4_walk (zc_ob hA h_a0) e) (zc_E4_walk hA h_a0 h_a1)
theorem zc_L4_link_31 {d : Nat} {h0 : zv_H} (N_L4_link_31 : Nat) : ∀ {h : zv_H} {a0 : Nat} {a1 : Nat} {a2 : Int} {a3 : Int} {a4 : Int}, zc_Q h0 h → (zv_lay a0 = (1, 4)) → (zv_lay a1 = (1, 5)) → ((0 ≤ a2 ∧ a2 < 605) ∧ zv_rg a2) → (zv_rg a3) → (0 ≤ a4 ∧ zv_rg a4) → (2147483647 - a4).toNat = N_L4_link_31 → zm_R (L4_link_31 (d + 1) a0 a1 a2 a3 a4 h) (zm_V fun h' => zc_Q h0 h') := by
  induction N_L4_link_31 using Nat.strongRecOn with
  | _ N_L4_link_31 ih_L4_link_31 =>
    intro h a0 a1 a2 a3 a4 F0 h_a0 h_a1 h_a2 h_a3 h_a4 eN
    rw [qL4_link_31]
    have z_a2 := h_a2.1
    have z_a4 := h_a4.1
    refine zc_rI F0 h_a1 fun v1 e_v1 r_v1 => ?_
    refine zm_if (fun c1 => ?_) (fun c1 => ?_)
    · refine zc_rT F0 h_a1 fun v2 e_v2 r_v2 => ?_
      refine zc_pI (K := fun v => True) (zc_C4_id F0.2 r_v2 h_a4.2) fun q3v r_q3 k_q3 => ?_
      dsimp only
      refine zc_pI (K := fun v => (v = 0 ∨ (v = 1 ∧ 0 ≤ q3v ∧ q3v < 604))) (zc_C4_isId F0.2 r_q3) fun q4v r_q4 k_q4 => ?_
      dsimp only
      refine zm_if (fun c4 => ?_) (fun c4 => ?_)
      · exact ih_L4_link_31 _ (by rw [← eN]; exact zc_up h_a4.2 r_v1 c1) F0 h_a0 h_a1 ⟨by unfold zv_rg at *; omega, h_a2.2⟩ h_a3 ⟨by rw [zc_up1 h_a4.2 r_v1 c1]; omega, zc_w _⟩  rfl
      · refine zc_rF F0 5 h_a0 ?_
        refine zc_wA F0 (zc_y4_4 h_a0).1 (zc_y4_4 h_a0).2 (by omega) (by omega) r_q3 fun g6 F5 u_g6 => ?_
        exact ih_L4_link_31 _ (by rw [← eN]; exact zc_up h_a4.2 r_v1 c1) F5 h_a0 h_a1 ⟨by unfold zv_rg at *; omega, r_q3⟩ h_a3 ⟨by rw [zc_up1 h_a4.2 r_v1 c1]; omega, zc_w _⟩  rfl
    · refine zc_rF F0 5 h_a0 ?_
      refine zc_wA F0 (zc_y4_4 h_a0).1 (zc_y4_4 h_a0).2 (by omega) (by omega) h_a3 fun g8 F6 u_g8 => ?_
      exact zm_iV F6
theorem zc_E4_link {d : Nat} {h : zv_H} {a0 : Nat} {a1 : Nat} (hA : zc_A h) (h_a0 : zv_lay a0 = (1, 4)) (h_a1 : zv_lay a1 = (1, 5)) : zm_R (E4_link (d + 1) a0 a1 h) (zm_V fun h' => zc_Q h h') := by
  have F0 := zc_Q_r hA
  rw [qE4_link]
  refine zc_rI F0 h_a1 fun v1 e_v1 r_v1 => ?_
  refine zc_pI (K := fun v => (v = 0 ∨ (v = 1 ∧ 0 ≤ v1 ∧ v1 < 604))) (zc_C4_isId F0.2 r_v1) fun q2v r_q2 k_q2 => ?_
  dsimp only
  refine zm_if (fun c2 => ?_) (fun c2 => ?_)
  · refine zc_rF F0 5 h_a0 ?_
    refine zc_rA F0 (zc_y4_4 h_a0).1 (zc_y4_4 h_a0).2 (by omega) (by omega) fun v4 r_v4 => ?_
    exact zc_L4_link_31  _ F0 h_a0 h_a1 ⟨by unfold zv_rg at *; omega, (by unfold zv_rg; omega)⟩ r_v4 ⟨by omega, (by unfold zv_rg; omega)⟩  rfl
  · refine zc_rI F0 h_a1 fun v5 e_v5 r_v5 => ?_
    refine zc_rF F0 5 h_a0 ?_
    refine zc_rA F0 (zc_y4_4 h_a0).1 (zc_y4_4 h_a0).2 (by omega) (by omega) fun v7 r_v7 => ?_
    exact zc_L4_link_31  _ F0 h_a0 h_a1 ⟨by unfold zv_rg at *; omega, r_v5⟩ r_v7 ⟨by omega, (by unfold zv_rg; omega)⟩  rfl
theorem zc_C4_link {d : Nat} {h : zv_H} {a0 : Nat} {a1 : Nat} (hA : zc_A h) (h_a0 : zv_lay a0 = (1, 4)) (h_a1 : zv_lay a1 = (1, 5)) : zm_R (C4_link (d + 2) a0 a1 h) (fun q => zc_Q h q) := zm_cV (fun e => lC4_link (zc_ob hA h_a0) e) (zc_E4_link hA h_a0 h_a1)
theorem zc_L4_look_43 {d : Nat} {h0 : zv_H} {N_L4_look_24 : Nat} (ih_L4_look_24 : ∀ m, m < N_L4_look_24 → ∀ {h : zv_H} {a0 : Nat} {a1 : Int64} {a3 : Int}, zc_Q h0 h → (zv_lay a0 = (1, 4)) → (0 ≤ a3 ∧ zv_rg a3) → (2147483647 - a3).toNat = m → zm_R (L4_look_24 (d + 1) a0 a1 a3 h) (zm_V fun h' => zc_Q h0 h')) (N_L4_look_43 : Nat) : ∀ {h : zv_H} {a0 : Nat} {a1 : Int64} {a3 : Int} {a4 : Nat} {a5 : Int}, zc_Q h0 h → (zv_lay a0 = (1, 4)) → (zv_rg a3) → (a4 = 0 ∨ zv_lay a4 = (1, 5)) → (0 ≤ a5 ∧ zv_rg a5) → ((2147483647 - (zv_w (a3 + 1))).toNat < N_L4_look_24 ∧ 0 ≤ (zv_w (a3 + 1))) → (2147483647 - a5).toNat = N_L4_look_43 → zm_R (L4_look_43 (d + 1) a0 a1 a3 a4 a5 h) (zm_V fun h' => zc_Q h0 h') := by
  induction N_L4_look_43 using Nat.strongRecOn with
  | _ N_L4_look_43 ih_L4_look_43 =>
    intro h a0 a1 a3 a4 a5 F0 h_a0 h_a3 h_a4 h_a5 hm_L4_look_24 eN
    rw [qL4_look_43]
    have z_a5 := h_a5.1
    refine zm_if (fun c1 => ?_) (fun c1 => ?_)
    · exact ih_L4_look_24 _ hm_L4_look_24.1 F0 h_a0 ⟨hm_L4_look_24.2, (zc_w _)⟩  rfl
    · refine zc_pJ (zc_C5_bit F0.2 (h_a4.resolve_left c1)) fun q1v => ?_
      dsimp only
      refine zm_if (fun c3 => ?_) (fun c3 => ?_)
      · exact ih_L4_look_24 _ hm_L4_look_24.1 F0 h_a0 ⟨hm_L4_look_24.2, (zc_w _)⟩  rfl
      · refine zc_rI F0 (h_a4.resolve_left c1) fun v2 e_v2 r_v2 => ?_
        refine zm_if (fun c4 => ?_) (fun c4 => ?_)
        · refine zc_pI (K := fun v => True) (zc_C5_tookAt F0.2 (h_a4.resolve_left c1) h_a5.2) fun q3v r_q3 k_q3 => ?_
          dsimp only
          refine zc_pI (K := fun v => (v = 0 ∨ (v = 1 ∧ 0 ≤ q3v ∧ q3v < 604))) (zc_C4_isId F0.2 r_q3) fun q4v r_q4 k_q4 => ?_
          dsimp only
          refine zm_if (fun c7 => ?_) (fun c7 => ?_)
          · exact ih_L4_look_43 _ (by rw [← eN]; exact zc_up h_a5.2 r_v2 c4) F0 h_a0 h_a3 (Or.inr (h_a4.resolve_left c1)) ⟨by rw [zc_up1 h_a5.2 r_v2 c4]; omega, zc_w _⟩ hm_L4_look_24 rfl
          · refine zc_rF F0 4 h_a0 ?_
            refine zc_wB F0 (zc_y4_3 h_a0).1 (zc_y4_3 h_a0).2 (by omega) (by omega) fun g6 F8 u_g6 => ?_
            exact ih_L4_look_43 _ (by rw [← eN]; exact zc_up h_a5.2 r_v2 c4) F8 h_a0 h_a3 (Or.inr (h_a4.resolve_left c1)) ⟨by rw [zc_up1 h_a5.2 r_v2 c4]; omega, zc_w _⟩ hm_L4_look_24 rfl
        · exact ih_L4_look_24 _ hm_L4_look_24.1 F0 h_a0 ⟨hm_L4_look_24.2, (zc_w _)⟩  rfl
theorem zc_L4_look_114 {d : Nat} {h0 : zv_H} (N_L4_look_114 : Nat) : ∀ {h : zv_H} {a0 : Nat} {a1 : Int64} {a3 : Int}, zc_Q h0 h → (zv_lay a0 = (1, 4)) → (0 ≤ a3 ∧ zv_rg a3) → (2147483647 - a3).toNat = N_L4_look_114 → zm_R (L4_look_114 (d + 1) a0 a1 a3 h) (zm_V fun h' => zc_Q h0 h') := by
  induction N_L4_look_114 using Nat.strongRecOn with
  | _ N_L4_look_114 ih_L4_look_114 =>
    intro h a0 a1 a3 F0 h_a0 h_a3 eN
    rw [qL4_look_114]
    have z_a3 := h_a3.1
    refine zc_rI F0 h_a0 fun v1 e_v1 r_v1 => ?_
    refine zm_if (fun c1 => ?_) (fun c1 => ?_)
    · refine zm_if (fun c2 => ?_) (fun c2 => ?_)
      · refine zc_rF F0 2 h_a0 ?_
        refine zc_rA F0 (zc_y4_1 h_a0).1 (zc_y4_1 h_a0).2 (by omega) (by omega) fun v3 r_v3 => ?_
        refine zc_pI (K := fun v => True) (zc_C4_putter F0.2 r_v3) fun q4v r_q4 k_q4 => ?_
        dsimp only
        refine zc_rF F0 3 h_a0 ?_
        refine zc_pI (K := fun v => (v = 0 ∨ (v = 1 ∧ 0 ≤ v3 ∧ v3 < 604))) (zc_C4_isId F0.2 r_v3) fun q6v r_q6 k_q6 => ?_
        dsimp only
        refine zm_if (fun c5 => ?_) (fun c5 => ?_)
        · rw [qL4_look_187]
          rw [qL4_look_188]
          refine zc_wB F0 (zc_y4_2 h_a0).1 (zc_y4_2 h_a0).2 (by omega) (by omega) fun g1 F6 u_g1 => ?_
          refine zc_rI F6 h_a0 fun v2x1 e_v2x1 r_v2x1 => ?_
          rw [u_g1 _ _ (by rw [h_a0])] at e_v2x1
          refine zc_rF F6 3 h_a0 ?_
          refine zc_rB F6 (zc_y4_2 h_a0).1 (zc_y4_2 h_a0).2 (by omega) (by omega) fun v4 r_v4 => ?_
          refine zm_if (fun c7 => ?_) (fun c7 => ?_)
          · refine zc_wO F6 h_a0 (zc_frO h_a0 (zc_lt h_a0 (by decide)) (by decide) rfl (by decide)) (zc_w _) fun g5 F8 => ?_
            exact ih_L4_look_114 _ (by rw [← eN]; exact zc_up h_a3.2 (by unfold zv_rg; omega) c2) F8 h_a0 ⟨by rw [zc_up1 h_a3.2 (by unfold zv_rg; omega) c2]; omega, zc_w _⟩  rfl
          · refine zc_wO F6 h_a0 (zc_frO h_a0 (zc_lt h_a0 (by decide)) (by decide) rfl (by decide)) (zc_w _) fun g6 F9 => ?_
            exact ih_L4_look_114 _ (by rw [← eN]; exact zc_up h_a3.2 (by unfold zv_rg; omega) c2) F9 h_a0 ⟨by rw [zc_up1 h_a3.2 (by unfold zv_rg; omega) c2]; omega, zc_w _⟩  rfl
        · refine zc_rF F0 4 h_a0 ?_
          refine zc_rB F0 (zc_y4_3 h_a0).1 (zc_y4_3 h_a0).2 (by omega) (by omega) fun v8 r_v8 => ?_
          refine zm_if (fun c10 => ?_) (fun c10 => ?_)
          · refine zm_if (fun c11 => ?_) (fun c11 => ?_)
            · rw [qL4_look_183]
              rw [qL4_look_188]
              refine zc_wB F0 (zc_y4_2 h_a0).1 (zc_y4_2 h_a0).2 (by omega) (by omega) fun g1x1 F12 u_g1x1 => ?_
              refine zc_rI F12 h_a0 fun v2x2 e_v2x2 r_v2x2 => ?_
              rw [u_g1x1 _ _ (by rw [h_a0])] at e_v2x2
              refine zc_rF F12 3 h_a0 ?_
              refine zc_rB F12 (zc_y4_2 h_a0).1 (zc_y4_2 h_a0).2 (by omega) (by omega) fun v4x1 r_v4x1 => ?_
              refine zm_if (fun c13 => ?_) (fun c13 => ?_)
              · refine zc_wO F12 h_a0 (zc_frO h_a0 (zc_lt h_a0 (by decide)) (by decide) rfl (by decide)) (zc_w _) fun g5x1 F14 => ?_
                exact ih_L4_look_114 _ (by rw [← eN]; exact zc_up h_a3.2 (by unfold zv_rg; omega) c2) F14 h_a0 ⟨by rw [zc_up1 h_a3.2 (by unfold zv_rg; omega) c2]; omega, zc_w _⟩  rfl
              · refine zc_wO F12 h_a0 (zc_frO h_a0 (zc_lt h_a0 (by decide)) (by decide) rfl (by decide)) (zc_w _) fun g6x1 F15 => ?_
                exact ih_L4_look_114 _ (by rw [← eN]; exact zc_up h_a3.2 (by unfold zv_rg; omega) c2) F15 h_a0 ⟨by rw [zc_up1 h_a3.2 (by unfold zv_rg; omega) c2]; omega, zc_w _⟩  rfl
            · refine zm_if (fun c16 => ?_) (fun c16 => ?_)
              · rw [qL4_look_187]
                rw [qL4_look_188]
                refine zc_wB F0 (zc_y4_2 h_a0).1 (zc_y4_2 h_a0).2 (by omega) (by omega) fun g1x2 F17 u_g1x2 => ?_
                refine zc_rI F17 h_a0 fun v2x3 e_v2x3 r_v2x3 => ?_
                rw [u_g1x2 _ _ (by rw [h_a0])] at e_v2x3
                refine zc_rF F17 3 h_a0 ?_
                refine zc_rB F17 (zc_y4_2 h_a0).1 (zc_y4_2 h_a0).2 (by omega) (by omega) fun v4x2 r_v4x2 => ?_
                refine zm_if (fun c18 => ?_) (fun c18 => ?_)
                · refine zc_wO F17 h_a0 (zc_frO h_a0 (zc_lt h_a0 (by decide)) (by decide) rfl (by decide)) (zc_w _) fun g5x2 F19 => ?_
                  exact ih_L4_look_114 _ (by rw [← eN]; exact zc_up h_a3.2 (by unfold zv_rg; omega) c2) F19 h_a0 ⟨by rw [zc_up1 h_a3.2 (by unfold zv_rg; omega) c2]; omega, zc_w _⟩  rfl
                · refine zc_wO F17 h_a0 (zc_frO h_a0 (zc_lt h_a0 (by decide)) (by decide) rfl (by decide)) (zc_w _) fun g6x2 F20 => ?_
                  exact ih_L4_look_114 _ (by rw [← eN]; exact zc_up h_a3.2 (by unfold zv_rg; omega) c2) F20 h_a0 ⟨by rw [zc_up1 h_a3.2 (by unfold zv_rg; omega) c2]; omega, zc_w _⟩  rfl
              · rw [qL4_look_183]
                rw [qL4_look_188]
                refine zc_wB F0 (zc_y4_2 h_a0).1 (zc_y4_2 h_a0).2 (by omega) (by omega) fun g1x3 F21 u_g1x3 => ?_
                refine zc_rI F21 h_a0 fun v2x4 e_v2x4 r_v2x4 => ?_
                rw [u_g1x3 _ _ (by rw [h_a0])] at e_v2x4
                refine zc_rF F21 3 h_a0 ?_
                refine zc_rB F21 (zc_y4_2 h_a0).1 (zc_y4_2 h_a0).2 (by omega) (by omega) fun v4x3 r_v4x3 => ?_
                refine zm_if (fun c22 => ?_) (fun c22 => ?_)
                · refine zc_wO F21 h_a0 (zc_frO h_a0 (zc_lt h_a0 (by decide)) (by decide) rfl (by decide)) (zc_w _) fun g5x3 F23 => ?_
                  exact ih_L4_look_114 _ (by rw [← eN]; exact zc_up h_a3.2 (by unfold zv_rg; omega) c2) F23 h_a0 ⟨by rw [zc_up1 h_a3.2 (by unfold zv_rg; omega) c2]; omega, zc_w _⟩  rfl
                · refine zc_wO F21 h_a0 (zc_frO h_a0 (zc_lt h_a0 (by decide)) (by decide) rfl (by decide)) (zc_w _) fun g6x3 F24 => ?_
                  exact ih_L4_look_114 _ (by rw [← eN]; exact zc_up h_a3.2 (by unfold zv_rg; omega) c2) F24 h_a0 ⟨by rw [zc_up1 h_a3.2 (by unfold zv_rg; omega) c2]; omega, zc_w _⟩  rfl
          · rw [qL4_look_187]
            rw [qL4_look_188]
            refine zc_wB F0 (zc_y4_2 h_a0).1 (zc_y4_2 h_a0).2 (by omega) (by omega) fun g1x4 F25 u_g1x4 => ?_
            refine zc_rI F25 h_a0 fun v2x5 e_v2x5 r_v2x5 => ?_
            rw [u_g1x4 _ _ (by rw [h_a0])] at e_v2x5
            refine zc_rF F25 3 h_a0 ?_
            refine zc_rB F25 (zc_y4_2 h_a0).1 (zc_y4_2 h_a0).2 (by omega) (by omega) fun v4x4 r_v4x4 => ?_
            refine zm_if (fun c26 => ?_) (fun c26 => ?_)
            · refine zc_wO F25 h_a0 (zc_frO h_a0 (zc_lt h_a0 (by decide)) (by decide) rfl (by decide)) (zc_w _) fun g5x4 F27 => ?_
              exact ih_L4_look_114 _ (by rw [← eN]; exact zc_up h_a3.2 (by unfold zv_rg; omega) c2) F27 h_a0 ⟨by rw [zc_up1 h_a3.2 (by unfold zv_rg; omega) c2]; omega, zc_w _⟩  rfl
            · refine zc_wO F25 h_a0 (zc_frO h_a0 (zc_lt h_a0 (by decide)) (by decide) rfl (by decide)) (zc_w _) fun g6x4 F28 => ?_
              exact ih_L4_look_114 _ (by rw [← eN]; exact zc_up h_a3.2 (by unfold zv_rg; omega) c2) F28 h_a0 ⟨by rw [zc_up1 h_a3.2 (by unfold zv_rg; omega) c2]; omega, zc_w _⟩  rfl
      · exact zm_iV F0
    · exact zm_iV F0
theorem zc_L4_look_24 {d : Nat} {h0 : zv_H} (N_L4_look_24 : Nat) : ∀ {h : zv_H} {a0 : Nat} {a1 : Int64} {a3 : Int}, zc_Q h0 h → (zv_lay a0 = (1, 4)) → (0 ≤ a3 ∧ zv_rg a3) → (2147483647 - a3).toNat = N_L4_look_24 → zm_R (L4_look_24 (d + 1) a0 a1 a3 h) (zm_V fun h' => zc_Q h0 h') := by
  induction N_L4_look_24 using Nat.strongRecOn with
  | _ N_L4_look_24 ih_L4_look_24 =>
    intro h a0 a1 a3 F0 h_a0 h_a3 eN
    rw [qL4_look_24]
    have z_a3 := h_a3.1
    refine zc_rI F0 h_a0 fun v1 e_v1 r_v1 => ?_
    have b_v1 := zc_bdv (k := 5) (m := 48) F0 h_a0 rfl
    rw [← e_v1] at b_v1
    refine zm_if (fun c1 => ?_) (fun c1 => ?_)
    · refine zc_rF F0 1 h_a0 ?_
      refine zc_rQ F0 h_a0 (by omega) (by omega) ?_
      exact zc_L4_look_43 ih_L4_look_24 _ F0 h_a0 h_a3.2 (zc_pa F0 h_a0 (a3).toNat) ⟨by omega, (by unfold zv_rg; omega)⟩ ⟨(by rw [← eN]; exact zc_up h_a3.2 r_v1 c1), (⟨by rw [zc_up1 h_a3.2 r_v1 c1]; omega, zc_w _⟩ : 0 ≤ (zv_w (a3 + 1)) ∧ zv_rg (zv_w (a3 + 1))).1⟩ rfl
    · refine zc_wO F0 h_a0 (zc_frO h_a0 (zc_lt h_a0 (by decide)) (by decide) rfl (by decide)) (by unfold zv_rg; omega) fun g4 F2 => ?_
      exact zc_L4_look_114  _ F2 h_a0 ⟨by omega, (by unfold zv_rg; omega)⟩  rfl
theorem zc_L4_look_2 {d : Nat} {h0 : zv_H} (N_L4_look_2 : Nat) : ∀ {h : zv_H} {a0 : Nat} {a1 : Int64} {a3 : Int}, zc_Q h0 h → (zv_lay a0 = (1, 4)) → (0 ≤ a3 ∧ zv_rg a3) → (2147483647 - a3).toNat = N_L4_look_2 → zm_R (L4_look_2 (d + 1) a0 a1 a3 h) (zm_V fun h' => zc_Q h0 h') := by
  induction N_L4_look_2 using Nat.strongRecOn with
  | _ N_L4_look_2 ih_L4_look_2 =>
    intro h a0 a1 a3 F0 h_a0 h_a3 eN
    rw [qL4_look_2]
    have z_a3 := h_a3.1
    refine zm_if (fun c1 => ?_) (fun c1 => ?_)
    · refine zc_rF F0 4 h_a0 ?_
      refine zc_wB F0 (zc_y4_3 h_a0).1 (zc_y4_3 h_a0).2 (by omega) (by omega) fun g2 F2 u_g2 => ?_
      exact ih_L4_look_2 _ (by rw [← eN]; exact zc_up h_a3.2 (by unfold zv_rg; omega) c1) F2 h_a0 ⟨by rw [zc_up1 h_a3.2 (by unfold zv_rg; omega) c1]; omega, zc_w _⟩  rfl
    · exact zc_L4_look_24  _ F0 h_a0 ⟨by omega, (by unfold zv_rg; omega)⟩  rfl
theorem zc_E4_look {d : Nat} {h : zv_H} {a0 : Nat} {a1 : Int64} (hA : zc_A h) (h_a0 : zv_lay a0 = (1, 4)) : zm_R (E4_look (d + 1) a0 a1 h) (zm_V fun h' => zc_Q h h') := by
  have F0 := zc_Q_r hA
  rw [qE4_look]
  exact zc_L4_look_2  _ F0 h_a0 ⟨by omega, (by unfold zv_rg; omega)⟩  rfl
theorem zc_C4_look {d : Nat} {h : zv_H} {a0 : Nat} {a1 : Int64} (hA : zc_A h) (h_a0 : zv_lay a0 = (1, 4)) : zm_R (C4_look (d + 2) a0 a1 h) (fun q => zc_Q h q) := zm_cV (fun e => lC4_look (zc_ob hA h_a0) e) (zc_E4_look hA h_a0)
theorem zc_L4_lay_77 {d : Nat} {h0 : zv_H} (N_L4_lay_77 : Nat) : ∀ {h : zv_H} {a0 : Nat} {a2 : Int} {a3 : Int}, zc_Q h0 h → (zv_lay a0 = (1, 4)) → (zv_rg a2) → (0 ≤ a3 ∧ zv_rg a3) → (2147483647 - a3).toNat = N_L4_lay_77 → zm_R (L4_lay_77 (d + 2) a0 a2 a3 h) (zm_V fun h' => zc_Q h0 h') := by
  induction N_L4_lay_77 using Nat.strongRecOn with
  | _ N_L4_lay_77 ih_L4_lay_77 =>
    intro h a0 a2 a3 F0 h_a0 h_a2 h_a3 eN
    rw [qL4_lay_77]
    have z_a3 := h_a3.1
    refine zm_if (fun c1 => ?_) (fun c1 => ?_)
    · refine zc_pI (K := fun v => (v = 0 ∨ (v = 1 ∧ 0 ≤ a2 ∧ a2 < 604))) (zc_C4_isId F0.2 h_a2) fun q1v r_q1 k_q1 => ?_
      dsimp only
      refine zm_if (fun c3 => ?_) (fun c3 => ?_)
      · rw [qL4_lay_118]
        refine zc_rJ F0 h_a0 fun v1 => ?_
        refine zc_cV F0 (zc_C4_look F0.2 h_a0) fun g2 F4 => ?_
        exact zm_iV F4
      · refine zc_rF F0 2 h_a0 ?_
        refine zc_wA F0 (zc_y4_1 h_a0).1 (zc_y4_1 h_a0).2 (by omega) (by omega) h_a2 fun g3 F5 u_g3 => ?_
        refine zc_wO F5 h_a0 (zc_frO h_a0 (zc_lt h_a0 (by decide)) (by decide) rfl (by decide)) (zc_w _) fun g4 F6 => ?_
        refine zc_rF F6 5 h_a0 ?_
        refine zc_rA F6 (zc_y4_4 h_a0).1 (zc_y4_4 h_a0).2 (by omega) (by omega) fun v6 r_v6 => ?_
        exact ih_L4_lay_77 _ (by rw [← eN]; exact zc_up h_a3.2 (by unfold zv_rg; omega) c1) F6 h_a0 r_v6 ⟨by rw [zc_up1 h_a3.2 (by unfold zv_rg; omega) c1]; omega, zc_w _⟩  rfl
    · rw [qL4_lay_118]
      refine zc_rJ F0 h_a0 fun v1x1 => ?_
      refine zc_cV F0 (zc_C4_look F0.2 h_a0) fun g2x1 F7 => ?_
      exact zm_iV F7
theorem zc_L4_lay_16 {d : Nat} {h0 : zv_H} (N_L4_lay_16 : Nat) : ∀ {h : zv_H} {a0 : Nat} {a2 : Int}, zc_Q h0 h → (zv_lay a0 = (1, 4)) → (0 ≤ a2 ∧ zv_rg a2) → (2147483647 - a2).toNat = N_L4_lay_16 → zm_R (L4_lay_16 (d + 2) a0 a2 h) (zm_V fun h' => zc_Q h0 h') := by
  induction N_L4_lay_16 using Nat.strongRecOn with
  | _ N_L4_lay_16 ih_L4_lay_16 =>
    intro h a0 a2 F0 h_a0 h_a2 eN
    rw [qL4_lay_16]
    have z_a2 := h_a2.1
    refine zc_rI F0 h_a0 fun v1 e_v1 r_v1 => ?_
    have b_v1 := zc_bdv (k := 5) (m := 48) F0 h_a0 rfl
    rw [← e_v1] at b_v1
    refine zm_if (fun c1 => ?_) (fun c1 => ?_)
    · refine zc_rF F0 1 h_a0 ?_
      refine zc_rQ F0 h_a0 (by omega) (by omega) ?_
      refine zm_if (fun c2 => ?_) (fun c2 => ?_)
      · exact ih_L4_lay_16 _ (by rw [← eN]; exact zc_up h_a2.2 r_v1 c1) F0 h_a0 ⟨by rw [zc_up1 h_a2.2 r_v1 c1]; omega, zc_w _⟩  rfl
      · refine zc_rF F0 1 h_a0 ?_
        refine zc_rQ F0 h_a0 (by omega) (by omega) ?_
        refine zc_pI (K := fun v => True) (zc_C5_brings F0.2 ((zc_pa F0 h_a0 (a2).toNat).resolve_left c2)) fun q6v r_q6 k_q6 => ?_
        dsimp only
        refine zm_if (fun c4 => ?_) (fun c4 => ?_)
        · exact ih_L4_lay_16 _ (by rw [← eN]; exact zc_up h_a2.2 r_v1 c1) F0 h_a0 ⟨by rw [zc_up1 h_a2.2 r_v1 c1]; omega, zc_w _⟩  rfl
        · refine zc_rF F0 1 h_a0 ?_
          refine zc_rQ F0 h_a0 (by omega) (by omega) ?_
          refine zc_cV F0 (zc_C4_link F0.2 h_a0 ((zc_pa F0 h_a0 (a2).toNat).resolve_left c2)) fun g9 F5 => ?_
          exact ih_L4_lay_16 _ (by rw [← eN]; exact zc_up h_a2.2 r_v1 c1) F5 h_a0 ⟨by rw [zc_up1 h_a2.2 r_v1 c1]; omega, zc_w _⟩  rfl
    · refine zc_wO F0 h_a0 (zc_frO h_a0 (zc_lt h_a0 (by decide)) (by decide) rfl (by decide)) (by unfold zv_rg; omega) fun g10 F6 => ?_
      refine zc_rF F6 5 h_a0 ?_
      refine zc_rA F6 (zc_y4_4 h_a0).1 (zc_y4_4 h_a0).2 (by omega) (by omega) fun v12 r_v12 => ?_
      exact zc_L4_lay_77  _ F6 h_a0 r_v12 ⟨by omega, (by unfold zv_rg; omega)⟩  rfl
theorem zc_E4_lay {d : Nat} {h : zv_H} {a0 : Nat} {a1 : Nat} (hA : zc_A h) (h_a0 : zv_lay a0 = (1, 4)) (h_a1 : zc_V h a1) : zm_R (E4_lay (d + 2) a0 a1 h) (zm_V fun h' => zc_Q h h') := by
  have F0 := zc_Q_r hA
  rw [qE4_lay]
  refine zc_cV F0 (zc_C4_walk F0.2 h_a0 (zc_Vq F0.1 h_a1)) fun g1 F1 => ?_
  refine zc_rF F1 5 h_a0 ?_
  refine zc_wA F1 (zc_y4_4 h_a0).1 (zc_y4_4 h_a0).2 (by omega) (by omega) (by unfold zv_rg; omega) fun g3 F2 u_g3 => ?_
  exact zc_L4_lay_16  _ F2 h_a0 ⟨by omega, (by unfold zv_rg; omega)⟩  rfl
theorem zc_C4_lay {d : Nat} {h : zv_H} {a0 : Nat} {a1 : Nat} (hA : zc_A h) (h_a0 : zv_lay a0 = (1, 4)) (h_a1 : zc_V h a1) : zm_R (C4_lay (d + 3) a0 a1 h) (fun q => zc_Q h q) := zm_cV (fun e => lC4_lay (zc_ob hA h_a0) e) (zc_E4_lay hA h_a0 h_a1)
theorem zc_L4_cutsInForce_4 {d : Nat} {h0 : zv_H} (hA : zc_A h0) (N_L4_cutsInForce_4 : Nat) : ∀ {a0 : Nat} {a1 : Int} {a2 : Int} {a3 : Int}, (zv_lay a0 = (1, 4)) → (zv_rg a1) → (zv_rg a2) → (0 ≤ a3 ∧ zv_rg a3) → (2147483647 - a3).toNat = N_L4_cutsInForce_4 → zm_R (L4_cutsInForce_4 (d + 2) a0 a1 a2 a3 h0) (zm_I fun v h' => h' = h0 ∧ zv_rg v ∧ True) := by
  induction N_L4_cutsInForce_4 using Nat.strongRecOn with
  | _ N_L4_cutsInForce_4 ih_L4_cutsInForce_4 =>
    intro a0 a1 a2 a3 h_a0 h_a1 h_a2 h_a3 eN
    rw [qL4_cutsInForce_4]
    have z_a3 := h_a3.1
    refine zc_rI (zc_Q_r hA) h_a0 fun v1 e_v1 r_v1 => ?_
    have b_v1 := zc_bdv (k := 5) (m := 48) (zc_Q_r hA) h_a0 rfl
    rw [← e_v1] at b_v1
    refine zm_if (fun c1 => ?_) (fun c1 => ?_)
    · refine zc_rF (zc_Q_r hA) 1 h_a0 ?_
      refine zc_rQ (zc_Q_r hA) h_a0 (by omega) (by omega) ?_
      refine zm_if (fun c2 => ?_) (fun c2 => ?_)
      · exact ih_L4_cutsInForce_4 _ (by rw [← eN]; exact zc_up h_a3.2 r_v1 c1) h_a0 h_a1 h_a2 ⟨by rw [zc_up1 h_a3.2 r_v1 c1]; omega, zc_w _⟩  rfl
      · refine zc_rJ (zc_Q_r hA) h_a0 fun v4 => ?_
        refine zc_pJ (zc_C5_bit (zc_Q_r hA).2 ((zc_pa (zc_Q_r hA) h_a0 (a3).toNat).resolve_left c2)) fun q5v => ?_
        dsimp only
        refine zm_if (fun c4 => ?_) (fun c4 => ?_)
        · exact ih_L4_cutsInForce_4 _ (by rw [← eN]; exact zc_up h_a3.2 r_v1 c1) h_a0 h_a1 h_a2 ⟨by rw [zc_up1 h_a3.2 r_v1 c1]; omega, zc_w _⟩  rfl
        · refine zc_pI (K := fun v => True) (zc_C5_tookIt (zc_Q_r hA).2 ((zc_pa (zc_Q_r hA) h_a0 (a3).toNat).resolve_left c2) h_a1) fun q6v r_q6 k_q6 => ?_
          dsimp only
          refine zm_if (fun c6 => ?_) (fun c6 => ?_)
          · exact ih_L4_cutsInForce_4 _ (by rw [← eN]; exact zc_up h_a3.2 r_v1 c1) h_a0 h_a1 h_a2 ⟨by rw [zc_up1 h_a3.2 r_v1 c1]; omega, zc_w _⟩  rfl
          · exact ih_L4_cutsInForce_4 _ (by rw [← eN]; exact zc_up h_a3.2 r_v1 c1) h_a0 h_a1 (zc_w _) ⟨by rw [zc_up1 h_a3.2 r_v1 c1]; omega, zc_w _⟩  rfl
    · exact zm_iI ⟨rfl, h_a2, trivial⟩
theorem zc_E4_cutsInForce {d : Nat} {h : zv_H} {a0 : Nat} {a1 : Int} (hA : zc_A h) (h_a0 : zv_lay a0 = (1, 4)) (h_a1 : zv_rg a1) : zm_R (E4_cutsInForce (d + 2) a0 a1 h) (zm_I fun v h' => h' = h ∧ zv_rg v ∧ True) := by
  have F0 := zc_Q_r hA
  rw [qE4_cutsInForce]
  exact zc_L4_cutsInForce_4 hA  _ h_a0 h_a1 (by unfold zv_rg; omega) ⟨by omega, (by unfold zv_rg; omega)⟩  rfl
theorem zc_C4_cutsInForce {d : Nat} {h : zv_H} {a0 : Nat} {a1 : Int} (hA : zc_A h) (h_a0 : zv_lay a0 = (1, 4)) (h_a1 : zv_rg a1) : zm_R (C4_cutsInForce (d + 3) a0 a1 h) (fun q => q.2 = h ∧ zv_rg q.1 ∧ True) := zm_cI (fun e => lC4_cutsInForce (zc_ob hA h_a0) e) (zc_E4_cutsInForce hA h_a0 h_a1)
theorem zc_L4_lastCut_7 {d : Nat} {h0 : zv_H} (hA : zc_A h0) (N_L4_lastCut_7 : Nat) : ∀ {a0 : Nat} {a1 : Int} {a2 : Int}, (zv_lay a0 = (1, 4)) → (zv_rg a1) → ((-1 ≤ a2 ∧ a2 < 48) ∧ zv_rg a2) → (a2 + 1).toNat = N_L4_lastCut_7 → zm_R (L4_lastCut_7 (d + 2) a0 a1 a2 h0) (zm_I fun v h' => h' = h0 ∧ zv_rg v ∧ True) := by
  induction N_L4_lastCut_7 using Nat.strongRecOn with
  | _ N_L4_lastCut_7 ih_L4_lastCut_7 =>
    intro a0 a1 a2 h_a0 h_a1 h_a2 eN
    rw [qL4_lastCut_7]
    have z_a2 := h_a2.1
    refine zm_if (fun c1 => ?_) (fun c1 => ?_)
    · exact zm_iI ⟨rfl, (by unfold zv_rg; omega), trivial⟩
    · refine zc_rF (zc_Q_r hA) 1 h_a0 ?_
      refine zc_rQ (zc_Q_r hA) h_a0 (by omega) (by omega) ?_
      refine zm_if (fun c2 => ?_) (fun c2 => ?_)
      · exact ih_L4_lastCut_7 _ (by rw [← eN]; exact zc_dn h_a2.2 c1) h_a0 h_a1 ⟨by rw [zm_w (by omega)]; omega, (zc_w _)⟩  rfl
      · refine zc_rF (zc_Q_r hA) 1 h_a0 ?_
        refine zc_rQ (zc_Q_r hA) h_a0 (by omega) (by omega) ?_
        refine zc_pI (K := fun v => True) (zc_C5_tookIt (zc_Q_r hA).2 ((zc_pa (zc_Q_r hA) h_a0 (a2).toNat).resolve_left c2) h_a1) fun q5v r_q5 k_q5 => ?_
        dsimp only
        refine zm_if (fun c4 => ?_) (fun c4 => ?_)
        · exact ih_L4_lastCut_7 _ (by rw [← eN]; exact zc_dn h_a2.2 c1) h_a0 h_a1 ⟨by rw [zm_w (by omega)]; omega, (zc_w _)⟩  rfl
        · refine zc_rF (zc_Q_r hA) 1 h_a0 ?_
          refine zc_rQ (zc_Q_r hA) h_a0 (by omega) (by omega) ?_
          refine zc_rT (zc_Q_r hA) ((zc_pa (zc_Q_r hA) h_a0 (a2).toNat).resolve_left c2) fun v8 e_v8 r_v8 => ?_
          exact zm_iI ⟨rfl, r_v8, trivial⟩
theorem zc_E4_lastCut {d : Nat} {h : zv_H} {a0 : Nat} {a1 : Int} (hA : zc_A h) (h_a0 : zv_lay a0 = (1, 4)) (h_a1 : zv_rg a1) : zm_R (E4_lastCut (d + 2) a0 a1 h) (zm_I fun v h' => h' = h ∧ zv_rg v ∧ True) := by
  have F0 := zc_Q_r hA
  rw [qE4_lastCut]
  refine zc_rI F0 h_a0 fun v1 e_v1 r_v1 => ?_
  have b_v1 := zc_bdv (k := 5) (m := 48) F0 h_a0 rfl
  rw [← e_v1] at b_v1
  exact zc_L4_lastCut_7 hA  _ h_a0 h_a1 ⟨by rw [zm_w (by omega)]; omega, (zc_w _)⟩  rfl
theorem zc_C4_lastCut {d : Nat} {h : zv_H} {a0 : Nat} {a1 : Int} (hA : zc_A h) (h_a0 : zv_lay a0 = (1, 4)) (h_a1 : zv_rg a1) : zm_R (C4_lastCut (d + 3) a0 a1 h) (fun q => q.2 = h ∧ zv_rg q.1 ∧ True) := zm_cI (fun e => lC4_lastCut (zc_ob hA h_a0) e) (zc_E4_lastCut hA h_a0 h_a1)
theorem zc_L4_leaningOn_8 {d : Nat} {h0 : zv_H} (hA : zc_A h0) (N_L4_leaningOn_8 : Nat) : ∀ {a0 : Nat} {a1 : Nat} {a2 : Int64} {a4 : Int}, (zv_lay a0 = (1, 4)) → (zv_lay a1 = (1, 5)) → (0 ≤ a4 ∧ zv_rg a4) → (2147483647 - a4).toNat = N_L4_leaningOn_8 → zm_R (L4_leaningOn_8 (d + 1) a0 a1 a2 a4 h0) (zm_J fun _ h' => h' = h0) := by
  induction N_L4_leaningOn_8 using Nat.strongRecOn with
  | _ N_L4_leaningOn_8 ih_L4_leaningOn_8 =>
    intro a0 a1 a2 a4 h_a0 h_a1 h_a4 eN
    rw [qL4_leaningOn_8]
    have z_a4 := h_a4.1
    refine zc_rI (zc_Q_r hA) h_a0 fun v1 e_v1 r_v1 => ?_
    have b_v1 := zc_bdv (k := 5) (m := 48) (zc_Q_r hA) h_a0 rfl
    rw [← e_v1] at b_v1
    refine zm_if (fun c1 => ?_) (fun c1 => ?_)
    · refine zc_rF (zc_Q_r hA) 1 h_a0 ?_
      refine zc_rQ (zc_Q_r hA) h_a0 (by omega) (by omega) ?_
      refine zm_if (fun c2 => ?_) (fun c2 => ?_)
      · exact ih_L4_leaningOn_8 _ (by rw [← eN]; exact zc_up h_a4.2 r_v1 c1) h_a0 h_a1 ⟨by rw [zc_up1 h_a4.2 r_v1 c1]; omega, zc_w _⟩  rfl
      · refine zc_rT (zc_Q_r hA) ((zc_pa (zc_Q_r hA) h_a0 (a4).toNat).resolve_left c2) fun v4 e_v4 r_v4 => ?_
        refine zc_rT (zc_Q_r hA) h_a1 fun v5 e_v5 r_v5 => ?_
        refine zm_if (fun c3 => ?_) (fun c3 => ?_)
        · exact ih_L4_leaningOn_8 _ (by rw [← eN]; exact zc_up h_a4.2 r_v1 c1) h_a0 h_a1 ⟨by rw [zc_up1 h_a4.2 r_v1 c1]; omega, zc_w _⟩  rfl
        · refine zc_rJ (zc_Q_r hA) ((zc_pa (zc_Q_r hA) h_a0 (a4).toNat).resolve_left c2) fun v6 => ?_
          refine zm_if (fun c4 => ?_) (fun c4 => ?_)
          · exact ih_L4_leaningOn_8 _ (by rw [← eN]; exact zc_up h_a4.2 r_v1 c1) h_a0 h_a1 ⟨by rw [zc_up1 h_a4.2 r_v1 c1]; omega, zc_w _⟩  rfl
          · refine zc_pJ (zc_C5_bit (zc_Q_r hA).2 ((zc_pa (zc_Q_r hA) h_a0 (a4).toNat).resolve_left c2)) fun q7v => ?_
            dsimp only
            exact ih_L4_leaningOn_8 _ (by rw [← eN]; exact zc_up h_a4.2 r_v1 c1) h_a0 h_a1 ⟨by rw [zc_up1 h_a4.2 r_v1 c1]; omega, zc_w _⟩  rfl
    · exact zm_iJ rfl
theorem zc_E4_leaningOn {d : Nat} {h : zv_H} {a0 : Nat} {a1 : Nat} (hA : zc_A h) (h_a0 : zv_lay a0 = (1, 4)) (h_a1 : zv_lay a1 = (1, 5)) : zm_R (E4_leaningOn (d + 1) a0 a1 h) (zm_J fun _ h' => h' = h) := by
  have F0 := zc_Q_r hA
  rw [qE4_leaningOn]
  refine zc_pJ (zc_C5_bit F0.2 h_a1) fun q1v => ?_
  dsimp only
  exact zc_L4_leaningOn_8 hA  _ h_a0 h_a1 ⟨by omega, (by unfold zv_rg; omega)⟩  rfl
theorem zc_C4_leaningOn {d : Nat} {h : zv_H} {a0 : Nat} {a1 : Nat} (hA : zc_A h) (h_a0 : zv_lay a0 = (1, 4)) (h_a1 : zv_lay a1 = (1, 5)) : zm_R (C4_leaningOn (d + 2) a0 a1 h) (fun q => q.2 = h) := zm_cJ (fun e => lC4_leaningOn (zc_ob hA h_a0) e) (zc_E4_leaningOn hA h_a0 h_a1)
theorem zc_L4_groundOf_8 {d : Nat} {h0 : zv_H} (hA : zc_A h0) (N_L4_groundOf_8 : Nat) : ∀ {a2 : Int64} {a4 : Nat}, (a4 = 0 ∨ zc_V h0 a4) → zc_dm h0 a4 = N_L4_groundOf_8 → zm_R (L4_groundOf_8 (d + 1) a2 a4 h0) (zm_J fun _ h' => h' = h0) := by
  induction N_L4_groundOf_8 using Nat.strongRecOn with
  | _ N_L4_groundOf_8 ih_L4_groundOf_8 =>
    intro a2 a4 h_a4 eN
    rw [qL4_groundOf_8]
    refine zm_if (fun c1 => ?_) (fun c1 => ?_)
    · exact zm_iJ rfl
    · refine zc_pJ (zc_C5_bit (zc_Q_r hA).2 (h_a4.resolve_left c1).1) fun q1v => ?_
      dsimp only
      refine zm_if (fun c3 => ?_) (fun c3 => ?_)
      · refine zc_rR5 (zc_Q_r hA) (h_a4.resolve_left c1).1 ?_
        exact ih_L4_groundOf_8 _ (by rw [← eN]; exact zc_dmP (zc_Q_r hA) (h_a4.resolve_left c1)) (zc_pV (zc_Q_r hA) (h_a4.resolve_left c1))  rfl
      · refine zc_rJ (zc_Q_r hA) (h_a4.resolve_left c1).1 fun v3 => ?_
        refine zc_rR5 (zc_Q_r hA) (h_a4.resolve_left c1).1 ?_
        exact ih_L4_groundOf_8 _ (by rw [← eN]; exact zc_dmP (zc_Q_r hA) (h_a4.resolve_left c1)) (zc_pV (zc_Q_r hA) (h_a4.resolve_left c1))  rfl
theorem zc_E4_groundOf {d : Nat} {h : zv_H} {a0 : Nat} {a1 : Nat} (hA : zc_A h) (h_a0 : zv_lay a0 = (1, 4)) (h_a1 : zc_V h a1) : zm_R (E4_groundOf (d + 1) a0 a1 h) (zm_J fun _ h' => h' = h) := by
  have F0 := zc_Q_r hA
  rw [qE4_groundOf]
  refine zc_pJ (zc_C5_bit F0.2 h_a1.1) fun q1v => ?_
  dsimp only
  exact zc_L4_groundOf_8 hA  _ (Or.inr h_a1)  rfl
theorem zc_C4_groundOf {d : Nat} {h : zv_H} {a0 : Nat} {a1 : Nat} (hA : zc_A h) (h_a0 : zv_lay a0 = (1, 4)) (h_a1 : zc_V h a1) : zm_R (C4_groundOf (d + 2) a0 a1 h) (fun q => q.2 = h) := zm_cJ (fun e => lC4_groundOf (zc_ob hA h_a0) e) (zc_E4_groundOf hA h_a0 h_a1)
theorem zc_L4_seenUpTo_18 {d : Nat} {h0 : zv_H} (hA : zc_A h0) (N_L4_seenUpTo_18 : Nat) : ∀ {a0 : Nat} {a2 : Int} {a3 : Int} {a4 : Int}, (zv_lay a0 = (1, 4)) → ((-2147483648 ≤ a2 ∧ a2 < 2147483647) ∧ zv_rg a2) → (zv_rg a3) → (0 ≤ a4 ∧ zv_rg a4) → (2147483647 - a4).toNat = N_L4_seenUpTo_18 → zm_R (L4_seenUpTo_18 (d + 2) a0 a2 a3 a4 h0) (zm_I fun v h' => h' = h0 ∧ zv_rg v ∧ True) := by
  induction N_L4_seenUpTo_18 using Nat.strongRecOn with
  | _ N_L4_seenUpTo_18 ih_L4_seenUpTo_18 =>
    intro a0 a2 a3 a4 h_a0 h_a2 h_a3 h_a4 eN
    rw [qL4_seenUpTo_18]
    have z_a2 := h_a2.1
    have z_a4 := h_a4.1
    refine zm_if (fun c1 => ?_) (fun c1 => ?_)
    · refine zc_pI (K := fun v => True) (zc_C4_seesAt (zc_Q_r hA).2 h_a0 h_a4.2) fun q1v r_q1 k_q1 => ?_
      dsimp only
      refine zm_if (fun c3 => ?_) (fun c3 => ?_)
      · exact ih_L4_seenUpTo_18 _ (by rw [← eN]; exact zc_up h_a4.2 (show zv_rg (a2 + 1) from (by unfold zv_rg at *; omega)) (by omega)) h_a0 ⟨by unfold zv_rg at *; omega, h_a2.2⟩ (zc_w _) ⟨by rw [zc_up1 h_a4.2 (show zv_rg (a2 + 1) from (by unfold zv_rg at *; omega)) (by omega)]; omega, zc_w _⟩  rfl
      · exact ih_L4_seenUpTo_18 _ (by rw [← eN]; exact zc_up h_a4.2 (show zv_rg (a2 + 1) from (by unfold zv_rg at *; omega)) (by omega)) h_a0 ⟨by unfold zv_rg at *; omega, h_a2.2⟩ (zc_w _) ⟨by rw [zc_up1 h_a4.2 (show zv_rg (a2 + 1) from (by unfold zv_rg at *; omega)) (by omega)]; omega, zc_w _⟩  rfl
    · exact zm_iI ⟨rfl, h_a3, trivial⟩
theorem zc_E4_seenUpTo {d : Nat} {h : zv_H} {a0 : Nat} {a1 : Int} (hA : zc_A h) (h_a0 : zv_lay a0 = (1, 4)) (h_a1 : zv_rg a1) : zm_R (E4_seenUpTo (d + 2) a0 a1 h) (zm_I fun v h' => h' = h ∧ zv_rg v ∧ True) := by
  have F0 := zc_Q_r hA
  rw [qE4_seenUpTo]
  refine zc_pI (K := fun v => v < 2147483647) (zc_C4_placeOf F0.2 h_a0 h_a1) fun q1v r_q1 k_q1 => ?_
  dsimp only
  refine zm_if (fun c2 => ?_) (fun c2 => ?_)
  · exact zm_iI ⟨rfl, (by unfold zv_rg; omega), trivial⟩
  · exact zc_L4_seenUpTo_18 hA  _ h_a0 ⟨by unfold zv_rg at *; omega, r_q1⟩ (by unfold zv_rg; omega) ⟨by omega, (by unfold zv_rg; omega)⟩  rfl
theorem zc_C4_seenUpTo {d : Nat} {h : zv_H} {a0 : Nat} {a1 : Int} (hA : zc_A h) (h_a0 : zv_lay a0 = (1, 4)) (h_a1 : zv_rg a1) : zm_R (C4_seenUpTo (d + 3) a0 a1 h) (fun q => q.2 = h ∧ zv_rg q.1 ∧ True) := zm_cI (fun e => lC4_seenUpTo (zc_ob hA h_a0) e) (zc_E4_seenUpTo hA h_a0 h_a1)
end
/-! 90.q -/
section
theorem zc_E6_slot {d : Nat} {h : zv_H} {a0 : Nat} {a1 : Int} (hA : zc_A h) (h_a0 : zv_lay a0 = (1, 6)) (h_a1 : zv_rg a1) : zm_R (E6_slot (d + 0) a0 a1 h) (zm_I fun v h' => h' = h ∧ zv_rg v ∧ True) := by
  have F0 := zc_Q_r hA
  rw [qE6_slot]
  refine zc_rI F0 h_a0 fun v1 e_v1 r_v1 => ?_
  exact zm_iI ⟨rfl, (zc_tm (zc_w _)), trivial⟩
theorem zc_C6_slot {d : Nat} {h : zv_H} {a0 : Nat} {a1 : Int} (hA : zc_A h) (h_a0 : zv_lay a0 = (1, 6)) (h_a1 : zv_rg a1) : zm_R (C6_slot (d + 1) a0 a1 h) (fun q => q.2 = h ∧ zv_rg q.1 ∧ True) := zm_cI (fun e => lC6_slot (zc_ob hA h_a0) e) (zc_E6_slot hA h_a0 h_a1)
theorem zc_E6_stateAt {d : Nat} {h : zv_H} {a0 : Nat} {a1 : Int} (hA : zc_A h) (h_a0 : zv_lay a0 = (1, 6)) (h_a1 : zv_rg a1) : zm_R (E6_stateAt (d + 1) a0 a1 h) (zm_I fun v h' => h' = h ∧ zv_rg v ∧ True) := by
  have F0 := zc_Q_r hA
  rw [qE6_stateAt]
  refine zc_pI (K := fun v => True) (zc_C6_slot F0.2 h_a0 h_a1) fun q1v r_q1 k_q1 => ?_
  dsimp only
  refine zm_if (fun c2 => ?_) (fun c2 => ?_)
  · exact zm_iI ⟨rfl, (by unfold zv_rg; omega), trivial⟩
  · refine zm_if (fun c3 => ?_) (fun c3 => ?_)
    · refine zc_rF F0 1 h_a0 ?_
      refine zc_rA F0 (zc_y6_0 h_a0).1 (zc_y6_0 h_a0).2 (by omega) (by omega) fun v3 r_v3 => ?_
      exact zm_iI ⟨rfl, r_v3, trivial⟩
    · exact zm_iI ⟨rfl, (by unfold zv_rg; omega), trivial⟩
theorem zc_C6_stateAt {d : Nat} {h : zv_H} {a0 : Nat} {a1 : Int} (hA : zc_A h) (h_a0 : zv_lay a0 = (1, 6)) (h_a1 : zv_rg a1) : zm_R (C6_stateAt (d + 2) a0 a1 h) (fun q => q.2 = h ∧ zv_rg q.1 ∧ True) := zm_cI (fun e => lC6_stateAt (zc_ob hA h_a0) e) (zc_E6_stateAt hA h_a0 h_a1)
theorem zc_E6_timeAt {d : Nat} {h : zv_H} {a0 : Nat} {a1 : Int} (hA : zc_A h) (h_a0 : zv_lay a0 = (1, 6)) (h_a1 : zv_rg a1) : zm_R (E6_timeAt (d + 1) a0 a1 h) (zm_I fun v h' => h' = h ∧ zv_rg v ∧ True) := by
  have F0 := zc_Q_r hA
  rw [qE6_timeAt]
  refine zc_pI (K := fun v => True) (zc_C6_slot F0.2 h_a0 h_a1) fun q1v r_q1 k_q1 => ?_
  dsimp only
  refine zm_if (fun c2 => ?_) (fun c2 => ?_)
  · exact zm_iI ⟨rfl, (by unfold zv_rg; omega), trivial⟩
  · refine zm_if (fun c3 => ?_) (fun c3 => ?_)
    · refine zc_rF F0 2 h_a0 ?_
      refine zc_rA F0 (zc_y6_1 h_a0).1 (zc_y6_1 h_a0).2 (by omega) (by omega) fun v3 r_v3 => ?_
      exact zm_iI ⟨rfl, r_v3, trivial⟩
    · exact zm_iI ⟨rfl, (by unfold zv_rg; omega), trivial⟩
theorem zc_C6_timeAt {d : Nat} {h : zv_H} {a0 : Nat} {a1 : Int} (hA : zc_A h) (h_a0 : zv_lay a0 = (1, 6)) (h_a1 : zv_rg a1) : zm_R (C6_timeAt (d + 2) a0 a1 h) (fun q => q.2 = h ∧ zv_rg q.1 ∧ True) := zm_cI (fun e => lC6_timeAt (zc_ob hA h_a0) e) (zc_E6_timeAt hA h_a0 h_a1)
theorem zc_E6_add {d : Nat} {h : zv_H} {a0 : Nat} {a1 : Nat} {a2 : Int} (hA : zc_A h) (h_a0 : zv_lay a0 = (1, 6)) (h_a1 : zv_lay a1 = (1, 5)) (h_a2 : zv_rg a2) : zm_R (E6_add (d + 0) a0 a1 a2 h) (zm_V fun h' => zc_Q h h') := by
  have F0 := zc_Q_r hA
  rw [qE6_add]
  refine zc_rI F0 h_a0 fun v1 e_v1 r_v1 => ?_
  refine zm_if (fun c1 => ?_) (fun c1 => ?_)
  · refine zc_rI F0 h_a0 fun v2 e_v2 r_v2 => ?_
    refine zc_wO F0 h_a0 (zc_frO h_a0 (zc_lt h_a0 (by decide)) (by decide) rfl (by decide)) (zc_w _) fun g3 F2 => ?_
    refine zc_rI F2 h_a0 fun v4 e_v4 r_v4 => ?_
    refine zc_wO F2 h_a1 (zc_frO h_a1 (zc_lt h_a1 (by decide)) (by decide) rfl (by decide)) r_v4 fun g5 F3 => ?_
    exact zm_iV F3
  · refine zm_if (fun c4 => ?_) (fun c4 => ?_)
    · refine zc_rF F0 1 h_a0 ?_
      refine zc_rT F0 h_a1 fun v7 e_v7 r_v7 => ?_
      refine zc_wA F0 (zc_y6_0 h_a0).1 (zc_y6_0 h_a0).2 (by omega) (by omega) r_v7 fun g8 F5 u_g8 => ?_
      refine zc_rF F5 2 h_a0 ?_
      refine zc_wA F5 (zc_y6_1 h_a0).1 (zc_y6_1 h_a0).2 (by omega) (by omega) h_a2 fun g10 F6 u_g10 => ?_
      refine zc_rI F6 h_a0 fun v11 e_v11 r_v11 => ?_
      rw [u_g10 _ _ (by rw [h_a0])] at e_v11
      rw [u_g8 _ _ (by rw [h_a0])] at e_v11
      refine zc_wO F6 h_a0 (zc_frO h_a0 (zc_lt h_a0 (by decide)) (by decide) rfl (by decide)) (zc_w _) fun g12 F7 => ?_
      refine zc_rI F7 h_a0 fun v13 e_v13 r_v13 => ?_
      refine zc_wO F7 h_a1 (zc_frO h_a1 (zc_lt h_a1 (by decide)) (by decide) rfl (by decide)) r_v13 fun g14 F8 => ?_
      exact zm_iV F8
    · refine zc_rI F0 h_a0 fun v15 e_v15 r_v15 => ?_
      refine zc_wO F0 h_a0 (zc_frO h_a0 (zc_lt h_a0 (by decide)) (by decide) rfl (by decide)) (zc_w _) fun g16 F9 => ?_
      refine zc_rI F9 h_a0 fun v17 e_v17 r_v17 => ?_
      refine zc_wO F9 h_a1 (zc_frO h_a1 (zc_lt h_a1 (by decide)) (by decide) rfl (by decide)) r_v17 fun g18 F10 => ?_
      exact zm_iV F10
theorem zc_C6_add {d : Nat} {h : zv_H} {a0 : Nat} {a1 : Nat} {a2 : Int} (hA : zc_A h) (h_a0 : zv_lay a0 = (1, 6)) (h_a1 : zv_lay a1 = (1, 5)) (h_a2 : zv_rg a2) : zm_R (C6_add (d + 1) a0 a1 a2 h) (fun q => zc_Q h q) := zm_cV (fun e => lC6_add (zc_ob hA h_a0) e) (zc_E6_add hA h_a0 h_a1 h_a2)
theorem zc_L6_forget_2 {d : Nat} {h0 : zv_H} (N_L6_forget_2 : Nat) : ∀ {h : zv_H} {a0 : Nat} {a1 : Int} {a2 : Int}, zc_Q h0 h → (zv_lay a0 = (1, 6)) → (zv_rg a1) → (0 ≤ a2 ∧ zv_rg a2) → (2147483647 - a2).toNat = N_L6_forget_2 → zm_R (L6_forget_2 (d + 0) a0 a1 a2 h) (zm_V fun h' => zc_Q h0 h') := by
  induction N_L6_forget_2 using Nat.strongRecOn with
  | _ N_L6_forget_2 ih_L6_forget_2 =>
    intro h a0 a1 a2 F0 h_a0 h_a1 h_a2 eN
    rw [qL6_forget_2]
    have z_a2 := h_a2.1
    refine zm_if (fun c1 => ?_) (fun c1 => ?_)
    · refine zc_rF F0 1 h_a0 ?_
      refine zc_rA F0 (zc_y6_0 h_a0).1 (zc_y6_0 h_a0).2 (by omega) (by omega) fun v2 r_v2 => ?_
      refine zm_if (fun c2 => ?_) (fun c2 => ?_)
      · refine zc_rF F0 1 h_a0 ?_
        refine zc_wA F0 (zc_y6_0 h_a0).1 (zc_y6_0 h_a0).2 (by omega) (by omega) (by unfold zv_rg; omega) fun g4 F3 u_g4 => ?_
        exact ih_L6_forget_2 _ (by rw [← eN]; exact zc_up h_a2.2 (by unfold zv_rg; omega) c1) F3 h_a0 h_a1 ⟨by rw [zc_up1 h_a2.2 (by unfold zv_rg; omega) c1]; omega, zc_w _⟩  rfl
      · exact ih_L6_forget_2 _ (by rw [← eN]; exact zc_up h_a2.2 (by unfold zv_rg; omega) c1) F0 h_a0 h_a1 ⟨by rw [zc_up1 h_a2.2 (by unfold zv_rg; omega) c1]; omega, zc_w _⟩  rfl
    · exact zm_iV F0
theorem zc_E6_forget {d : Nat} {h : zv_H} {a0 : Nat} {a1 : Int} (hA : zc_A h) (h_a0 : zv_lay a0 = (1, 6)) (h_a1 : zv_rg a1) : zm_R (E6_forget (d + 0) a0 a1 h) (zm_V fun h' => zc_Q h h') := by
  have F0 := zc_Q_r hA
  rw [qE6_forget]
  exact zc_L6_forget_2  _ F0 h_a0 h_a1 ⟨by omega, (by unfold zv_rg; omega)⟩  rfl
theorem zc_C6_forget {d : Nat} {h : zv_H} {a0 : Nat} {a1 : Int} (hA : zc_A h) (h_a0 : zv_lay a0 = (1, 6)) (h_a1 : zv_rg a1) : zm_R (C6_forget (d + 1) a0 a1 h) (fun q => zc_Q h q) := zm_cV (fun e => lC6_forget (zc_ob hA h_a0) e) (zc_E6_forget hA h_a0 h_a1)
theorem zc_E3_byteAt {d : Nat} {h : zv_H} {a0 : Nat} {a1 : Int} (hA : zc_A h) (h_a0 : zv_lay a0 = (1, 3)) (h_a1 : zv_rg a1) : zm_R (E3_byteAt (d + 0) a0 a1 h) (zm_I fun v h' => h' = h ∧ zv_rg v ∧ True) := by
  have F0 := zc_Q_r hA
  rw [qE3_byteAt]
  refine zm_if (fun c1 => ?_) (fun c1 => ?_)
  · exact zm_iI ⟨rfl, (by unfold zv_rg; omega), trivial⟩
  · refine zc_rI F0 h_a0 fun v1 e_v1 r_v1 => ?_
    refine zm_if (fun c2 => ?_) (fun c2 => ?_)
    · refine zm_if (fun c3 => ?_) (fun c3 => ?_)
      · refine zc_rF F0 1 h_a0 ?_
        refine zc_rA F0 (zc_y3_0 h_a0).1 (zc_y3_0 h_a0).2 (by omega) (by omega) fun v3 r_v3 => ?_
        exact zm_iI ⟨rfl, r_v3, trivial⟩
      · exact zm_iI ⟨rfl, (by unfold zv_rg; omega), trivial⟩
    · exact zm_iI ⟨rfl, (by unfold zv_rg; omega), trivial⟩
theorem zc_C3_byteAt {d : Nat} {h : zv_H} {a0 : Nat} {a1 : Int} (hA : zc_A h) (h_a0 : zv_lay a0 = (1, 3)) (h_a1 : zv_rg a1) : zm_R (C3_byteAt (d + 1) a0 a1 h) (fun q => q.2 = h ∧ zv_rg q.1 ∧ True) := zm_cI (fun e => lC3_byteAt (zc_ob hA h_a0) e) (zc_E3_byteAt hA h_a0 h_a1)
theorem zc_E3_fail {d : Nat} {h : zv_H} {a0 : Nat} {a1 : Int} (hA : zc_A h) (h_a0 : zv_lay a0 = (1, 3)) (h_a1 : zv_rg a1) : zm_R (E3_fail (d + 0) a0 a1 h) (zm_I fun v h' => zc_Q h h' ∧ zv_rg v ∧ ((v = 0))) := by
  have F0 := zc_Q_r hA
  rw [qE3_fail]
  refine zc_wO F0 h_a0 (zc_frO h_a0 (zc_lt h_a0 (by decide)) (by decide) rfl (by decide)) h_a1 fun g1 F1 => ?_
  refine zc_rI F1 h_a0 fun v2 e_v2 r_v2 => ?_
  refine zc_wO F1 h_a0 (zc_frO h_a0 (zc_lt h_a0 (by decide)) (by decide) rfl (by decide)) r_v2 fun g3 F2 => ?_
  exact zm_iI ⟨F2, (by unfold zv_rg; omega), by omega⟩
theorem zc_C3_fail {d : Nat} {h : zv_H} {a0 : Nat} {a1 : Int} (hA : zc_A h) (h_a0 : zv_lay a0 = (1, 3)) (h_a1 : zv_rg a1) : zm_R (C3_fail (d + 1) a0 a1 h) (fun q => zc_Q h q.2 ∧ zv_rg q.1 ∧ ((q.1 = 0))) := zm_cI (fun e => lC3_fail (zc_ob hA h_a0) e) (zc_E3_fail hA h_a0 h_a1)
theorem zc_E3_more {d : Nat} {h : zv_H} {a0 : Nat} (hA : zc_A h) (h_a0 : zv_lay a0 = (1, 3)) : zm_R (E3_more (d + 0) a0 h) (zm_I fun v h' => h' = h ∧ zv_rg v ∧ ((v = 0 ∨ v = 1))) := by
  have F0 := zc_Q_r hA
  rw [qE3_more]
  refine zc_rI F0 h_a0 fun v1 e_v1 r_v1 => ?_
  refine zm_if (fun c1 => ?_) (fun c1 => ?_)
  · refine zc_rI F0 h_a0 fun v2 e_v2 r_v2 => ?_
    refine zm_if (fun c2 => ?_) (fun c2 => ?_)
    · exact zm_iI ⟨rfl, (by unfold zv_rg; omega), by omega⟩
    · exact zm_iI ⟨rfl, (by unfold zv_rg; omega), by omega⟩
  · exact zm_iI ⟨rfl, (by unfold zv_rg; omega), by omega⟩
theorem zc_C3_more {d : Nat} {h : zv_H} {a0 : Nat} (hA : zc_A h) (h_a0 : zv_lay a0 = (1, 3)) : zm_R (C3_more (d + 1) a0 h) (fun q => q.2 = h ∧ zv_rg q.1 ∧ ((q.1 = 0 ∨ q.1 = 1))) := zm_cI (fun e => lC3_more (zc_ob hA h_a0) e) (zc_E3_more hA h_a0)
theorem zc_E3_isSmall {d : Nat} {h : zv_H} {a0 : Int} (hA : zc_A h) (h_a0 : zv_rg a0) : zm_R (E3_isSmall (d + 0) a0 h) (zm_I fun v h' => h' = h ∧ zv_rg v ∧ ((v = 0 ∨ v = 1))) := by
  have F0 := zc_Q_r hA
  rw [qE3_isSmall]
  refine zm_if (fun c1 => ?_) (fun c1 => ?_)
  · exact zm_iI ⟨rfl, (by unfold zv_rg; omega), by omega⟩
  · refine zm_if (fun c2 => ?_) (fun c2 => ?_)
    · exact zm_iI ⟨rfl, (by unfold zv_rg; omega), by omega⟩
    · exact zm_iI ⟨rfl, (by unfold zv_rg; omega), by omega⟩
theorem zc_C3_isSmall {d : Nat} {h : zv_H} {a0 : Int} (hA : zc_A h) (h_a0 : zv_rg a0) : zm_R (C3_isSmall (d + 1) a0 h) (fun q => q.2 = h ∧ zv_rg q.1 ∧ ((q.1 = 0 ∨ q.1 = 1))) := zm_cI (fun e => lC3_isSmall e) (zc_E3_isSmall hA h_a0)
theorem zc_E3_isDigit {d : Nat} {h : zv_H} {a0 : Int} (hA : zc_A h) (h_a0 : zv_rg a0) : zm_R (E3_isDigit (d + 0) a0 h) (zm_I fun v h' => h' = h ∧ zv_rg v ∧ ((v = 0 ∨ v = 1))) := by
  have F0 := zc_Q_r hA
  rw [qE3_isDigit]
  refine zm_if (fun c1 => ?_) (fun c1 => ?_)
  · exact zm_iI ⟨rfl, (by unfold zv_rg; omega), by omega⟩
  · refine zm_if (fun c2 => ?_) (fun c2 => ?_)
    · exact zm_iI ⟨rfl, (by unfold zv_rg; omega), by omega⟩
    · exact zm_iI ⟨rfl, (by unfold zv_rg; omega), by omega⟩
theorem zc_C3_isDigit {d : Nat} {h : zv_H} {a0 : Int} (hA : zc_A h) (h_a0 : zv_rg a0) : zm_R (C3_isDigit (d + 1) a0 h) (fun q => q.2 = h ∧ zv_rg q.1 ∧ ((q.1 = 0 ∨ q.1 = 1))) := zm_cI (fun e => lC3_isDigit e) (zc_E3_isDigit hA h_a0)
theorem zc_E3_isSign {d : Nat} {h : zv_H} {a0 : Nat} {a1 : Int} (hA : zc_A h) (h_a0 : zv_lay a0 = (1, 3)) (h_a1 : zv_rg a1) : zm_R (E3_isSign (d + 0) a0 a1 h) (zm_I fun v h' => h' = h ∧ zv_rg v ∧ ((v = 0 ∨ v = 1))) := by
  have F0 := zc_Q_r hA
  rw [qE3_isSign]
  refine zc_rI F0 h_a0 fun v1 e_v1 r_v1 => ?_
  refine zm_if (fun c1 => ?_) (fun c1 => ?_)
  · refine zc_rI F0 h_a0 fun v2 e_v2 r_v2 => ?_
    refine zm_if (fun c2 => ?_) (fun c2 => ?_)
    · exact zm_iI ⟨rfl, (by unfold zv_rg; omega), by omega⟩
    · exact zm_iI ⟨rfl, (by unfold zv_rg; omega), by omega⟩
  · exact zm_iI ⟨rfl, (by unfold zv_rg; omega), by omega⟩
theorem zc_C3_isSign {d : Nat} {h : zv_H} {a0 : Nat} {a1 : Int} (hA : zc_A h) (h_a0 : zv_lay a0 = (1, 3)) (h_a1 : zv_rg a1) : zm_R (C3_isSign (d + 1) a0 a1 h) (fun q => q.2 = h ∧ zv_rg q.1 ∧ ((q.1 = 0 ∨ q.1 = 1))) := zm_cI (fun e => lC3_isSign (zc_ob hA h_a0) e) (zc_E3_isSign hA h_a0 h_a1)
theorem zc_E3_closed {d : Nat} {h : zv_H} {a0 : Nat} (hA : zc_A h) (h_a0 : zv_lay a0 = (1, 3)) : zm_R (E3_closed (d + 1) a0 h) (zm_I fun v h' => zc_Q h h' ∧ zv_rg v ∧ ((v = 0 ∨ v = 1))) := by
  have F0 := zc_Q_r hA
  rw [qE3_closed]
  refine zc_pI (K := fun v => (v = 0 ∨ v = 1)) (zc_C3_isSign F0.2 h_a0 (by unfold zv_rg; omega)) fun q1v r_q1 k_q1 => ?_
  dsimp only
  refine zm_if (fun c2 => ?_) (fun c2 => ?_)
  · refine zc_cI (K := fun v => (v = 0)) F0 (zc_C3_fail F0.2 h_a0 (by unfold zv_rg; omega)) fun q2v q2h F3 r_q2 k_q2 => ?_
    dsimp only
    refine zm_if (fun c4 => ?_) (fun c4 => ?_)
    · exact zm_iI ⟨F3, (by unfold zv_rg; omega), by omega⟩
    · exact zm_iI ⟨F3, (by unfold zv_rg; omega), by omega⟩
  · exact zm_iI ⟨F0, (by unfold zv_rg; omega), by omega⟩
theorem zc_C3_closed {d : Nat} {h : zv_H} {a0 : Nat} (hA : zc_A h) (h_a0 : zv_lay a0 = (1, 3)) : zm_R (C3_closed (d + 2) a0 h) (fun q => zc_Q h q.2 ∧ zv_rg q.1 ∧ ((q.1 = 0 ∨ q.1 = 1))) := zm_cI (fun e => lC3_closed (zc_ob hA h_a0) e) (zc_E3_closed hA h_a0)
theorem zc_E8_within {d : Nat} {h : zv_H} {a0 : Int} {a1 : Int} {a2 : Int} (hA : zc_A h) (h_a0 : zv_rg a0) (h_a1 : zv_rg a1) (h_a2 : zv_rg a2) : zm_R (E8_within (d + 0) a0 a1 a2 h) (zm_I fun v h' => h' = h ∧ zv_rg v ∧ ((v = 0 ∨ v = 1))) := by
  have F0 := zc_Q_r hA
  rw [qE8_within]
  refine zm_if (fun c1 => ?_) (fun c1 => ?_)
  · exact zm_iI ⟨rfl, (by unfold zv_rg; omega), by omega⟩
  · refine zm_if (fun c2 => ?_) (fun c2 => ?_)
    · exact zm_iI ⟨rfl, (by unfold zv_rg; omega), by omega⟩
    · exact zm_iI ⟨rfl, (by unfold zv_rg; omega), by omega⟩
theorem zc_C8_within {d : Nat} {h : zv_H} {a0 : Int} {a1 : Int} {a2 : Int} (hA : zc_A h) (h_a0 : zv_rg a0) (h_a1 : zv_rg a1) (h_a2 : zv_rg a2) : zm_R (C8_within (d + 1) a0 a1 a2 h) (fun q => q.2 = h ∧ zv_rg q.1 ∧ ((q.1 = 0 ∨ q.1 = 1))) := zm_cI (fun e => lC8_within e) (zc_E8_within hA h_a0 h_a1 h_a2)
theorem zc_E8_status {d : Nat} {h : zv_H} {a0 : Nat} (hA : zc_A h) (h_a0 : zv_lay a0 = (1, 8)) : zm_R (E8_status (d + 0) a0 h) (zm_I fun v h' => h' = h ∧ zv_rg v ∧ True) := by
  have F0 := zc_Q_r hA
  rw [qE8_status]
  refine zc_rI F0 h_a0 fun v1 e_v1 r_v1 => ?_
  exact zm_iI ⟨rfl, r_v1, trivial⟩
theorem zc_C8_status {d : Nat} {h : zv_H} {a0 : Nat} (hA : zc_A h) (h_a0 : zv_lay a0 = (1, 8)) : zm_R (C8_status (d + 1) a0 h) (fun q => q.2 = h ∧ zv_rg q.1 ∧ True) := zm_cI (fun e => lC8_status (zc_ob hA h_a0) e) (zc_E8_status hA h_a0)
theorem zc_E8_refused {d : Nat} {h : zv_H} {a0 : Nat} {a1 : Int} (hA : zc_A h) (h_a0 : zv_lay a0 = (1, 8)) (h_a1 : zv_rg a1) : zm_R (E8_refused (d + 0) a0 a1 h) (zm_I fun v h' => zc_Q h h' ∧ zv_rg v ∧ True) := by
  have F0 := zc_Q_r hA
  rw [qE8_refused]
  refine zc_wO F0 h_a0 (zc_frO h_a0 (zc_lt h_a0 (by decide)) (by decide) rfl (by decide)) h_a1 fun g1 F1 => ?_
  exact zm_iI ⟨F1, (by unfold zv_rg; omega), trivial⟩
theorem zc_C8_refused {d : Nat} {h : zv_H} {a0 : Nat} {a1 : Int} (hA : zc_A h) (h_a0 : zv_lay a0 = (1, 8)) (h_a1 : zv_rg a1) : zm_R (C8_refused (d + 1) a0 a1 h) (fun q => zc_Q h q.2 ∧ zv_rg q.1 ∧ True) := zm_cI (fun e => lC8_refused (zc_ob hA h_a0) e) (zc_E8_refused hA h_a0 h_a1)
theorem zc_E8_given {d : Nat} {h : zv_H} {a0 : Nat} {a1 : Int} (hA : zc_A h) (h_a0 : zv_lay a0 = (1, 8)) (h_a1 : zv_rg a1) : zm_R (E8_given (d + 0) a0 a1 h) (zm_I fun v h' => zc_Q h h' ∧ zv_rg v ∧ True) := by
  have F0 := zc_Q_r hA
  rw [qE8_given]
  refine zc_wO F0 h_a0 (zc_frO h_a0 (zc_lt h_a0 (by decide)) (by decide) rfl (by decide)) (by unfold zv_rg; omega) fun g1 F1 => ?_
  exact zm_iI ⟨F1, h_a1, trivial⟩
theorem zc_C8_given {d : Nat} {h : zv_H} {a0 : Nat} {a1 : Int} (hA : zc_A h) (h_a0 : zv_lay a0 = (1, 8)) (h_a1 : zv_rg a1) : zm_R (C8_given (d + 1) a0 a1 h) (fun q => zc_Q h q.2 ∧ zv_rg q.1 ∧ True) := zm_cI (fun e => lC8_given (zc_ob hA h_a0) e) (zc_E8_given hA h_a0 h_a1)
theorem zc_E8_answered {d : Nat} {h : zv_H} {a0 : Nat} {a1 : Int} (hA : zc_A h) (h_a0 : zv_lay a0 = (1, 8)) (h_a1 : zv_rg a1) : zm_R (E8_answered (d + 1) a0 a1 h) (zm_I fun v h' => zc_Q h h' ∧ zv_rg v ∧ True) := by
  have F0 := zc_Q_r hA
  rw [qE8_answered]
  refine zm_if (fun c1 => ?_) (fun c1 => ?_)
  · refine zc_cI (K := fun v => True) F0 (zc_C8_refused F0.2 h_a0 (zc_w _)) fun q1v q1h F2 r_q1 k_q1 => ?_
    dsimp only
    exact zm_iI ⟨F2, r_q1, trivial⟩
  · refine zc_cI (K := fun v => True) F0 (zc_C8_given F0.2 h_a0 h_a1) fun q2v q2h F3 r_q2 k_q2 => ?_
    dsimp only
    exact zm_iI ⟨F3, r_q2, trivial⟩
theorem zc_C8_answered {d : Nat} {h : zv_H} {a0 : Nat} {a1 : Int} (hA : zc_A h) (h_a0 : zv_lay a0 = (1, 8)) (h_a1 : zv_rg a1) : zm_R (C8_answered (d + 2) a0 a1 h) (fun q => zc_Q h q.2 ∧ zv_rg q.1 ∧ True) := zm_cI (fun e => lC8_answered (zc_ob hA h_a0) e) (zc_E8_answered hA h_a0 h_a1)
theorem zc_E0_glyph {d : Nat} {h : zv_H} {a0 : Nat} {a1 : Int} (hA : zc_A h) (h_a0 : zv_lay a0 = (1, 0)) (h_a1 : zv_rg a1) : zm_R (E0_glyph (d + 0) a0 a1 h) (zm_I fun v h' => h' = h ∧ zv_rg v ∧ True) := by
  have F0 := zc_Q_r hA
  rw [qE0_glyph]
  refine zm_if (fun c1 => ?_) (fun c1 => ?_)
  · exact zm_iI ⟨rfl, (by unfold zv_rg; omega), trivial⟩
  · refine zm_if (fun c2 => ?_) (fun c2 => ?_)
    · refine zc_rF F0 5 h_a0 ?_
      refine zc_rA F0 (zc_y0_2 h_a0).1 (zc_y0_2 h_a0).2 (by omega) (by omega) fun v2 r_v2 => ?_
      exact zm_iI ⟨rfl, r_v2, trivial⟩
    · exact zm_iI ⟨rfl, (by unfold zv_rg; omega), trivial⟩
theorem zc_C0_glyph {d : Nat} {h : zv_H} {a0 : Nat} {a1 : Int} (hA : zc_A h) (h_a0 : zv_lay a0 = (1, 0)) (h_a1 : zv_rg a1) : zm_R (C0_glyph (d + 1) a0 a1 h) (fun q => q.2 = h ∧ zv_rg q.1 ∧ True) := zm_cI (fun e => lC0_glyph (zc_ob hA h_a0) e) (zc_E0_glyph hA h_a0 h_a1)
theorem zc_E0_setGlyph {d : Nat} {h : zv_H} {a0 : Nat} {a1 : Int} {a2 : Int} (hA : zc_A h) (h_a0 : zv_lay a0 = (1, 0)) (h_a1 : zv_rg a1) (h_a2 : zv_rg a2) : zm_R (E0_setGlyph (d + 0) a0 a1 a2 h) (zm_V fun h' => zc_Q h h') := by
  have F0 := zc_Q_r hA
  rw [qE0_setGlyph]
  refine zm_if (fun c1 => ?_) (fun c1 => ?_)
  · exact zm_iV F0
  · refine zm_if (fun c2 => ?_) (fun c2 => ?_)
    · refine zc_rF F0 5 h_a0 ?_
      refine zc_wA F0 (zc_y0_2 h_a0).1 (zc_y0_2 h_a0).2 (by omega) (by omega) h_a2 fun g2 F3 u_g2 => ?_
      exact zm_iV F3
    · exact zm_iV F0
theorem zc_C0_setGlyph {d : Nat} {h : zv_H} {a0 : Nat} {a1 : Int} {a2 : Int} (hA : zc_A h) (h_a0 : zv_lay a0 = (1, 0)) (h_a1 : zv_rg a1) (h_a2 : zv_rg a2) : zm_R (C0_setGlyph (d + 1) a0 a1 a2 h) (fun q => zc_Q h q) := zm_cV (fun e => lC0_setGlyph (zc_ob hA h_a0) e) (zc_E0_setGlyph hA h_a0 h_a1 h_a2)
theorem zc_E0_letterAt {d : Nat} {h : zv_H} {a0 : Nat} {a1 : Nat} {a2 : Int} (hA : zc_A h) (h_a0 : zv_lay a0 = (1, 0)) (h_a1 : zv_lay a1 = (1, 5)) (h_a2 : zv_rg a2) : zm_R (E0_letterAt (d + 1) a0 a1 a2 h) (zm_I fun v h' => h' = h ∧ zv_rg v ∧ True) := by
  have F0 := zc_Q_r hA
  rw [qE0_letterAt]
  refine zc_pI (K := fun v => True) (zc_C5_idAt F0.2 h_a1 h_a2) fun q1v r_q1 k_q1 => ?_
  dsimp only
  refine zc_pI (K := fun v => True) (zc_C0_glyph F0.2 h_a0 r_q1) fun q2v r_q2 k_q2 => ?_
  dsimp only
  exact zm_iI ⟨rfl, r_q2, trivial⟩
theorem zc_C0_letterAt {d : Nat} {h : zv_H} {a0 : Nat} {a1 : Nat} {a2 : Int} (hA : zc_A h) (h_a0 : zv_lay a0 = (1, 0)) (h_a1 : zv_lay a1 = (1, 5)) (h_a2 : zv_rg a2) : zm_R (C0_letterAt (d + 2) a0 a1 a2 h) (fun q => q.2 = h ∧ zv_rg q.1 ∧ True) := zm_cI (fun e => lC0_letterAt (zc_ob hA h_a0) e) (zc_E0_letterAt hA h_a0 h_a1 h_a2)
theorem zc_E0_standOf {d : Nat} {h : zv_H} {a0 : Nat} {a1 : Int} (hA : zc_A h) (h_a0 : zv_lay a0 = (1, 0)) (h_a1 : zv_rg a1) : zm_R (E0_standOf (d + 1) a0 a1 h) (zm_I fun v h' => h' = h ∧ zv_rg v ∧ True) := by
  have F0 := zc_Q_r hA
  rw [qE0_standOf]
  refine zc_pI (K := fun v => True) (zc_C4_putter F0.2 h_a1) fun q1v r_q1 k_q1 => ?_
  dsimp only
  refine zm_if (fun c2 => ?_) (fun c2 => ?_)
  · exact zm_iI ⟨rfl, (by unfold zv_rg; omega), trivial⟩
  · refine zm_if (fun c3 => ?_) (fun c3 => ?_)
    · exact zm_iI ⟨rfl, (by unfold zv_rg; omega), trivial⟩
    · refine zm_if (fun c4 => ?_) (fun c4 => ?_)
      · refine zc_rF F0 6 h_a0 ?_
        refine zc_rA F0 (zc_y0_3 h_a0).1 (zc_y0_3 h_a0).2 (by omega) (by omega) fun v3 r_v3 => ?_
        refine zc_pI (K := fun v => True) (zc_C4_order F0.2 h_a1) fun q4v r_q4 k_q4 => ?_
        dsimp only
        refine zc_pI (K := fun v => True) (zc_C4_id F0.2 r_v3 r_q4) fun q5v r_q5 k_q5 => ?_
        dsimp only
        exact zm_iI ⟨rfl, r_q5, trivial⟩
      · exact zm_iI ⟨rfl, (by unfold zv_rg; omega), trivial⟩
theorem zc_C0_standOf {d : Nat} {h : zv_H} {a0 : Nat} {a1 : Int} (hA : zc_A h) (h_a0 : zv_lay a0 = (1, 0)) (h_a1 : zv_rg a1) : zm_R (C0_standOf (d + 2) a0 a1 h) (fun q => q.2 = h ∧ zv_rg q.1 ∧ True) := zm_cI (fun e => lC0_standOf (zc_ob hA h_a0) e) (zc_E0_standOf hA h_a0 h_a1)
theorem zc_L0_standForThemselves_2 {d : Nat} {h0 : zv_H} (N_L0_standForThemselves_2 : Nat) : ∀ {h : zv_H} {a0 : Nat} {a1 : Int}, zc_Q h0 h → (zv_lay a0 = (1, 0)) → (0 ≤ a1 ∧ zv_rg a1) → (2147483647 - a1).toNat = N_L0_standForThemselves_2 → zm_R (L0_standForThemselves_2 (d + 0) a0 a1 h) (zm_V fun h' => zc_Q h0 h') := by
  induction N_L0_standForThemselves_2 using Nat.strongRecOn with
  | _ N_L0_standForThemselves_2 ih_L0_standForThemselves_2 =>
    intro h a0 a1 F0 h_a0 h_a1 eN
    rw [qL0_standForThemselves_2]
    have z_a1 := h_a1.1
    refine zm_if (fun c1 => ?_) (fun c1 => ?_)
    · refine zc_rF F0 6 h_a0 ?_
      refine zc_wA F0 (zc_y0_3 h_a0).1 (zc_y0_3 h_a0).2 (by omega) (by omega) h_a1.2 fun g2 F2 u_g2 => ?_
      exact ih_L0_standForThemselves_2 _ (by rw [← eN]; exact zc_up h_a1.2 (by unfold zv_rg; omega) c1) F2 h_a0 ⟨by rw [zc_up1 h_a1.2 (by unfold zv_rg; omega) c1]; omega, zc_w _⟩  rfl
    · exact zm_iV F0
theorem zc_E0_standForThemselves {d : Nat} {h : zv_H} {a0 : Nat} (hA : zc_A h) (h_a0 : zv_lay a0 = (1, 0)) : zm_R (E0_standForThemselves (d + 0) a0 h) (zm_V fun h' => zc_Q h h') := by
  have F0 := zc_Q_r hA
  rw [qE0_standForThemselves]
  exact zc_L0_standForThemselves_2  _ F0 h_a0 ⟨by omega, (by unfold zv_rg; omega)⟩  rfl
theorem zc_C0_standForThemselves {d : Nat} {h : zv_H} {a0 : Nat} (hA : zc_A h) (h_a0 : zv_lay a0 = (1, 0)) : zm_R (C0_standForThemselves (d + 1) a0 h) (fun q => zc_Q h q) := zm_cV (fun e => lC0_standForThemselves (zc_ob hA h_a0) e) (zc_E0_standForThemselves hA h_a0)
theorem zc_E0_baseOf {d : Nat} {h : zv_H} {a0 : Int} (hA : zc_A h) (h_a0 : zv_rg a0) : zm_R (E0_baseOf (d + 1) a0 h) (zm_J fun _ h' => h' = h) := by
  have F0 := zc_Q_r hA
  rw [qE0_baseOf]
  refine zm_if (fun c1 => ?_) (fun c1 => ?_)
  · exact zm_iJ rfl
  · refine zc_pI (K := fun v => True) (zc_C4_putter F0.2 h_a0) fun q1v r_q1 k_q1 => ?_
    dsimp only
    refine zm_if (fun c3 => ?_) (fun c3 => ?_)
    · exact zm_iJ rfl
    · refine zc_pI (K := fun v => True) (zc_C4_putter F0.2 h_a0) fun q2v r_q2 k_q2 => ?_
      dsimp only
      exact zm_iJ rfl
theorem zc_C0_baseOf {d : Nat} {h : zv_H} {a0 : Int} (hA : zc_A h) (h_a0 : zv_rg a0) : zm_R (C0_baseOf (d + 2) a0 h) (fun q => q.2 = h) := zm_cJ (fun e => lC0_baseOf e) (zc_E0_baseOf hA h_a0)
theorem zc_E0_rowOfHere {d : Nat} {h : zv_H} {a0 : Nat} (hA : zc_A h) (h_a0 : zv_lay a0 = (1, 0)) : zm_R (E0_rowOfHere (d + 3) a0 h) (zm_N fun v h' => zc_Q h h' ∧ (zv_lay v = (1, 4))) := by
  have F0 := zc_Q_r hA
  rw [qE0_rowOfHere]
  refine zc_rF F0 8 h_a0 ?_
  refine zc_rRo F0 h_a0 ?_
  refine zc_cV F0 (zc_C4_lay F0.2 (zc_y0_5 h_a0).1 (zc_Vq F0.1 (zc_hV F0 h_a0).1)) fun g3 F1 => ?_
  refine zc_rF F1 8 h_a0 ?_
  exact zm_iN ⟨F1, (zc_y0_5 h_a0).1⟩
theorem zc_C0_rowOfHere {d : Nat} {h : zv_H} {a0 : Nat} (hA : zc_A h) (h_a0 : zv_lay a0 = (1, 0)) : zm_R (C0_rowOfHere (d + 4) a0 h) (fun q => zc_Q h q.2 ∧ (zv_lay q.1 = (1, 4))) := zm_cN (fun e => lC0_rowOfHere (zc_ob hA h_a0) e) (zc_E0_rowOfHere hA h_a0)
end
