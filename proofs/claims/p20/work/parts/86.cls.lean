/-! ===== the class: one step, and what it leaves ===== -/
def zc_V (h : zv_H) (s : Nat) : Prop := zv_lay s = (1, 5) ∧ zv_I h s 3 = 1
theorem zc_Vq {h h' : zv_H} (f : zc_q h h') {s : Nat} (v : zc_V h s) : zc_V h' s := ⟨v.1, by rw [(f.2.2.2.2.1 s v.1).2.1]; exact v.2⟩
theorem zc_Vb {h h' : zv_H} (f : zc_q h h') {s : Nat} (v : zc_V h' s) : zc_V h s := ⟨v.1, by rw [← (f.2.2.2.2.1 s v.1).2.1]; exact v.2⟩
theorem zc_w (x : Int) : zv_rg (zv_w x) := by unfold zv_rg zv_w; omega
theorem zc_lt {r c : Nat} (hr : zv_lay r = (1, c)) (hc : c < 9) : r < 347 := by
  have := zc_all (fun r => if Nat.ble 347 r then decide ((zv_lay r).1 ≠ 1 ∨ (zv_lay r).2 = 9) else true) (by decide +kernel) (zc_ly hr)
  by_cases q : Nat.ble 347 r = true
  · rw [if_pos q] at this
    have := of_decide_eq_true this
    rw [hr] at this
    dsimp only at this
    omega
  · have : ¬ 347 ≤ r := fun e => q (Nat.ble_eq.mpr e)
    omega
section
variable {α : Type} {h0 h : zv_H} {P : α → Prop}
theorem zc_rI (F : zc_Q h0 h) {r c k : Nat} (hr : zv_lay r = (1, c)) {g : Int → Option α} (n : ∀ v, v = zv_I h r k → zv_rg v → zm_R (g v) P) (hc : c < 9 := by decide) : zm_R ((zv_gI h r c k).bind g) P := by
  rw [zm_e (zc_gI F.2 hr k)]
  exact n _ rfl (zc_rg F.2 (zc_lt hr hc) k)
/-- number, there, depth, children of a State: as at the start -/
theorem zc_rT (F : zc_Q h0 h) {r k : Nat} (hr : zv_lay r = (1, 5)) {g : Int → Option α} (n : ∀ v, v = zv_I h0 r k → zv_rg v → zm_R (g v) P) (hk : k = 0 ∨ k = 3 ∨ k = 10 ∨ k = 11 := by decide) : zm_R ((zv_gI h r 5 k).bind g) P := by
  rw [zm_e (zc_gI F.2 hr k)]
  have i1 := F.1.2.2.2.2.1 r hr
  refine n _ ?_ (zc_rg F.2 (zc_lt hr (by decide)) k)
  rcases hk with e | e | e | e
  · subst e; exact i1.1
  · subst e; exact i1.2.1
  · subst e; exact i1.2.2.1
  · subst e; exact i1.2.2.2
theorem zc_rJ (F : zc_Q h0 h) {r c k : Nat} (hr : zv_lay r = (1, c)) {g : Int64 → Option α} (n : ∀ v, zm_R (g v) P) : zm_R ((zv_gJ h r c k).bind g) P := by
  rw [zm_e (zc_gJ F.2 hr k)]
  exact n _
theorem zc_rF (F : zc_Q h0 h) {r c k : Nat} (o : Nat) (hr : zv_lay r = (1, c)) {g : Nat → Option α} (n : zm_R (g (r + o)) P) (hv : zc_off c k = o := by rfl) (ho : o ≠ 0 := by decide) : zm_R ((zv_gR h r c k).bind g) P := by
  rw [zm_e (zc_gF F.2 hr k o hv ho)]
  exact n
theorem zc_rR (F : zc_Q h0 h) {r c k : Nat} (hr : zv_lay r = (1, c)) {g : Nat → Option α} (n : ∀ v, v = zv_R h r k → zm_R (g v) P) : zm_R ((zv_gR h r c k).bind g) P := by
  rw [zm_e (zc_gR F.2 hr k)]
  exact n _ rfl
theorem zc_dep (F : zc_Q h0 h) {s : Nat} (hV : zc_V h0 s) : (0 ≤ zv_I h0 s 10 ∧ zv_I h0 s 10 ≤ 47) ∧ (zv_R h s 4 = 0 ∨ (zc_V h0 (zv_R h s 4) ∧ zc_hf (zv_R h s 4) = zc_hf s ∧ zv_I h0 (zv_R h s 4) 10 + 1 = zv_I h0 s 10)) := by
  have t := F.2.2.1 s hV.1
  have e := F.1.2.2.2.2.1 s hV.1
  have v := zc_Vq F.1 hV
  cases t with
  | inl t => exact absurd t.1 (by rw [v.2]; decide)
  | inr t =>
    refine ⟨by rw [← e.2.2.1]; exact t.2.1, ?_⟩
    cases t.2.2.1 with
    | inl u => exact Or.inl u.1
    | inr u =>
      refine Or.inr ⟨zc_Vb F.1 ⟨u.1, u.2.1⟩, u.2.2.1, ?_⟩
      rw [← e.2.2.1, ← u.2.2.2, (F.1.2.2.2.2.1 _ u.1).2.2.1]
/-- a ref of a State or of a History: as at the start -/
theorem zc_rR5 (F : zc_Q h0 h) {r k : Nat} (hr : zv_lay r = (1, 5)) {g : Nat → Option α} (n : zm_R (g (zv_R h0 r k)) P) : zm_R ((zv_gR h r 5 k).bind g) P := by
  rw [zm_e (zc_gR F.2 hr k), zc_sR_q F.1 hr k]
  exact n
theorem zc_rRo (F : zc_Q h0 h) {r c k : Nat} (hr : zv_lay r = (1, c)) {g : Nat → Option α} (n : zm_R (g (zv_R h0 r k)) P) : zm_R ((zv_gR h r c k).bind g) P := by
  have e : zv_R h r k = zv_R h0 r k := congrFun (F.1.2.2.2.1 r (fun e => by rw [e] at hr; cases hr) (fun e => by rw [e] at hr; cases hr)) k
  rw [zm_e (zc_gR F.2 hr k), e]
  exact n
theorem zc_pV (F : zc_Q h0 h) {s : Nat} (hV : zc_V h0 s) : zv_R h0 s 4 = 0 ∨ zc_V h0 (zv_R h0 s 4) := by
  have t := (zc_dep F hV).2
  rw [zc_sR_q F.1 hV.1 4] at t
  exact t.imp id And.left
theorem zc_hV (F : zc_Q h0 h) {a : Nat} (ha : zv_lay a = (1, 0)) : zc_V h0 (zv_R h0 a 10) ∧ zc_hf (zv_R h0 a 10) = a := by
  have e : zv_R h a 10 = zv_R h0 a 10 := congrFun (F.1.2.2.2.1 a (fun e => by rw [e] at ha; cases ha) (fun e => by rw [e] at ha; cases ha)) 10
  have t := F.2.2.2 a ha
  rw [e] at t
  exact ⟨zc_Vb F.1 ⟨t.1, t.2.1⟩, t.2.2⟩
theorem zc_xH (F : zc_Q h0 h) : zv_lay (zv_R h0 1 3) = (1, 0) ∧ zv_lay (zv_R h0 1 4) = (1, 0) := by
  have e : ∀ k, zv_R h 1 k = zv_R h0 1 k := fun k => congrFun (F.1.2.2.2.1 1 (by decide) (by decide)) k
  have t := F.2.1.2.2.2.1
  rw [e, e] at t
  cases t with
  | inl t => rw [t.1, t.2]; exact ⟨rfl, rfl⟩
  | inr t => rw [t.1, t.2]; exact ⟨rfl, rfl⟩
/-- how far it is to walk up -/
noncomputable def zc_dm (h : zv_H) (s : Nat) : Nat := if s = 0 then 0 else (zv_I h s 10).toNat + 1
theorem zc_nz {s k c : Nat} (hs : zv_lay s = (k + 1, c)) : ¬ s = 0 := fun e => by
  rw [e, zv_lay0] at hs
  cases hs
theorem zc_dmP (F : zc_Q h0 h) {s : Nat} (hV : zc_V h0 s) : zc_dm h0 (zv_R h0 s 4) < zc_dm h0 s := by
  have t := zc_dep F hV
  rw [zc_sR_q F.1 hV.1 4] at t
  unfold zc_dm
  rw [if_neg (zc_nz hV.1)]
  cases t.2 with
  | inl u => rw [if_pos u]; omega
  | inr u =>
    have u1 := (zc_dep F u.1).1
    rw [if_neg (zc_nz u.1.1)]
    omega
/-- counters -/
theorem zc_up {x y : Int} (hx : zv_rg x) (hy : zv_rg y) (c : x < y) : (2147483647 - zv_w (x + 1)).toNat < (2147483647 - x).toNat := by
  unfold zv_rg at hx hy
  rw [zm_w (show -2147483648 ≤ x + 1 ∧ x + 1 < 2147483648 by omega)]
  omega
theorem zc_up1 {x y : Int} (hx : zv_rg x) (hy : zv_rg y) (c : x < y) : zv_w (x + 1) = x + 1 := by
  unfold zv_rg at hx hy
  exact zm_w (by omega)
theorem zc_dn {x : Int} (hx : zv_rg x) (c : ¬ x < 0) : (zv_w (x + (-1)) + 1).toNat < (x + 1).toNat := by
  unfold zv_rg at hx
  rw [zm_w (show -2147483648 ≤ x + (-1) ∧ x + (-1) < 2147483648 by omega)]
  omega
theorem zc_rA (F : zc_Q h0 h) {r n0 : Nat} {j : Int} (hr : zv_lay r = (2, n0)) (hl : r < 347) (j0 : 0 ≤ j) (j1 : j < n0) {g : Int → Option α} (n : ∀ v, zv_rg v → zm_R (g v) P) : zm_R ((zv_aI h r j).bind g) P := by
  have h1 := zv_lay_lt (zc_ly hr)
  have e : zv_aI h r j = some (zv_I h r j.toNat) := by
    unfold zv_aI
    rw [if_neg (show ¬ r = 2000000 by omega), if_pos ⟨zc_n F.2.1 (zc_ly hr), by rw [hr], j0, by rw [hr]; exact j1⟩]
  rw [zm_e e]
  exact n _ (zc_rg F.2 hl _)
theorem zc_rB (F : zc_Q h0 h) {r n0 : Nat} {j : Int} (hr : zv_lay r = (3, n0)) (hl : r < 347) (j0 : 0 ≤ j) (j1 : j < n0) {g : Int → Option α} (n : ∀ v, zv_rg v → zm_R (g v) P) : zm_R ((zv_aB h r j).bind g) P := by
  have h1 := zv_lay_lt (zc_ly hr)
  have e : zv_aB h r j = some (zv_I h r j.toNat) := by
    unfold zv_aB
    rw [if_neg (by omega), if_pos ⟨zc_n F.2.1 (zc_ly hr), by rw [hr]; exact Or.inl rfl, j0, by rw [hr]; exact j1⟩]
  rw [zm_e e]
  exact n _ (zc_rg F.2 hl _)
/-- the States of a History -/
theorem zc_rS (F : zc_Q h0 h) {a : Nat} {j : Int} (ha : zv_lay a = (1, 0)) (j0 : 0 ≤ j) (j1 : j < 48) {g : Nat → Option α} (n : ∀ v, zv_lay v = (1, 5) → zc_hf v = a → v = zc_stt a j.toNat → zv_I h0 v 0 = j → zm_R (g v) P) : zm_R ((zv_aR h (a + 4) j).bind g) P := by
  have hl : zv_lay (a + 4) = (6, 48) := by cases zc_lh ha with
    | inl e => rw [e]; rfl
    | inr e => rw [e]; rfl
  have e : zv_aR h (a + 4) j = some (zc_stt a j.toNat) := by
    unfold zv_aR
    rw [if_pos ⟨zc_n F.2.1 (zc_ly hl), by rw [hl], j0, by rw [hl]; exact j1⟩, F.2.1.2.2.1 a j.toNat ha (by omega)]
  rw [zm_e e]
  have s := zc_stl ha (show j.toNat < 48 by omega)
  refine n _ s.1 s.2.1 rfl ?_
  rw [← (F.1.2.2.2.2.1 _ s.1).1]
  exact (F.2.1.2.2.2.2.2.2.2 a j.toNat ha (by omega)).trans (Int.toNat_of_nonneg j0)
/-- the path of a Row -/
theorem zc_pa (F : zc_Q h0 h) {r : Nat} (hr : zv_lay r = (1, 4)) (k : Nat) : zv_R h (r + 1) k = 0 ∨ zv_lay (zv_R h (r + 1) k) = (1, 5) := F.2.1.2.2.2.2.2.2.1 r k hr
theorem zc_rQ (F : zc_Q h0 h) {r : Nat} {j : Int} (hr : zv_lay r = (1, 4)) (j0 : 0 ≤ j) (j1 : j < 48) {g : Nat → Option α} (n : zm_R (g (zv_R h (r + 1) j.toNat)) P) : zm_R ((zv_aR h (r + 1) j).bind g) P := by
  have hl : zv_lay (r + 1) = (6, 48) := by cases zc_l4 hr with
    | inl e => rw [e]; rfl
    | inr e => rw [e]; rfl
  have e : zv_aR h (r + 1) j = some (zv_R h (r + 1) j.toNat) := by
    unfold zv_aR
    rw [if_pos ⟨zc_n F.2.1 (zc_ly hl), by rw [hl], j0, by rw [hl]; exact j1⟩]
  rw [zm_e e]
  exact n
theorem zc_wO (F : zc_Q h0 h) {r c k : Nat} {v : Int} (hr : zv_lay r = (1, c)) (hf : zc_fr r k) (hv : zv_rg v) {g : zv_H → Option α} (n : ∀ h', zc_Q h0 h' → zm_R (g h') P) : zm_R ((zv_pI h r c k v).bind g) P := by
  have e : zv_pI h r c k v = some (zv_sI h r k v) := if_pos (zc_ob F.2 hr)
  rw [zm_e e]
  exact n _ (zc_Q_t F (zc_QI F.2 hf hv))
theorem zc_wJ (F : zc_Q h0 h) {r c k : Nat} {v : Int64} (hr : zv_lay r = (1, c)) (hc : r < 347) {g : zv_H → Option α} (n : ∀ h', zc_Q h0 h' → zm_R (g h') P) : zm_R ((zv_pJ h r c k v).bind g) P := by
  have e : zv_pJ h r c k v = some (zv_sJ h r k v) := if_pos (zc_ob F.2 hr)
  rw [zm_e e]
  exact n _ (zc_Q_t F (zc_QJ F.2 hc))
theorem zc_wA (F : zc_Q h0 h) {r n0 : Nat} {j v : Int} (hr : zv_lay r = (2, n0)) (hc : r < 347) (j0 : 0 ≤ j) (j1 : j < n0) (hv : zv_rg v) {g : zv_H → Option α} (n : ∀ h', zc_Q h0 h' → (∀ x k, (zv_lay x).1 = 1 → zv_I h' x k = zv_I h x k) → zm_R (g h') P) : zm_R ((zv_wI h r j v).bind g) P := by
  have e : zv_wI h r j v = some (zv_sI h r j.toNat v) := by
    unfold zv_wI
    rw [if_pos ⟨zc_n F.2.1 (zc_ly hr), by rw [hr], j0, by rw [hr]; exact j1⟩]
  rw [zm_e e]
  exact n _ (zc_Q_t F (zc_QI F.2 (zc_frA (c := 0) hr hc) hv)) (fun x k hx => zc_sI1 _ _ _ _ (fun e => by rw [e.1, hr] at hx; cases hx))
theorem zc_wB (F : zc_Q h0 h) {r n0 : Nat} {j v : Int} (hr : zv_lay r = (3, n0)) (hc : r < 347) (j0 : 0 ≤ j) (j1 : j < n0) {g : zv_H → Option α} (n : ∀ h', zc_Q h0 h' → (∀ x k, (zv_lay x).1 = 1 → zv_I h' x k = zv_I h x k) → zm_R (g h') P) : zm_R ((zv_wB h r j v).bind g) P := by
  have e : zv_wB h r j v = some (zv_sI h r j.toNat (zv_nz v)) := by
    unfold zv_wB
    rw [if_pos ⟨zc_n F.2.1 (zc_ly hr), by rw [hr]; exact Or.inl rfl, j0, by rw [hr]; exact j1⟩, if_pos (by rw [hr])]
  rw [zm_e e]
  exact n _ (zc_Q_t F (zc_QI F.2 (zc_frA (c := 1) hr hc) (by unfold zv_rg zv_nz; omega))) (fun x k hx => zc_sI1 _ _ _ _ (fun e => by rw [e.1, hr] at hx; cases hx))
theorem zc_wP (F : zc_Q h0 h) {r : Nat} {j : Int} {v : Nat} (hr : zv_lay r = (1, 4)) (j0 : 0 ≤ j) (j1 : j < 48) (hv : zv_lay v = (1, 5)) {g : zv_H → Option α} (n : ∀ h', zc_Q h0 h' → zm_R (g h') P) : zm_R ((zv_wR h (r + 1) j v).bind g) P := by
  have hl : zv_lay (r + 1) = (6, 48) := by cases zc_l4 hr with
    | inl e => rw [e]; rfl
    | inr e => rw [e]; rfl
  have e : zv_wR h (r + 1) j v = some (zv_sR h (r + 1) j.toNat v) := by
    unfold zv_wR
    rw [if_pos ⟨⟨zc_n F.2.1 (zc_ly hl), by rw [hl], j0, by rw [hl]; exact j1⟩, Or.inr ⟨zc_n F.2.1 (zc_ly hv), hv⟩⟩]
  rw [zm_e e]
  exact n _ (zc_Q_t F (zc_QP F.2 hr hv))
/-- an int of narrow bounds -/
theorem zc_bdv (F : zc_Q h0 h) {r c k : Nat} {m : Int} (hr : zv_lay r = (1, c)) (hm : zc_bd c k = some m) : 0 ≤ zv_I h r k ∧ zv_I h r k ≤ m := F.2.1.2.2.2.2.2.1 r c k m hr hm
theorem zc_wL (F : zc_Q h0 h) {r c k : Nat} {v m : Int} (hr : zv_lay r = (1, c)) (hm : zc_bd c k = some m) (h0v : 0 ≤ v) (hv : v ≤ m) {g : zv_H → Option α} (n : ∀ h', zc_Q h0 h' → zm_R (g h') P) (hc : zc_bd c k = some m → m < 2147483648 ∧ c < 9 ∧ (c = 5 → k ≠ 0 ∧ k ≠ 3 ∧ k ≠ 10 ∧ k ≠ 11) ∧ (c = 3 → k ≠ 2)) : zm_R ((zv_pI h r c k v).bind g) P := by
  have e : zv_pI h r c k v = some (zv_sI h r k v) := if_pos (zc_ob F.2 hr)
  obtain ⟨c1, c2, c3, c4⟩ := hc hm
  have hlt := zc_lt hr c2
  have ce : ∀ a c', zv_lay a = (1, c') → a = r → c' = c := fun a c' ha e => by
    subst e
    rw [hr] at ha
    cases ha
    rfl
  rw [zm_e e]
  have q : zc_q h (zv_sI h r k v) := by
    refine ⟨rfl, rfl, fun a ha => ⟨?_, rfl⟩, fun _ _ _ => rfl, fun a ha => ?_, ?_⟩
    · funext b
      exact zc_sI1 h r k v (fun e => by omega)
    · have ne : a = r → k ≠ 0 ∧ k ≠ 3 ∧ k ≠ 10 ∧ k ≠ 11 := fun e => c3 (ce a 5 ha e).symm
      exact ⟨zc_sI1 h r k v (fun e => (ne e.1).1 e.2.symm), zc_sI1 h r k v (fun e => (ne e.1).2.1 e.2.symm), zc_sI1 h r k v (fun e => (ne e.1).2.2.1 e.2.symm), zc_sI1 h r k v (fun e => (ne e.1).2.2.2 e.2.symm)⟩
    · exact zc_sI1 h r k v (fun e => c4 (ce 5 3 rfl e.1).symm e.2.symm)
  refine n _ (zc_Q_t F ⟨q, zc_BI F.2.1 (by unfold zv_rg; omega) (fun e1 => (c3 (ce r 5 e1 rfl).symm).1) (fun c' m' e1 e2 => ?_), zc_T_q q F.2.2⟩)
  rw [ce r c' e1 rfl, hm] at e2
  cases e2
  exact ⟨h0v, hv⟩
/-- calls -/
theorem zc_cI {h0 h : zv_H} (F : zc_Q h0 h) {o : Option (Int × zv_H)} {K : Int → Prop} (e : zm_R o (fun q => zc_Q h q.2 ∧ zv_rg q.1 ∧ K q.1)) {g : Int × zv_H → Option α} (n : ∀ v h', zc_Q h0 h' → zv_rg v → K v → zm_R (g (v, h')) P) : zm_R (o.bind g) P := by
  obtain ⟨⟨v, h'⟩, rfl, a, b, c⟩ := e
  exact n v h' (zc_Q_t F a) b c
theorem zc_cJ {h0 h : zv_H} (F : zc_Q h0 h) {o : Option (Int64 × zv_H)} (e : zm_R o (fun q => zc_Q h q.2)) {g : Int64 × zv_H → Option α} (n : ∀ v h', zc_Q h0 h' → zm_R (g (v, h')) P) : zm_R (o.bind g) P := by
  obtain ⟨⟨v, h'⟩, rfl, a⟩ := e
  exact n v h' (zc_Q_t F a)
theorem zc_cN {h0 h : zv_H} (F : zc_Q h0 h) {o : Option (Nat × zv_H)} {K : Nat → Prop} (e : zm_R o (fun q => zc_Q h q.2 ∧ K q.1)) {g : Nat × zv_H → Option α} (n : ∀ v h', zc_Q h0 h' → K v → zm_R (g (v, h')) P) : zm_R (o.bind g) P := by
  obtain ⟨⟨v, h'⟩, rfl, a, b⟩ := e
  exact n v h' (zc_Q_t F a) b
theorem zc_cV {h0 h : zv_H} (F : zc_Q h0 h) {o : Option zv_H} (e : zm_R o (fun q => zc_Q h q)) {g : zv_H → Option α} (n : ∀ h', zc_Q h0 h' → zm_R (g h') P) : zm_R (o.bind g) P := by
  obtain ⟨h', rfl, a⟩ := e
  exact n h' (zc_Q_t F a)
end
