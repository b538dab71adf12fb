/-! ===== level 3: what an answer holds ===== -/
def zm_R {α : Type} (o : Option α) (P : α → Prop) : Prop := ∃ v, o = some v ∧ P v
theorem zm_ret {α : Type} {v : α} {P : α → Prop} (h : P v) : zm_R (some v) P := ⟨v, rfl, h⟩
theorem zm_b {α β : Type} {o : Option α} {f : α → Option β} {P : α → Prop} {Q : β → Prop} (a : zm_R o P) (b : ∀ v, P v → zm_R (f v) Q) : zm_R (o.bind f) Q := by
  obtain ⟨v, rfl, hv⟩ := a
  exact b v hv
theorem zm_g {α β : Type} {o : Option α} {f : α → Option β} {v : α} {Q : β → Prop} (e : o = some v) (b : zm_R (f v) Q) : zm_R (o.bind f) Q := by
  rw [e]
  exact b
theorem zm_e {α β : Type} {o : Option α} {f : α → Option β} {v : α} (e : o = some v) : o.bind f = f v := by
  rw [e]
  rfl
theorem zm_if {α : Type} {c : Prop} [Decidable c] {a b : Option α} {Q : α → Prop} (ha : c → zm_R a Q) (hb : ¬ c → zm_R b Q) : zm_R (if c then a else b) Q := by
  by_cases h : c
  · rw [if_pos h]
    exact ha h
  · rw [if_neg h]
    exact hb h
theorem zm_mono {α : Type} {o : Option α} {P Q : α → Prop} (h : zm_R o P) (i : ∀ v, P v → Q v) : zm_R o Q := by
  obtain ⟨v, e, hv⟩ := h
  exact ⟨v, e, i v hv⟩
def zm_I (P : Int → zv_H → Prop) (r : Option zv_V × zv_H) : Prop := ∃ v, r.1 = some (zv_i v) ∧ P v r.2
def zm_J (P : Int64 → zv_H → Prop) (r : Option zv_V × zv_H) : Prop := ∃ v, r.1 = some (zv_j v) ∧ P v r.2
def zm_N (P : Nat → zv_H → Prop) (r : Option zv_V × zv_H) : Prop := ∃ v, r.1 = some (zv_r v) ∧ P v r.2
def zm_V (P : zv_H → Prop) (r : Option zv_V × zv_H) : Prop := r.1 = none ∧ P r.2
theorem zm_iI {x : Int} {h : zv_H} {P : Int → zv_H → Prop} (hp : P x h) : zm_R (some (some (zv_i x), h)) (zm_I P) := ⟨_, rfl, x, rfl, hp⟩
theorem zm_iJ {x : Int64} {h : zv_H} {P : Int64 → zv_H → Prop} (hp : P x h) : zm_R (some (some (zv_j x), h)) (zm_J P) := ⟨_, rfl, x, rfl, hp⟩
theorem zm_iN {x : Nat} {h : zv_H} {P : Nat → zv_H → Prop} (hp : P x h) : zm_R (some (some (zv_r x), h)) (zm_N P) := ⟨_, rfl, x, rfl, hp⟩
theorem zm_iV {h : zv_H} {P : zv_H → Prop} (hp : P h) : zm_R (some ((none : Option zv_V), h)) (zm_V P) := ⟨_, rfl, rfl, hp⟩
theorem zm_cI {o : zv_O} {c : Option (Int × zv_H)} {P : Int → zv_H → Prop} (l : ∀ {h1 : zv_H} {r : Int}, o = some (some (zv_i r), h1) → c = some (r, h1)) (h : zm_R o (zm_I P)) : zm_R c (fun q => P q.1 q.2) := by
  obtain ⟨⟨w, h1⟩, e, v, e1, hp⟩ := h
  have e2 : w = some (zv_i v) := e1
  subst e2
  exact ⟨(v, h1), l e, hp⟩
theorem zm_cJ {o : zv_O} {c : Option (Int64 × zv_H)} {P : Int64 → zv_H → Prop} (l : ∀ {h1 : zv_H} {r : Int64}, o = some (some (zv_j r), h1) → c = some (r, h1)) (h : zm_R o (zm_J P)) : zm_R c (fun q => P q.1 q.2) := by
  obtain ⟨⟨w, h1⟩, e, v, e1, hp⟩ := h
  have e2 : w = some (zv_j v) := e1
  subst e2
  exact ⟨(v, h1), l e, hp⟩
theorem zm_cN {o : zv_O} {c : Option (Nat × zv_H)} {P : Nat → zv_H → Prop} (l : ∀ {h1 : zv_H} {r : Nat}, o = some (some (zv_r r), h1) → c = some (r, h1)) (h : zm_R o (zm_N P)) : zm_R c (fun q => P q.1 q.2) := by
  obtain ⟨⟨w, h1⟩, e, v, e1, hp⟩ := h
  have e2 : w = some (zv_r v) := e1
  subst e2
  exact ⟨(v, h1), l e, hp⟩
theorem zm_cV {o : zv_O} {c : Option zv_H} {P : zv_H → Prop} (l : ∀ {h1 : zv_H}, o = some (none, h1) → c = some h1) (h : zm_R o (zm_V P)) : zm_R c P := by
  obtain ⟨⟨w, h1⟩, e, e1, hp⟩ := h
  have e2 : w = none := e1
  subst e2
  exact ⟨h1, l e, hp⟩
/-- a call that answers 1 or 0, and a branch on it -/
theorem zm_gb {α : Type} {o : Option (Int × zv_H)} {p : Prop} [Decidable p] {h : zv_H} {A B : Int × zv_H → Option α} {Q : α → Prop} (e : o = some (if p then 1 else 0, h)) (hf : ¬ p → zm_R (A (0, h)) Q) (ht : p → zm_R (B (1, h)) Q) : zm_R (o.bind fun q => if q.1 = 0 then A q else B q) Q := by
  rw [e]
  by_cases hp : p
  · rw [if_pos hp]
    exact ht hp
  · rw [if_neg hp]
    exact hf hp
theorem zm_w {x : Int} (h : -2147483648 ≤ x ∧ x < 2147483648) : zv_w x = x := by unfold zv_w; omega
/-! ===== the reference's cells ===== -/
def zm_fr : List Nat := [348, 349, 350, 0, 0, 351, 352, 353, 354, 355, 0, 0, 0, 356, 357, 358, 359, 360, 361, 0, 0, 362, 363, 364, 0, 365, 366, 0, 0, 0, 0, 0, 0, 0, 0, 0, 0, 0, 0, 367, 368, 369, 0, 0, 370, 371, 372, 0]
def zm_M (h : zv_H) : Prop := zv_n h = 372 ∧ ∀ k : Nat, zm_fr.getD k 0 ≠ 0 → zv_R h 347 k = zm_fr.getD k 0
def zm_u (c : Nat → Int) (j : Nat) (v : Int) : Nat → Int := fun k => if k = j then v else c k
theorem zm_l347 : zv_lay 347 = (1, 9) := rfl
theorem zm_l348 : zv_lay 348 = (2, 4236) := rfl
theorem zm_l349 : zv_lay 349 = (2, 4236) := rfl
theorem zm_l350 : zv_lay 350 = (2, 4236) := rfl
theorem zm_l351 : zv_lay 351 = (2, 49) := rfl
theorem zm_l352 : zv_lay 352 = (2, 640) := rfl
theorem zm_l353 : zv_lay 353 = (2, 640) := rfl
theorem zm_l354 : zv_lay 354 = (3, 49) := rfl
theorem zm_l355 : zv_lay 355 = (3, 640) := rfl
theorem zm_l356 : zv_lay 356 = (2, 640) := rfl
theorem zm_l357 : zv_lay 357 = (2, 640) := rfl
theorem zm_l358 : zv_lay 358 = (2, 6) := rfl
theorem zm_l359 : zv_lay 359 = (3, 400) := rfl
theorem zm_l360 : zv_lay 360 = (2, 700) := rfl
theorem zm_l361 : zv_lay 361 = (2, 12) := rfl
theorem zm_l362 : zv_lay 362 = (2, 48) := rfl
theorem zm_l363 : zv_lay 363 = (2, 49) := rfl
theorem zm_l364 : zv_lay 364 = (3, 49) := rfl
theorem zm_l365 : zv_lay 365 = (3, 49) := rfl
theorem zm_l366 : zv_lay 366 = (4, 700) := rfl
theorem zm_l367 : zv_lay 367 = (5, 12) := rfl
theorem zm_l368 : zv_lay 368 = (5, 5) := rfl
theorem zm_l369 : zv_lay 369 = (5, 6) := rfl
theorem zm_l370 : zv_lay 370 = (2, 640) := rfl
theorem zm_l371 : zv_lay 371 = (2, 14641) := rfl
theorem zm_l372 : zv_lay 372 = (2, 200) := rfl
theorem zm_n {h : zv_H} (hM : zm_M h) {r : Nat} (hr : Nat.ble r 372 = true) : r ≤ zv_n h := by
  rw [hM.1]
  exact Nat.ble_eq.mp hr
theorem zm_ob {h : zv_H} (hM : zm_M h) : zv_ob h 347 9 := ⟨zm_n hM rfl, zm_l347⟩
theorem zm_gR {h : zv_H} (hM : zm_M h) {k v : Nat} (hk : zm_fr.getD k 0 = v) (hv : Nat.ble v 0 = false) : zv_gR h 347 9 k = some v := by
  unfold zv_gR
  rw [if_pos ⟨zm_n hM rfl, zm_l347⟩]
  subst hk
  rw [hM.2 k (fun e => by rw [e] at hv; cases hv)]
theorem zm_gI {h : zv_H} (hM : zm_M h) (k : Nat) : zv_gI h 347 9 k = some (zv_I h 347 k) := by
  unfold zv_gI
  rw [if_pos ⟨zm_n hM rfl, zm_l347⟩]
theorem zm_gJ {h : zv_H} (hM : zm_M h) (k : Nat) : zv_gJ h 347 9 k = some (zv_J h 347 k) := by
  unfold zv_gJ
  rw [if_pos ⟨zm_n hM rfl, zm_l347⟩]
theorem zm_pI {h : zv_H} (hM : zm_M h) (k : Nat) (v : Int) : zv_pI h 347 9 k v = some (zv_sI h 347 k v) := by
  unfold zv_pI
  rw [if_pos ⟨zm_n hM rfl, zm_l347⟩]
theorem zm_pJ {h : zv_H} (hM : zm_M h) (k : Nat) (v : Int64) : zv_pJ h 347 9 k v = some (zv_sJ h 347 k v) := by
  unfold zv_pJ
  rw [if_pos ⟨zm_n hM rfl, zm_l347⟩]
theorem zm_ne {r : Nat} (hr : Nat.ble r 372 = true) : ¬ r = 2000000 := by
  have := Nat.ble_eq.mp hr
  omega
theorem zm_aI {h : zv_H} (hM : zm_M h) {r n : Nat} (hl : zv_lay r = (2, n)) (hr : Nat.ble r 372 = true) {j : Int} (h0 : 0 ≤ j) (h1 : j < n) : zv_aI h r j = some (zv_I h r j.toNat) := by
  unfold zv_aI
  rw [if_neg (zm_ne hr), if_pos ⟨zm_n hM hr, by rw [hl], h0, by rw [hl]; exact h1⟩]
theorem zm_wI {h : zv_H} (hM : zm_M h) {r n : Nat} (hl : zv_lay r = (2, n)) (hr : Nat.ble r 372 = true) {j : Int} (h0 : 0 ≤ j) (h1 : j < n) (v : Int) : zv_wI h r j v = some (zv_sI h r j.toNat v) := by
  unfold zv_wI
  rw [if_pos ⟨zm_n hM hr, by rw [hl], h0, by rw [hl]; exact h1⟩]
theorem zm_aB {h : zv_H} (hM : zm_M h) {r n k : Nat} (hl : zv_lay r = (k, n)) (hk : k = 3 ∨ k = 4) (hr : Nat.ble r 372 = true) {j : Int} (h0 : 0 ≤ j) (h1 : j < n) : zv_aB h r j = some (zv_I h r j.toNat) := by
  have h2 := Nat.ble_eq.mp hr
  unfold zv_aB
  rw [if_neg (by omega), if_pos ⟨zm_n hM hr, by rw [hl]; exact hk, h0, by rw [hl]; exact h1⟩]
theorem zm_wB {h : zv_H} (hM : zm_M h) {r n : Nat} (hl : zv_lay r = (3, n)) (hr : Nat.ble r 372 = true) {j : Int} (h0 : 0 ≤ j) (h1 : j < n) (v : Int) : zv_wB h r j v = some (zv_sI h r j.toNat (zv_nz v)) := by
  unfold zv_wB
  rw [if_pos ⟨zm_n hM hr, by rw [hl]; exact Or.inl rfl, h0, by rw [hl]; exact h1⟩, if_pos (by rw [hl])]
theorem zm_wB4 {h : zv_H} (hM : zm_M h) {r n : Nat} (hl : zv_lay r = (4, n)) (hr : Nat.ble r 372 = true) {j : Int} (h0 : 0 ≤ j) (h1 : j < n) (v : Int) : zv_wB h r j v = some (zv_sI h r j.toNat (zv_i2b v)) := by
  unfold zv_wB
  rw [if_pos ⟨zm_n hM hr, by rw [hl]; exact Or.inr rfl, h0, by rw [hl]; exact h1⟩, if_neg (by rw [hl]; exact (fun e => by cases e))]
theorem zm_aJ {h : zv_H} (hM : zm_M h) {r n : Nat} (hl : zv_lay r = (5, n)) (hr : Nat.ble r 372 = true) {j : Int} (h0 : 0 ≤ j) (h1 : j < n) : zv_aJ h r j = some (zv_J h r j.toNat) := by
  unfold zv_aJ
  rw [if_pos ⟨zm_n hM hr, by rw [hl], h0, by rw [hl]; exact h1⟩]
theorem zm_al {h : zv_H} (hM : zm_M h) {r n k : Nat} (hl : zv_lay r = (k, n)) (hk : Nat.ble 2 k = true) (hr : Nat.ble r 372 = true) : zv_al h r = some (n : Int) := by
  have h2 := Nat.ble_eq.mp hr
  unfold zv_al
  rw [if_neg (zm_ne hr), if_neg (by omega), if_pos ⟨zm_n hM hr, by rw [hl]; exact Nat.ble_eq.mp hk⟩, hl]
theorem zm_M_sI {h : zv_H} {r k : Nat} {v : Int} (hM : zm_M h) : zm_M (zv_sI h r k v) := hM
theorem zm_M_sJ {h : zv_H} {r k : Nat} {v : Int64} (hM : zm_M h) : zm_M (zv_sJ h r k v) := hM
theorem zm_f0 {h : zv_H} (hM : zm_M h) : zv_gR h 347 9 0 = some 348 := zm_gR hM rfl rfl
theorem zm_f1 {h : zv_H} (hM : zm_M h) : zv_gR h 347 9 1 = some 349 := zm_gR hM rfl rfl
theorem zm_f2 {h : zv_H} (hM : zm_M h) : zv_gR h 347 9 2 = some 350 := zm_gR hM rfl rfl
theorem zm_f5 {h : zv_H} (hM : zm_M h) : zv_gR h 347 9 5 = some 351 := zm_gR hM rfl rfl
theorem zm_f6 {h : zv_H} (hM : zm_M h) : zv_gR h 347 9 6 = some 352 := zm_gR hM rfl rfl
theorem zm_f7 {h : zv_H} (hM : zm_M h) : zv_gR h 347 9 7 = some 353 := zm_gR hM rfl rfl
theorem zm_f8 {h : zv_H} (hM : zm_M h) : zv_gR h 347 9 8 = some 354 := zm_gR hM rfl rfl
theorem zm_f9 {h : zv_H} (hM : zm_M h) : zv_gR h 347 9 9 = some 355 := zm_gR hM rfl rfl
theorem zm_f13 {h : zv_H} (hM : zm_M h) : zv_gR h 347 9 13 = some 356 := zm_gR hM rfl rfl
theorem zm_f14 {h : zv_H} (hM : zm_M h) : zv_gR h 347 9 14 = some 357 := zm_gR hM rfl rfl
theorem zm_f15 {h : zv_H} (hM : zm_M h) : zv_gR h 347 9 15 = some 358 := zm_gR hM rfl rfl
theorem zm_f16 {h : zv_H} (hM : zm_M h) : zv_gR h 347 9 16 = some 359 := zm_gR hM rfl rfl
theorem zm_f17 {h : zv_H} (hM : zm_M h) : zv_gR h 347 9 17 = some 360 := zm_gR hM rfl rfl
theorem zm_f18 {h : zv_H} (hM : zm_M h) : zv_gR h 347 9 18 = some 361 := zm_gR hM rfl rfl
theorem zm_f21 {h : zv_H} (hM : zm_M h) : zv_gR h 347 9 21 = some 362 := zm_gR hM rfl rfl
theorem zm_f22 {h : zv_H} (hM : zm_M h) : zv_gR h 347 9 22 = some 363 := zm_gR hM rfl rfl
theorem zm_f23 {h : zv_H} (hM : zm_M h) : zv_gR h 347 9 23 = some 364 := zm_gR hM rfl rfl
theorem zm_f25 {h : zv_H} (hM : zm_M h) : zv_gR h 347 9 25 = some 365 := zm_gR hM rfl rfl
theorem zm_f26 {h : zv_H} (hM : zm_M h) : zv_gR h 347 9 26 = some 366 := zm_gR hM rfl rfl
theorem zm_f39 {h : zv_H} (hM : zm_M h) : zv_gR h 347 9 39 = some 367 := zm_gR hM rfl rfl
theorem zm_f40 {h : zv_H} (hM : zm_M h) : zv_gR h 347 9 40 = some 368 := zm_gR hM rfl rfl
theorem zm_f41 {h : zv_H} (hM : zm_M h) : zv_gR h 347 9 41 = some 369 := zm_gR hM rfl rfl
theorem zm_f44 {h : zv_H} (hM : zm_M h) : zv_gR h 347 9 44 = some 370 := zm_gR hM rfl rfl
theorem zm_f45 {h : zv_H} (hM : zm_M h) : zv_gR h 347 9 45 = some 371 := zm_gR hM rfl rfl
theorem zm_f46 {h : zv_H} (hM : zm_M h) : zv_gR h 347 9 46 = some 372 := zm_gR hM rfl rfl
/-! what may have changed: the cells A, the fields B of 347 -/
def zm_F (A B : List Nat) (h h' : zv_H) : Prop := h'.1 = h.1 ∧ h'.2.2.2.1 = h.2.2.2.1 ∧ h'.2.2.2.2 = h.2.2.2.2 ∧ (∀ r, A.contains r = false → Nat.beq r 347 = false → h'.2.1 r = h.2.1 r) ∧ (∀ k, B.contains k = false → h'.2.1 347 k = h.2.1 347 k) ∧ (∀ r k, ¬ (r = 347 ∧ k = 38 ∧ B.contains 38 = true) → h'.2.2.1 r k = h.2.2.1 r k)
theorem zm_F_r (A B : List Nat) (h : zv_H) : zm_F A B h h := ⟨rfl, rfl, rfl, fun _ _ _ => rfl, fun _ _ => rfl, fun _ _ _ => rfl⟩
theorem zm_F_t {A B : List Nat} {h h1 h2 : zv_H} (f : zm_F A B h h1) (g : zm_F A B h1 h2) : zm_F A B h h2 := by
  obtain ⟨a1, a2, a3, a4, a5, a6⟩ := f
  obtain ⟨b1, b2, b3, b4, b5, b6⟩ := g
  exact ⟨b1.trans a1, b2.trans a2, b3.trans a3, fun r x y => (b4 r x y).trans (a4 r x y), fun k x => (b5 k x).trans (a5 k x), fun r k x => (b6 r k x).trans (a6 r k x)⟩
theorem zm_ct {A A' : List Nat} (hA : (A.all fun r => A'.contains r) = true) {r : Nat} (h : A'.contains r = false) : A.contains r = false := by
  cases e : A.contains r with
  | false => rfl
  | true =>
    have h1 := List.all_eq_true.mp hA r (List.contains_iff_mem.mp e)
    exact absurd h (by rw [h1]; decide)
theorem zm_F_s {A B A' B' : List Nat} {h h1 : zv_H} (f : zm_F A B h h1) (hA : (A.all fun r => A'.contains r) = true) (hB : (B.all fun r => B'.contains r) = true) : zm_F A' B' h h1 := by
  obtain ⟨a1, a2, a3, a4, a5, a6⟩ := f
  refine ⟨a1, a2, a3, fun r x y => a4 r (zm_ct hA x) y, fun k x => a5 k (zm_ct hB x), fun r k x => a6 r k fun q => x ⟨q.1, q.2.1, ?_⟩⟩
  cases e : B'.contains 38 with
  | true => rfl
  | false => exact absurd q.2.2 (by rw [zm_ct hB e]; decide)
theorem zm_F_I {A B : List Nat} {h h1 : zv_H} (f : zm_F A B h h1) {r : Nat} (hr : A.contains r = true) (k : Nat) (v : Int) (hn : Nat.beq r 347 = false := by rfl) : zm_F A B h (zv_sI h1 r k v) := by
  obtain ⟨a1, a2, a3, a4, a5, a6⟩ := f
  refine ⟨a1, a2, a3, fun r' x y => ?_, fun k' x => ?_, a6⟩
  · refine Eq.trans ?_ (a4 r' x y)
    funext k'
    show zv_up h1.2.1 r k v r' k' = _
    unfold zv_up
    rw [if_neg]
    intro q
    rw [q.1, hr] at x
    cases x
  · refine Eq.trans ?_ (a5 k' x)
    show zv_up h1.2.1 r k v 347 k' = _
    unfold zv_up
    rw [if_neg]
    intro q
    rw [← q.1] at hn
    cases hn
theorem zm_F_f {A B : List Nat} {h h1 : zv_H} (f : zm_F A B h h1) {k : Nat} (hk : B.contains k = true) (v : Int) : zm_F A B h (zv_sI h1 347 k v) := by
  obtain ⟨a1, a2, a3, a4, a5, a6⟩ := f
  refine ⟨a1, a2, a3, fun r' x y => ?_, fun k' x => ?_, a6⟩
  · refine Eq.trans ?_ (a4 r' x y)
    funext k'
    show zv_up h1.2.1 347 k v r' k' = _
    unfold zv_up
    rw [if_neg]
    intro q
    rw [q.1] at y
    cases y
  · refine Eq.trans ?_ (a5 k' x)
    show zv_up h1.2.1 347 k v 347 k' = _
    unfold zv_up
    rw [if_neg]
    intro q
    rw [q.2, hk] at x
    cases x
theorem zm_F_k {A B : List Nat} {h h1 : zv_H} (f : zm_F A B h h1) (hk : B.contains 38 = true) (v : Int64) : zm_F A B h (zv_sJ h1 347 38 v) := by
  obtain ⟨a1, a2, a3, a4, a5, a6⟩ := f
  refine ⟨a1, a2, a3, a4, a5, fun r k x => ?_⟩
  refine Eq.trans ?_ (a6 r k x)
  show zv_up h1.2.2.1 347 38 v r k = _
  unfold zv_up
  rw [if_neg]
  intro q
  exact x ⟨q.1, q.2, hk⟩
theorem zm_F_M {A B : List Nat} {h h1 : zv_H} (f : zm_F A B h h1) (hM : zm_M h) : zm_M h1 := by
  obtain ⟨a1, a2, a3, a4, a5, a6⟩ := f
  refine ⟨?_, fun k hk => ?_⟩
  · show h1.1.1 = 372
    rw [a1]
    exact hM.1
  · show h1.2.2.2.1 347 k = _
    rw [a2]
    exact hM.2 k hk
theorem zm_F_a {A B : List Nat} {h h1 : zv_H} (f : zm_F A B h h1) (r : Nat) (hr : A.contains r = false := by rfl) (hn : Nat.beq r 347 = false := by rfl) : zv_I h1 r = zv_I h r := f.2.2.2.1 r hr hn
theorem zm_F_g {A B : List Nat} {h h1 : zv_H} (f : zm_F A B h h1) (k : Nat) (hk : B.contains k = false := by rfl) : zv_I h1 347 k = zv_I h 347 k := f.2.2.2.2.1 k hk
theorem zm_F_j {A B : List Nat} {h h1 : zv_H} (f : zm_F A B h h1) (r k : Nat) (hn : Nat.beq r 347 = false := by rfl) : zv_J h1 r k = zv_J h r k := f.2.2.2.2.2 r k fun q => by rw [q.1] at hn; cases hn
/-! reading behind a writing -/
theorem zm_ss (h : zv_H) (r k : Nat) (v : Int) : zv_I (zv_sI h r k v) r = zm_u (zv_I h r) k v := by
  funext k'
  show zv_up h.2.1 r k v r k' = _
  unfold zv_up zm_u
  by_cases e : k' = k
  · rw [if_pos ⟨rfl, e⟩, if_pos e]
  · rw [if_neg (fun q => e q.2), if_neg e]
    rfl
theorem zm_so (h : zv_H) {r r' : Nat} (k : Nat) (v : Int) (hn : Nat.beq r' r = false := by rfl) : zv_I (zv_sI h r k v) r' = zv_I h r' := by
  funext k'
  show zv_up h.2.1 r k v r' k' = _
  unfold zv_up
  rw [if_neg]
  · rfl
  · intro q
    rw [q.1, Nat.beq_refl] at hn
    cases hn
theorem zm_u_s (c : Nat → Int) (j : Nat) (v : Int) : zm_u c j v j = v := if_pos rfl
theorem zm_u_o (c : Nat → Int) {j k : Nat} (v : Int) (h : ¬ k = j) : zm_u c j v k = c k := if_neg h
