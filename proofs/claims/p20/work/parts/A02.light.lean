/-! ===== the tie: reading and writing, lightly ===== -/
/-- what never changes: how many cells, the final refs, the States of a History -/
def zt_L (g : zv_H) : Prop := zv_n g = 372 ∧ (∀ r k, (zv_lay r).1 = 1 → zc_off (zv_lay r).2 k ≠ 0 → zv_R g r k = r + zc_off (zv_lay r).2 k) ∧ ∀ a i, zv_lay a = (1, 0) → i < 48 → zv_R g (a + 4) i = zc_stt a i
theorem zt_L_A {h : zv_H} (hA : zc_A h) : zt_L h := ⟨hA.1.1, hA.1.2.1, hA.1.2.2.1⟩
section
variable {g : zv_H} {r c k n : Nat}
theorem zl_n (hL : zt_L g) (hr : ¬ (zv_lay r).1 = 0) : r ≤ zv_n g := by
  rw [hL.1]
  exact Nat.le_of_lt_succ (zv_lay_lt hr)
theorem zl_ob (hL : zt_L g) (l : zv_lay r = (1, c)) : zv_ob g r c := ⟨zl_n hL (zc_ly l), l⟩
theorem zl_gI (hL : zt_L g) (l : zv_lay r = (1, c)) (k : Nat) : zv_gI g r c k = some (zv_I g r k) := if_pos (zl_ob hL l)
theorem zl_gJ (hL : zt_L g) (l : zv_lay r = (1, c)) (k : Nat) : zv_gJ g r c k = some (zv_J g r k) := if_pos (zl_ob hL l)
theorem zl_gR (hL : zt_L g) (l : zv_lay r = (1, c)) (k : Nat) : zv_gR g r c k = some (zv_R g r k) := if_pos (zl_ob hL l)
theorem zl_gF (hL : zt_L g) (l : zv_lay r = (1, c)) (k v : Nat) (hv : zc_off c k = v := by rfl) (h0 : v ≠ 0 := by decide) : zv_gR g r c k = some (r + v) := by
  rw [zl_gR hL l, hL.2.1 r k (by rw [l]) (by rw [l]; dsimp only; rw [hv]; exact h0), l, hv]
theorem zl_pI (hL : zt_L g) (l : zv_lay r = (1, c)) (k : Nat) (v : Int) : zv_pI g r c k v = some (zv_sI g r k v) := if_pos (zl_ob hL l)
theorem zl_pJ (hL : zt_L g) (l : zv_lay r = (1, c)) (k : Nat) (v : Int64) : zv_pJ g r c k v = some (zv_sJ g r k v) := if_pos (zl_ob hL l)
theorem zl_pR (hL : zt_L g) (l : zv_lay r = (1, c)) (k v : Nat) : zv_pR g r c k v = some (zv_sR g r k v) := if_pos (zl_ob hL l)
theorem zl_pZ (hL : zt_L g) (l : zv_lay r = (1, c)) (k : Nat) {v : Int} (hv : v = 0 ∨ v = 1) : zv_pZ g r c k v = some (zv_sI g r k v) := if_pos ⟨zl_ob hL l, hv⟩
theorem zl_aI (hL : zt_L g) (l : zv_lay r = (2, n)) {j : Int} (j0 : 0 ≤ j) (j1 : j < n) : zv_aI g r j = some (zv_I g r j.toNat) := by
  have h1 := zv_lay_lt (zc_ly l)
  unfold zv_aI
  rw [if_neg (show ¬ r = 2000000 by omega), if_pos ⟨zl_n hL (zc_ly l), by rw [l], j0, by rw [l]; exact j1⟩]
theorem zl_wI (hL : zt_L g) (l : zv_lay r = (2, n)) {j : Int} (j0 : 0 ≤ j) (j1 : j < n) (v : Int) : zv_wI g r j v = some (zv_sI g r j.toNat v) := by
  unfold zv_wI
  rw [if_pos ⟨zl_n hL (zc_ly l), by rw [l], j0, by rw [l]; exact j1⟩]
theorem zl_aB (hL : zt_L g) (l : zv_lay r = (3, n)) {j : Int} (j0 : 0 ≤ j) (j1 : j < n) : zv_aB g r j = some (zv_I g r j.toNat) := by
  have h1 := zv_lay_lt (zc_ly l)
  unfold zv_aB
  rw [if_neg (by omega), if_pos ⟨zl_n hL (zc_ly l), by rw [l]; exact Or.inl rfl, j0, by rw [l]; exact j1⟩]
theorem zl_wB (hL : zt_L g) (l : zv_lay r = (3, n)) {j : Int} (j0 : 0 ≤ j) (j1 : j < n) {v : Int} (hv : v = 0 ∨ v = 1) : zv_wB g r j v = some (zv_sI g r j.toNat v) := by
  have e : zv_nz v = v := by unfold zv_nz; omega
  unfold zv_wB
  rw [if_pos ⟨zl_n hL (zc_ly l), by rw [l]; exact Or.inl rfl, j0, by rw [l]; exact j1⟩, if_pos (by rw [l]), e]
theorem zl_al (hL : zt_L g) (l : zv_lay r = (2, n)) : zv_al g r = some (n : Int) := by
  have h1 := zv_lay_lt (zc_ly l)
  unfold zv_al
  rw [if_neg (show ¬ r = 2000000 by omega), if_neg (show ¬ (1000100 ≤ r ∧ r < 1000124) by omega), if_pos ⟨zl_n hL (zc_ly l), by rw [l]; exact Nat.le_refl 2⟩, l]
theorem zl_aR (hL : zt_L g) (l : zv_lay r = (6, n)) {j : Int} (j0 : 0 ≤ j) (j1 : j < n) : zv_aR g r j = some (zv_R g r j.toNat) := by
  unfold zv_aR
  rw [if_pos ⟨zl_n hL (zc_ly l), by rw [l], j0, by rw [l]; exact j1⟩]
theorem zl_wR (hL : zt_L g) (l : zv_lay r = (6, n)) {j : Int} (j0 : 0 ≤ j) (j1 : j < n) {v : Nat} (hv : zv_lay v = (1, 5)) : zv_wR g r j v = some (zv_sR g r j.toNat v) := by
  unfold zv_wR
  rw [if_pos ⟨⟨zl_n hL (zc_ly l), by rw [l], j0, by rw [l]; exact j1⟩, Or.inr ⟨zl_n hL (zc_ly hv), hv⟩⟩]
theorem zl_l4 {a : Nat} (ha : zv_lay a = (1, 0)) : zv_lay (a + 4) = (6, 48) := by cases zc_lh ha with
  | inl e => rw [e]; rfl
  | inr e => rw [e]; rfl
theorem zl_aS (hL : zt_L g) {a : Nat} (ha : zv_lay a = (1, 0)) {j : Int} (j0 : 0 ≤ j) (j1 : j < 48) : zv_aR g (a + 4) j = some (zc_stt a j.toNat) := by
  rw [zl_aR hL (zl_l4 ha) j0 j1, hL.2.2 a j.toNat ha (by omega)]
theorem zl_sR (hL : zt_L g) {v : Nat} (h1 : (zv_lay r).1 = 1 → zc_off (zv_lay r).2 k = 0) (h2 : r ≠ 13) (h3 : r ≠ 182) : zt_L (zv_sR g r k v) := by
  refine ⟨hL.1, fun x y hx hy => ?_, fun a i ha hi => ?_⟩
  · have e : zv_R (zv_sR g r k v) x y = zv_R g x y := if_neg (fun q => hy (by rw [q.1] at hx ⊢; rw [q.2]; exact h1 hx))
    rw [e]
    exact hL.2.1 x y hx hy
  · have e : zv_R (zv_sR g r k v) (a + 4) i = zv_R g (a + 4) i := if_neg (fun q => by have := zc_lh ha; omega)
    rw [e]
    exact hL.2.2 a i ha hi
end
theorem zy_I (g : zv_H) (r k : Nat) (v : Int) : zv_I (zv_sI g r k v) r k = v := if_pos ⟨rfl, rfl⟩
theorem zy_In (g : zv_H) {r k a b : Nat} (v : Int) (hn : ¬ (a = r ∧ b = k)) : zv_I (zv_sI g r k v) a b = zv_I g a b := if_neg hn
theorem zy_J (g : zv_H) (r k : Nat) (v : Int64) : zv_J (zv_sJ g r k v) r k = v := if_pos ⟨rfl, rfl⟩
theorem zy_Jn (g : zv_H) {r k a b : Nat} (v : Int64) (hn : ¬ (a = r ∧ b = k)) : zv_J (zv_sJ g r k v) a b = zv_J g a b := if_neg hn
theorem zy_R (g : zv_H) (r k v : Nat) : zv_R (zv_sR g r k v) r k = v := if_pos ⟨rfl, rfl⟩
theorem zy_Rn (g : zv_H) {r k a b : Nat} (v : Nat) (hn : ¬ (a = r ∧ b = k)) : zv_R (zv_sR g r k v) a b = zv_R g a b := if_neg hn
/-- what is known of one answer twice -/
theorem zt_two {α : Type} {o : Option α} {P Q : α → Prop} (p : zm_R o P) (q : zm_R o Q) : zm_R o (fun v => P v ∧ Q v) := by
  obtain ⟨v, e, hv⟩ := p
  obtain ⟨w, e2, hw⟩ := q
  rw [e] at e2
  cases e2
  exact ⟨v, e, hv, hw⟩
