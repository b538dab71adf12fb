/-! ===== the class: quiet methods (genq.py) ===== -/
section
variable {α : Type} {h0 h : zv_H} {P : α → Prop}
theorem zc_pI {o : Option (Int × zv_H)} {K : Int → Prop} (e : zm_R o (fun q => q.2 = h ∧ zv_rg q.1 ∧ K q.1)) {g : Int × zv_H → Option α} (n : ∀ v, zv_rg v → K v → zm_R (g (v, h)) P) : zm_R (o.bind g) P := by
  obtain ⟨⟨v, h'⟩, rfl, a, b, c⟩ := e
  have a1 : h' = h := a
  subst a1
  exact n v b c
theorem zc_pJ {o : Option (Int64 × zv_H)} (e : zm_R o (fun q => q.2 = h)) {g : Int64 × zv_H → Option α} (n : ∀ v, zm_R (g (v, h)) P) : zm_R (o.bind g) P := by
  obtain ⟨⟨v, h'⟩, rfl, a⟩ := e
  have a1 : h' = h := a
  subst a1
  exact n v
theorem zc_pN {o : Option (Nat × zv_H)} {K : Nat → Prop} (e : zm_R o (fun q => q.2 = h ∧ K q.1)) {g : Nat × zv_H → Option α} (n : ∀ v, K v → zm_R (g (v, h)) P) : zm_R (o.bind g) P := by
  obtain ⟨⟨v, h'⟩, rfl, a, b⟩ := e
  have a1 : h' = h := a
  subst a1
  exact n v b
theorem zc_rAl (F : zc_Q h0 h) {r n0 : Nat} (hr : zv_lay r = (2, n0)) {g : Int → Option α} (n : ∀ v, v = (n0 : Int) → zm_R (g v) P) : zm_R ((zv_al h r).bind g) P := by
  have h1 := zv_lay_lt (zc_ly hr)
  have e : zv_al h r = some (n0 : Int) := by
    unfold zv_al
    rw [if_neg (show ¬ r = 2000000 by omega), if_neg (show ¬ (1000100 ≤ r ∧ r < 1000124) by omega), if_pos ⟨zc_n F.2.1 (zc_ly hr), by rw [hr]; exact Nat.le_refl 2⟩, hr]
  rw [zm_e e]
  exact n _ rfl
end
theorem zc_upe {x y : Int} (hx : zv_rg x) (hy : y < 2147483647) (c : x ≤ y) : (2147483647 - zv_w (x + 1)).toNat < (2147483647 - x).toNat := by
  unfold zv_rg at hx
  rw [zm_w (show -2147483648 ≤ x + 1 ∧ x + 1 < 2147483648 by omega)]
  omega
theorem zc_mx {x y : Int} (hx : zv_rg x) (hy : zv_rg y) : zv_rg (max x y) := by unfold zv_rg at *; omega
theorem zc_mn {x y : Int} (hx : zv_rg x) (hy : zv_rg y) : zv_rg (min x y) := by unfold zv_rg at *; omega
/-- where the objects of each class lie -/
def zc_cls : List (List Nat) := [[9, 178], [31, 200], [23, 192], [5], [17, 186], [10, 37, 40, 43, 46, 49, 52, 55, 58, 61, 64, 67, 70, 73, 76, 79, 82, 85, 88, 91, 94, 97, 100, 103, 106, 109, 112, 115, 118, 121, 124, 127, 130, 133, 136, 139, 142, 145, 148, 151, 154, 157, 160, 163, 166, 169, 172, 175, 179, 206, 209, 212, 215, 218, 221, 224, 227, 230, 233, 236, 239, 242, 245, 248, 251, 254, 257, 260, 263, 266, 269, 272, 275, 278, 281, 284, 287, 290, 293, 296, 299, 302, 305, 308, 311, 314, 317, 320, 323, 326, 329, 332, 335, 338, 341, 344], [26, 195], [3, 7, 35, 204], [1], [347]]
theorem zc_tb {r c : Nat} (hr : zv_lay r = (1, c)) : (zc_cls.getD c []).contains r = true := by
  have := zc_all (fun r => if (zv_lay r).1 = 1 then (zc_cls.getD (zv_lay r).2 []).contains r else true) (by decide +kernel) (zc_ly hr)
  rw [if_pos (by rw [hr]), hr] at this
  exact this
theorem zc_tq {r c : Nat} (hr : zv_lay r = (1, c)) {P : Nat → Prop} (h : ∀ x ∈ zc_cls.getD c [], P x) : P r := h r (List.contains_iff_mem.mp (zc_tb hr))
theorem zc_y0_0 {r : Nat} (hr : zv_lay r = (1, 0)) : zv_lay (r + 1) = (1, 5) ∧ r + 1 < 347 := zc_tq hr (P := fun r => zv_lay (r + 1) = (1, 5) ∧ r + 1 < 347) (by decide +kernel)
theorem zc_y0_1 {r : Nat} (hr : zv_lay r = (1, 0)) : zv_lay (r + 4) = (6, 48) ∧ r + 4 < 347 := zc_tq hr (P := fun r => zv_lay (r + 4) = (6, 48) ∧ r + 4 < 347) (by decide +kernel)
theorem zc_y0_2 {r : Nat} (hr : zv_lay r = (1, 0)) : zv_lay (r + 5) = (2, 604) ∧ r + 5 < 347 := zc_tq hr (P := fun r => zv_lay (r + 5) = (2, 604) ∧ r + 5 < 347) (by decide +kernel)
theorem zc_y0_3 {r : Nat} (hr : zv_lay r = (1, 0)) : zv_lay (r + 6) = (2, 48) ∧ r + 6 < 347 := zc_tq hr (P := fun r => zv_lay (r + 6) = (2, 48) ∧ r + 6 < 347) (by decide +kernel)
theorem zc_y0_4 {r : Nat} (hr : zv_lay r = (1, 0)) : zv_lay (r + 7) = (2, 121) ∧ r + 7 < 347 := zc_tq hr (P := fun r => zv_lay (r + 7) = (2, 121) ∧ r + 7 < 347) (by decide +kernel)
theorem zc_y0_5 {r : Nat} (hr : zv_lay r = (1, 0)) : zv_lay (r + 8) = (1, 4) ∧ r + 8 < 347 := zc_tq hr (P := fun r => zv_lay (r + 8) = (1, 4) ∧ r + 8 < 347) (by decide +kernel)
theorem zc_y0_6 {r : Nat} (hr : zv_lay r = (1, 0)) : zv_lay (r + 14) = (1, 2) ∧ r + 14 < 347 := zc_tq hr (P := fun r => zv_lay (r + 14) = (1, 2) ∧ r + 14 < 347) (by decide +kernel)
theorem zc_y0_7 {r : Nat} (hr : zv_lay r = (1, 0)) : zv_lay (r + 17) = (1, 6) ∧ r + 17 < 347 := zc_tq hr (P := fun r => zv_lay (r + 17) = (1, 6) ∧ r + 17 < 347) (by decide +kernel)
theorem zc_y0_8 {r : Nat} (hr : zv_lay r = (1, 0)) : zv_lay (r + 22) = (1, 1) ∧ r + 22 < 347 := zc_tq hr (P := fun r => zv_lay (r + 22) = (1, 1) ∧ r + 22 < 347) (by decide +kernel)
theorem zc_y0_9 {r : Nat} (hr : zv_lay r = (1, 0)) : zv_lay (r + 26) = (1, 7) ∧ r + 26 < 347 := zc_tq hr (P := fun r => zv_lay (r + 26) = (1, 7) ∧ r + 26 < 347) (by decide +kernel)
theorem zc_y1_0 {r : Nat} (hr : zv_lay r = (1, 1)) : zv_lay (r + 1) = (2, 176) ∧ r + 1 < 347 := zc_tq hr (P := fun r => zv_lay (r + 1) = (2, 176) ∧ r + 1 < 347) (by decide +kernel)
theorem zc_y1_1 {r : Nat} (hr : zv_lay r = (1, 1)) : zv_lay (r + 2) = (2, 176) ∧ r + 2 < 347 := zc_tq hr (P := fun r => zv_lay (r + 2) = (2, 176) ∧ r + 2 < 347) (by decide +kernel)
theorem zc_y1_2 {r : Nat} (hr : zv_lay r = (1, 1)) : zv_lay (r + 3) = (2, 6) ∧ r + 3 < 347 := zc_tq hr (P := fun r => zv_lay (r + 3) = (2, 6) ∧ r + 3 < 347) (by decide +kernel)
theorem zc_y2_0 {r : Nat} (hr : zv_lay r = (1, 2)) : zv_lay (r + 1) = (2, 12) ∧ r + 1 < 347 := zc_tq hr (P := fun r => zv_lay (r + 1) = (2, 12) ∧ r + 1 < 347) (by decide +kernel)
theorem zc_y2_1 {r : Nat} (hr : zv_lay r = (1, 2)) : zv_lay (r + 2) = (2, 12) ∧ r + 2 < 347 := zc_tq hr (P := fun r => zv_lay (r + 2) = (2, 12) ∧ r + 2 < 347) (by decide +kernel)
theorem zc_y3_0 {r : Nat} (hr : zv_lay r = (1, 3)) : zv_lay (r + 1) = (2, 700) ∧ r + 1 < 347 := zc_tq hr (P := fun r => zv_lay (r + 1) = (2, 700) ∧ r + 1 < 347) (by decide +kernel)
theorem zc_y3_1 {r : Nat} (hr : zv_lay r = (1, 3)) : zv_lay (r + 2) = (1, 7) ∧ r + 2 < 347 := zc_tq hr (P := fun r => zv_lay (r + 2) = (1, 7) ∧ r + 2 < 347) (by decide +kernel)
theorem zc_y4_0 {r : Nat} (hr : zv_lay r = (1, 4)) : zv_lay (r + 1) = (6, 48) ∧ r + 1 < 347 := zc_tq hr (P := fun r => zv_lay (r + 1) = (6, 48) ∧ r + 1 < 347) (by decide +kernel)
theorem zc_y4_1 {r : Nat} (hr : zv_lay r = (1, 4)) : zv_lay (r + 2) = (2, 604) ∧ r + 2 < 347 := zc_tq hr (P := fun r => zv_lay (r + 2) = (2, 604) ∧ r + 2 < 347) (by decide +kernel)
theorem zc_y4_2 {r : Nat} (hr : zv_lay r = (1, 4)) : zv_lay (r + 3) = (3, 604) ∧ r + 3 < 347 := zc_tq hr (P := fun r => zv_lay (r + 3) = (3, 604) ∧ r + 3 < 347) (by decide +kernel)
theorem zc_y4_3 {r : Nat} (hr : zv_lay r = (1, 4)) : zv_lay (r + 4) = (3, 604) ∧ r + 4 < 347 := zc_tq hr (P := fun r => zv_lay (r + 4) = (3, 604) ∧ r + 4 < 347) (by decide +kernel)
theorem zc_y4_4 {r : Nat} (hr : zv_lay r = (1, 4)) : zv_lay (r + 5) = (2, 605) ∧ r + 5 < 347 := zc_tq hr (P := fun r => zv_lay (r + 5) = (2, 605) ∧ r + 5 < 347) (by decide +kernel)
theorem zc_y5_1 {r : Nat} (hr : zv_lay r = (1, 5)) : zv_lay (r + 1) = (2, 12) ∧ r + 1 < 347 := zc_tq hr (P := fun r => zv_lay (r + 1) = (2, 12) ∧ r + 1 < 347) (by decide +kernel)
theorem zc_y5_2 {r : Nat} (hr : zv_lay r = (1, 5)) : zv_lay (r + 2) = (2, 120) ∧ r + 2 < 347 := zc_tq hr (P := fun r => zv_lay (r + 2) = (2, 120) ∧ r + 2 < 347) (by decide +kernel)
theorem zc_y6_0 {r : Nat} (hr : zv_lay r = (1, 6)) : zv_lay (r + 1) = (2, 40) ∧ r + 1 < 347 := zc_tq hr (P := fun r => zv_lay (r + 1) = (2, 40) ∧ r + 1 < 347) (by decide +kernel)
theorem zc_y6_1 {r : Nat} (hr : zv_lay r = (1, 6)) : zv_lay (r + 2) = (2, 40) ∧ r + 2 < 347 := zc_tq hr (P := fun r => zv_lay (r + 2) = (2, 40) ∧ r + 2 < 347) (by decide +kernel)
theorem zc_y6_2 {r : Nat} (hr : zv_lay r = (1, 6)) : zv_lay (r + 3) = (2, 40) ∧ r + 3 < 347 := zc_tq hr (P := fun r => zv_lay (r + 3) = (2, 40) ∧ r + 3 < 347) (by decide +kernel)
theorem zc_y6_3 {r : Nat} (hr : zv_lay r = (1, 6)) : zv_lay (r + 4) = (2, 40) ∧ r + 4 < 347 := zc_tq hr (P := fun r => zv_lay (r + 4) = (2, 40) ∧ r + 4 < 347) (by decide +kernel)
theorem zc_y7_0 {r : Nat} (hr : zv_lay r = (1, 7)) : zv_lay (r + 1) = (2, 40) ∧ r + 1 < 347 := zc_tq hr (P := fun r => zv_lay (r + 1) = (2, 40) ∧ r + 1 < 347) (by decide +kernel)
theorem zc_y8_0 {r : Nat} (hr : zv_lay r = (1, 8)) : zv_lay (r + 1) = (2, 160) ∧ r + 1 < 347 := zc_tq hr (P := fun r => zv_lay (r + 1) = (2, 160) ∧ r + 1 < 347) (by decide +kernel)
theorem zc_y8_1 {r : Nat} (hr : zv_lay r = (1, 8)) : zv_lay (r + 2) = (1, 7) ∧ r + 2 < 347 := zc_tq hr (P := fun r => zv_lay (r + 2) = (1, 7) ∧ r + 2 < 347) (by decide +kernel)
theorem zc_y8_2 {r : Nat} (hr : zv_lay r = (1, 8)) : zv_lay (r + 4) = (1, 3) ∧ r + 4 < 347 := zc_tq hr (P := fun r => zv_lay (r + 4) = (1, 3) ∧ r + 4 < 347) (by decide +kernel)

