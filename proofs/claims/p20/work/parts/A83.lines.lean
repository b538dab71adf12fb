/-! ===== the tie: the LINES of a TEXT, one after the other ===== -/
section
variable {a b : Nat} {u : Nat → Nat → Int} {c0 : Nat → Int} {T : Nat → Int} {n : Nat} {k0 : zv_H}
/-- while LINES are read -/
def zt_lp (a : Nat) (b : Nat) (u : Nat → Nat → Int) (c0 : Nat → Int) (T : Nat → Int) (n : Nat) (k0 : zv_H) (i : Nat) (g : zv_H) (k : zv_H) (f : Nat) (y : Nat) (E : Nat) : Prop := (zc_A g) ∧ (zt_H b (zv_I k 348) g) ∧ (zt_H a c0 g) ∧ (zt_gd T n g k f y E) ∧ (zm_RI k) ∧ (zm_K k) ∧ (zm_F [348, 351, 352, 353, 354, 355, 358, 359, 360, 362, 363, 364, 365] [3, 10, 11, 12, 19, 24, 30, 31, 32, 33, 34, 35, 38, 42, 43] k0 k) ∧ (i ≤ f) ∧ (0 ≤ zv_I k 348 1 ∧ zv_I k 348 1 ≤ 1000 * i) ∧ (zv_I k 348 2 ≤ 100 + 48 * i) ∧ (zv_R g 1 3 = a) ∧ (zv_R g 1 4 = b) ∧ (zv_I g 1 7 = 1) ∧ (∀ r i, r = 3 ∨ r = 4 → zv_I g r i = u r i)
theorem zt_lp_A {a : Nat} {b : Nat} {u : Nat → Nat → Int} {c0 : Nat → Int} {T : Nat → Int} {n : Nat} {k0 : zv_H} {i : Nat} {g : zv_H} {k : zv_H} {f : Nat} {y : Nat} {E : Nat} (t : zt_lp a b u c0 T n k0 i g k f y E) : zc_A g := t.1
theorem zt_lp_H {a : Nat} {b : Nat} {u : Nat → Nat → Int} {c0 : Nat → Int} {T : Nat → Int} {n : Nat} {k0 : zv_H} {i : Nat} {g : zv_H} {k : zv_H} {f : Nat} {y : Nat} {E : Nat} (t : zt_lp a b u c0 T n k0 i g k f y E) : zt_H b (zv_I k 348) g := t.2.1
theorem zt_lp_O {a : Nat} {b : Nat} {u : Nat → Nat → Int} {c0 : Nat → Int} {T : Nat → Int} {n : Nat} {k0 : zv_H} {i : Nat} {g : zv_H} {k : zv_H} {f : Nat} {y : Nat} {E : Nat} (t : zt_lp a b u c0 T n k0 i g k f y E) : zt_H a c0 g := t.2.2.1
theorem zt_lp_G {a : Nat} {b : Nat} {u : Nat → Nat → Int} {c0 : Nat → Int} {T : Nat → Int} {n : Nat} {k0 : zv_H} {i : Nat} {g : zv_H} {k : zv_H} {f : Nat} {y : Nat} {E : Nat} (t : zt_lp a b u c0 T n k0 i g k f y E) : zt_gd T n g k f y E := t.2.2.2.1
theorem zt_lp_R {a : Nat} {b : Nat} {u : Nat → Nat → Int} {c0 : Nat → Int} {T : Nat → Int} {n : Nat} {k0 : zv_H} {i : Nat} {g : zv_H} {k : zv_H} {f : Nat} {y : Nat} {E : Nat} (t : zt_lp a b u c0 T n k0 i g k f y E) : zm_RI k := t.2.2.2.2.1
theorem zt_lp_K {a : Nat} {b : Nat} {u : Nat → Nat → Int} {c0 : Nat → Int} {T : Nat → Int} {n : Nat} {k0 : zv_H} {i : Nat} {g : zv_H} {k : zv_H} {f : Nat} {y : Nat} {E : Nat} (t : zt_lp a b u c0 T n k0 i g k f y E) : zm_K k := t.2.2.2.2.2.1
theorem zt_lp_F {a : Nat} {b : Nat} {u : Nat → Nat → Int} {c0 : Nat → Int} {T : Nat → Int} {n : Nat} {k0 : zv_H} {i : Nat} {g : zv_H} {k : zv_H} {f : Nat} {y : Nat} {E : Nat} (t : zt_lp a b u c0 T n k0 i g k f y E) : zm_F [348, 351, 352, 353, 354, 355, 358, 359, 360, 362, 363, 364, 365] [3, 10, 11, 12, 19, 24, 30, 31, 32, 33, 34, 35, 38, 42, 43] k0 k := t.2.2.2.2.2.2.1
theorem zt_lp_i {a : Nat} {b : Nat} {u : Nat → Nat → Int} {c0 : Nat → Int} {T : Nat → Int} {n : Nat} {k0 : zv_H} {i : Nat} {g : zv_H} {k : zv_H} {f : Nat} {y : Nat} {E : Nat} (t : zt_lp a b u c0 T n k0 i g k f y E) : i ≤ f := t.2.2.2.2.2.2.2.1
theorem zt_lp_n1 {a : Nat} {b : Nat} {u : Nat → Nat → Int} {c0 : Nat → Int} {T : Nat → Int} {n : Nat} {k0 : zv_H} {i : Nat} {g : zv_H} {k : zv_H} {f : Nat} {y : Nat} {E : Nat} (t : zt_lp a b u c0 T n k0 i g k f y E) : 0 ≤ zv_I k 348 1 ∧ zv_I k 348 1 ≤ 1000 * i := t.2.2.2.2.2.2.2.2.1
theorem zt_lp_n2 {a : Nat} {b : Nat} {u : Nat → Nat → Int} {c0 : Nat → Int} {T : Nat → Int} {n : Nat} {k0 : zv_H} {i : Nat} {g : zv_H} {k : zv_H} {f : Nat} {y : Nat} {E : Nat} (t : zt_lp a b u c0 T n k0 i g k f y E) : zv_I k 348 2 ≤ 100 + 48 * i := t.2.2.2.2.2.2.2.2.2.1
theorem zt_lp_r3 {a : Nat} {b : Nat} {u : Nat → Nat → Int} {c0 : Nat → Int} {T : Nat → Int} {n : Nat} {k0 : zv_H} {i : Nat} {g : zv_H} {k : zv_H} {f : Nat} {y : Nat} {E : Nat} (t : zt_lp a b u c0 T n k0 i g k f y E) : zv_R g 1 3 = a := t.2.2.2.2.2.2.2.2.2.2.1
theorem zt_lp_r4 {a : Nat} {b : Nat} {u : Nat → Nat → Int} {c0 : Nat → Int} {T : Nat → Int} {n : Nat} {k0 : zv_H} {i : Nat} {g : zv_H} {k : zv_H} {f : Nat} {y : Nat} {E : Nat} (t : zt_lp a b u c0 T n k0 i g k f y E) : zv_R g 1 4 = b := t.2.2.2.2.2.2.2.2.2.2.2.1
theorem zt_lp_l {a : Nat} {b : Nat} {u : Nat → Nat → Int} {c0 : Nat → Int} {T : Nat → Int} {n : Nat} {k0 : zv_H} {i : Nat} {g : zv_H} {k : zv_H} {f : Nat} {y : Nat} {E : Nat} (t : zt_lp a b u c0 T n k0 i g k f y E) : zv_I g 1 7 = 1 := t.2.2.2.2.2.2.2.2.2.2.2.2.1
theorem zt_lp_t3 {a : Nat} {b : Nat} {u : Nat → Nat → Int} {c0 : Nat → Int} {T : Nat → Int} {n : Nat} {k0 : zv_H} {i : Nat} {g : zv_H} {k : zv_H} {f : Nat} {y : Nat} {E : Nat} (t : zt_lp a b u c0 T n k0 i g k f y E) : ∀ r i, r = 3 ∨ r = 4 → zv_I g r i = u r i := t.2.2.2.2.2.2.2.2.2.2.2.2.2
/-- behind the last: all is well -/
def zt_lo1 (a : Nat) (b : Nat) (u : Nat → Nat → Int) (c0 : Nat → Int) (k0 : zv_H) (g : zv_H) (k : zv_H) : Prop := (zc_A g) ∧ (zt_H b (zv_I k 348) g) ∧ (zt_H a c0 g) ∧ (zm_K k) ∧ (zm_F [348, 351, 352, 353, 354, 355, 358, 359, 360, 362, 363, 364, 365] [3, 10, 11, 12, 19, 24, 30, 31, 32, 33, 34, 35, 38, 42, 43] k0 k) ∧ (0 ≤ zv_I k 348 1 ∧ zv_I k 348 1 ≤ 700000) ∧ (zv_I k 348 2 ≤ 40000) ∧ (zv_R g 1 3 = a) ∧ (zv_R g 1 4 = b) ∧ (zv_I g 1 7 = 1) ∧ (zv_I g 5 8 = 0) ∧ (zv_I k 347 30 = 0) ∧ (zv_I g 5 9 = -1) ∧ (∀ r i, r = 3 ∨ r = 4 → zv_I g r i = u r i)
theorem zt_lo1_A {a : Nat} {b : Nat} {u : Nat → Nat → Int} {c0 : Nat → Int} {k0 : zv_H} {g : zv_H} {k : zv_H} (t : zt_lo1 a b u c0 k0 g k) : zc_A g := t.1
theorem zt_lo1_H {a : Nat} {b : Nat} {u : Nat → Nat → Int} {c0 : Nat → Int} {k0 : zv_H} {g : zv_H} {k : zv_H} (t : zt_lo1 a b u c0 k0 g k) : zt_H b (zv_I k 348) g := t.2.1
theorem zt_lo1_O {a : Nat} {b : Nat} {u : Nat → Nat → Int} {c0 : Nat → Int} {k0 : zv_H} {g : zv_H} {k : zv_H} (t : zt_lo1 a b u c0 k0 g k) : zt_H a c0 g := t.2.2.1
theorem zt_lo1_K {a : Nat} {b : Nat} {u : Nat → Nat → Int} {c0 : Nat → Int} {k0 : zv_H} {g : zv_H} {k : zv_H} (t : zt_lo1 a b u c0 k0 g k) : zm_K k := t.2.2.2.1
theorem zt_lo1_F {a : Nat} {b : Nat} {u : Nat → Nat → Int} {c0 : Nat → Int} {k0 : zv_H} {g : zv_H} {k : zv_H} (t : zt_lo1 a b u c0 k0 g k) : zm_F [348, 351, 352, 353, 354, 355, 358, 359, 360, 362, 363, 364, 365] [3, 10, 11, 12, 19, 24, 30, 31, 32, 33, 34, 35, 38, 42, 43] k0 k := t.2.2.2.2.1
theorem zt_lo1_n1 {a : Nat} {b : Nat} {u : Nat → Nat → Int} {c0 : Nat → Int} {k0 : zv_H} {g : zv_H} {k : zv_H} (t : zt_lo1 a b u c0 k0 g k) : 0 ≤ zv_I k 348 1 ∧ zv_I k 348 1 ≤ 700000 := t.2.2.2.2.2.1
theorem zt_lo1_n2 {a : Nat} {b : Nat} {u : Nat → Nat → Int} {c0 : Nat → Int} {k0 : zv_H} {g : zv_H} {k : zv_H} (t : zt_lo1 a b u c0 k0 g k) : zv_I k 348 2 ≤ 40000 := t.2.2.2.2.2.2.1
theorem zt_lo1_r3 {a : Nat} {b : Nat} {u : Nat → Nat → Int} {c0 : Nat → Int} {k0 : zv_H} {g : zv_H} {k : zv_H} (t : zt_lo1 a b u c0 k0 g k) : zv_R g 1 3 = a := t.2.2.2.2.2.2.2.1
theorem zt_lo1_r4 {a : Nat} {b : Nat} {u : Nat → Nat → Int} {c0 : Nat → Int} {k0 : zv_H} {g : zv_H} {k : zv_H} (t : zt_lo1 a b u c0 k0 g k) : zv_R g 1 4 = b := t.2.2.2.2.2.2.2.2.1
theorem zt_lo1_l {a : Nat} {b : Nat} {u : Nat → Nat → Int} {c0 : Nat → Int} {k0 : zv_H} {g : zv_H} {k : zv_H} (t : zt_lo1 a b u c0 k0 g k) : zv_I g 1 7 = 1 := t.2.2.2.2.2.2.2.2.2.1
theorem zt_lo1_f8 {a : Nat} {b : Nat} {u : Nat → Nat → Int} {c0 : Nat → Int} {k0 : zv_H} {g : zv_H} {k : zv_H} (t : zt_lo1 a b u c0 k0 g k) : zv_I g 5 8 = 0 := t.2.2.2.2.2.2.2.2.2.2.1
theorem zt_lo1_z {a : Nat} {b : Nat} {u : Nat → Nat → Int} {c0 : Nat → Int} {k0 : zv_H} {g : zv_H} {k : zv_H} (t : zt_lo1 a b u c0 k0 g k) : zv_I k 347 30 = 0 := t.2.2.2.2.2.2.2.2.2.2.2.1
theorem zt_lo1_f9 {a : Nat} {b : Nat} {u : Nat → Nat → Int} {c0 : Nat → Int} {k0 : zv_H} {g : zv_H} {k : zv_H} (t : zt_lo1 a b u c0 k0 g k) : zv_I g 5 9 = -1 := t.2.2.2.2.2.2.2.2.2.2.2.2.1
theorem zt_lo1_t3 {a : Nat} {b : Nat} {u : Nat → Nat → Int} {c0 : Nat → Int} {k0 : zv_H} {g : zv_H} {k : zv_H} (t : zt_lo1 a b u c0 k0 g k) : ∀ r i, r = 3 ∨ r = 4 → zv_I g r i = u r i := t.2.2.2.2.2.2.2.2.2.2.2.2.2
/-- the States have their numbers -/
def zt_num0 (b : Nat) (g : zv_H) : Prop := ∀ i : Nat, i < 48 → zv_I g (zc_stt b i) 0 = i
theorem zt_num0_H {b : Nat} {c : Nat → Int} {g : zv_H} (H : zt_H b c g) : zt_num0 b g := zt_U_nr (zt_H_U H)
/-- behind the last: a fault -/
def zt_lo0 (a : Nat) (b : Nat) (u : Nat → Nat → Int) (c0 : Nat → Int) (T : Nat → Int) (n : Nat) (k0 : zv_H) (g : zv_H) (k : zv_H) : Prop := (zc_A g) ∧ (zt_H a c0 g) ∧ (zm_K k) ∧ (zm_F [348, 351, 352, 353, 354, 355, 358, 359, 360, 362, 363, 364, 365] [3, 10, 11, 12, 19, 24, 30, 31, 32, 33, 34, 35, 38, 42, 43] k0 k) ∧ (zv_R g 1 3 = a) ∧ (zv_R g 1 4 = b) ∧ (zv_I g 1 7 = 1) ∧ (zt_bd T n g k) ∧ (0 < zv_I k 347 30) ∧ (zt_num0 b g) ∧ (∀ r i, r = 3 ∨ r = 4 → zv_I g r i = u r i)
theorem zt_lo0_A {a : Nat} {b : Nat} {u : Nat → Nat → Int} {c0 : Nat → Int} {T : Nat → Int} {n : Nat} {k0 : zv_H} {g : zv_H} {k : zv_H} (t : zt_lo0 a b u c0 T n k0 g k) : zc_A g := t.1
theorem zt_lo0_O {a : Nat} {b : Nat} {u : Nat → Nat → Int} {c0 : Nat → Int} {T : Nat → Int} {n : Nat} {k0 : zv_H} {g : zv_H} {k : zv_H} (t : zt_lo0 a b u c0 T n k0 g k) : zt_H a c0 g := t.2.1
theorem zt_lo0_K {a : Nat} {b : Nat} {u : Nat → Nat → Int} {c0 : Nat → Int} {T : Nat → Int} {n : Nat} {k0 : zv_H} {g : zv_H} {k : zv_H} (t : zt_lo0 a b u c0 T n k0 g k) : zm_K k := t.2.2.1
theorem zt_lo0_F {a : Nat} {b : Nat} {u : Nat → Nat → Int} {c0 : Nat → Int} {T : Nat → Int} {n : Nat} {k0 : zv_H} {g : zv_H} {k : zv_H} (t : zt_lo0 a b u c0 T n k0 g k) : zm_F [348, 351, 352, 353, 354, 355, 358, 359, 360, 362, 363, 364, 365] [3, 10, 11, 12, 19, 24, 30, 31, 32, 33, 34, 35, 38, 42, 43] k0 k := t.2.2.2.1
theorem zt_lo0_r3 {a : Nat} {b : Nat} {u : Nat → Nat → Int} {c0 : Nat → Int} {T : Nat → Int} {n : Nat} {k0 : zv_H} {g : zv_H} {k : zv_H} (t : zt_lo0 a b u c0 T n k0 g k) : zv_R g 1 3 = a := t.2.2.2.2.1
theorem zt_lo0_r4 {a : Nat} {b : Nat} {u : Nat → Nat → Int} {c0 : Nat → Int} {T : Nat → Int} {n : Nat} {k0 : zv_H} {g : zv_H} {k : zv_H} (t : zt_lo0 a b u c0 T n k0 g k) : zv_R g 1 4 = b := t.2.2.2.2.2.1
theorem zt_lo0_l {a : Nat} {b : Nat} {u : Nat → Nat → Int} {c0 : Nat → Int} {T : Nat → Int} {n : Nat} {k0 : zv_H} {g : zv_H} {k : zv_H} (t : zt_lo0 a b u c0 T n k0 g k) : zv_I g 1 7 = 1 := t.2.2.2.2.2.2.1
theorem zt_lo0_B {a : Nat} {b : Nat} {u : Nat → Nat → Int} {c0 : Nat → Int} {T : Nat → Int} {n : Nat} {k0 : zv_H} {g : zv_H} {k : zv_H} (t : zt_lo0 a b u c0 T n k0 g k) : zt_bd T n g k := t.2.2.2.2.2.2.2.1
theorem zt_lo0_p {a : Nat} {b : Nat} {u : Nat → Nat → Int} {c0 : Nat → Int} {T : Nat → Int} {n : Nat} {k0 : zv_H} {g : zv_H} {k : zv_H} (t : zt_lo0 a b u c0 T n k0 g k) : 0 < zv_I k 347 30 := t.2.2.2.2.2.2.2.2.1
theorem zt_lo0_N {a : Nat} {b : Nat} {u : Nat → Nat → Int} {c0 : Nat → Int} {T : Nat → Int} {n : Nat} {k0 : zv_H} {g : zv_H} {k : zv_H} (t : zt_lo0 a b u c0 T n k0 g k) : zt_num0 b g := t.2.2.2.2.2.2.2.2.2.1
theorem zt_lo0_t3 {a : Nat} {b : Nat} {u : Nat → Nat → Int} {c0 : Nat → Int} {T : Nat → Int} {n : Nat} {k0 : zv_H} {g : zv_H} {k : zv_H} (t : zt_lo0 a b u c0 T n k0 g k) : ∀ r i, r = 3 ∨ r = 4 → zv_I g r i = u r i := t.2.2.2.2.2.2.2.2.2.2
theorem zt_ag_lk {D j : Nat} {k g' k' : zv_H} {f f' E' : Nat} {o : zv_O} (h : zt_ll T n D j k f o g' k' f' E') : zt_ag0 j g' k' := ⟨zt_ll_j h, zt_ll_w h, zt_ll_n2 h, zt_ll_v h, zt_ll_n1 h, zt_ll_r1 h⟩
/-- the class, at a fault, goes to the end -/
theorem zt_54_f {d : Nat} {g : zv_H} (gL : zt_L g) (h8 : ¬ zv_I g 5 8 = 0) (x i : Int) : L8_load_54 (d + 7) 1 x i g = L8_load_117 (d + 7) 1 g := by
  have e5 : zv_gR g 1 8 2 = some 5 := zl_gF gL (show zv_lay 1 = (1, 8) from rfl) 2 4
  rw [qL8_load_54]
  by_cases c : i ≤ x
  · have em : C3_more (d + 7) 5 g = some (0, g) := lC3_more (zl_ob gL zt_lay5) (by
      rw [qE3_more, zm_e (zl_gI gL zt_lay5 8), if_neg h8])
    rw [if_pos c, zm_e e5, zm_e em]
    dsimp only
    rw [if_pos rfl]
  · rw [if_neg c]
/-- a fault, told or not: both go to the end -/
theorem zj_lend {d D : Nat} {g k : zv_H} (B : zt_bd T n g k) (x i : Int) : L8_load_54 (d + 7) 1 x i g = L8_load_117 (d + 7) 1 g ∧ L9_load_182 (D + 11) 347 k = L9_load_203 (D + 11) 347 (zt_ms 0 2 k) := by
  have f0 := zt_bd_f0 B
  have hM := zt_ty_M (zt_bd_Y B)
  have B2 := zt_bd_ms B
  have hM2 := zm_F_M (zt_ms_F 0 2 k) hM
  refine ⟨zt_54_f (zt_tx_L (zt_bd_X B)) (by omega) x i, ?_⟩
  rcases zt_bd_f B with ⟨q1, q2, q3, q4⟩ | ⟨q1, q2⟩
  · rw [qL9_load_182, zm_e (zm_gI hM 30), if_pos q2, zm_e (zm_gI hM 34), if_neg (by rw [q3]; decide), zm_e (zt_readsLine_b (D := D + 8) B), qL9_load_182, zm_e (zm_gI hM2 30), if_neg (by omega)]
  · have p : 0 < zv_I k 347 30 := by rw [q1]; exact f0
    rw [qL9_load_182, zm_e (zm_gI hM 30), if_neg (by omega), zt_ms_f p]
theorem zt_ln5_1 {g g' : zv_H} (h : zt_ln5 g g') : (∀ i, zv_I g' 1 i = zv_I g 1 i) ∧ ∀ r i, zv_R g' r i = zv_R g r i := ⟨fun i => h.2.2 1 i (fun q => absurd q.1 (by decide)) (fun q => absurd q.1 (by decide)) (by decide), fun r i => by unfold zv_R; rw [h.2.1]⟩
theorem zt_ln5_34 {g g' : zv_H} (h : zt_ln5 g g') {r : Nat} (hr : r = 3 ∨ r = 4) (i : Nat) : zv_I g' r i = zv_I g r i := h.2.2 r i (fun q => by omega) (fun q => by omega) (by omega)
theorem zt_H_ln5 {x : Nat} {c : Nat → Int} {g g' : zv_H} (H : zt_H x c g) (h : zt_ln5 g g') : zt_H x c g' := zt_H_lo H h.2.1 (zt_ln5_lo h).2.2
/-- what lies below the halves, where one half alone changed -/
theorem zt_k_lo {g g' : zv_H} (hb : zv_lay b = (1, 0)) (K : zt_k b g g') : (∀ i, zv_I g' 5 i = zv_I g 5 i) ∧ (∀ i, zv_I g' 6 i = zv_I g 6 i) ∧ (∀ i, i ≠ 6 → zv_I g' 1 i = zv_I g 1 i) ∧ ∀ i, zv_R g' 1 i = zv_R g 1 i := by
  have nin : ∀ r, r < 9 → ¬ zt_in b r := fun r hr q => by have := q.1; omega
  have nx : ∀ r i, r < 9 → ¬ (r = 1 ∧ i = 6) → zv_lay r ≠ (1, 4) → zv_lay r ≠ (1, 5) → ¬ zt_x r i := fun r i hr h1 h2 h3 q => by
    rcases q with q | q | q | ⟨x, hx, q⟩
    · exact h1 q
    · exact h2 q.1
    · exact h3 q.1
    · omega
  refine ⟨fun i => K.2.2.1 5 i (nx 5 i (by decide) (fun q => absurd q.1 (by decide)) (by decide) (by decide)) (nin 5 (by decide)), fun i => K.2.2.1 6 i (nx 6 i (by decide) (fun q => absurd q.1 (by decide)) (by decide) (by decide)) (nin 6 (by decide)), fun i hi => K.2.2.1 1 i (nx 1 i (by decide) (fun q => hi q.2) (by decide) (by decide)) (nin 1 (by decide)), fun i => ?_⟩
  exact congrFun (K.2.2.2.2 1 (by decide) (by decide) (nin 1 (by decide))) i
theorem zt_k_34 {g g' : zv_H} (K : zt_k b g g') {r : Nat} (hr : r = 3 ∨ r = 4) (i : Nat) : zv_I g' r i = zv_I g r i := by
  refine K.2.2.1 r i (fun q => ?_) (fun q => by have := q.1; omega)
  rcases q with q | q | q | ⟨x, hx, q⟩
  · omega
  · rcases hr with z | z <;> rw [z] at q <;> exact absurd q.1 (by decide)
  · rcases hr with z | z <;> rw [z] at q <;> exact absurd q.1 (by decide)
  · omega
/-- one LINE -/
theorem zj_step {d D i : Nat} {g k : zv_H} {f t E : Nat} (hb : zv_lay b = (1, 0)) (hab : a ≠ b) (p : zt_lp a b u c0 T n k0 i g k f t E) (t0 : t ≠ 0) : ∃ g1 k1, L8_load_54 (d + 7) 1 n i g = L8_load_54 (d + 7) 1 n ((i + 1 : Nat) : Int) g1 ∧ L9_load_182 (D + 11) 347 k = L9_load_182 (D + 11) 347 k1 ∧ ((∃ f1 t1 E1, zt_lp a b u c0 T n k0 (i + 1) g1 k1 f1 t1 E1 ∧ f < f1) ∨ (zt_bd T n g1 k1 ∧ zc_A g1 ∧ zt_H a c0 g1 ∧ zm_K k1 ∧ zm_F [348, 351, 352, 353, 354, 355, 358, 359, 360, 362, 363, 364, 365] [3, 10, 11, 12, 19, 24, 30, 31, 32, 33, 34, 35, 38, 42, 43] k0 k1 ∧ zv_R g1 1 3 = a ∧ zv_R g1 1 4 = b ∧ zv_I g1 1 7 = 1 ∧ zt_num0 b g1 ∧ ∀ r i, r = 3 ∨ r = 4 → zv_I g1 r i = u r i)) := by
  have G := zt_lp_G p
  have hA := zt_lp_A p
  have R := zt_lp_R p
  have K := zt_lp_K p
  have gL := zt_tx_L (zt_gd_X G)
  have hM := zt_ty_M (zt_gd_Y G)
  have l1 : zv_lay 1 = (1, 8) := rfl
  have e5 : ∀ {g : zv_H}, zt_L g → zv_gR g 1 8 2 = some 5 := fun {g} h => zl_gF h l1 2 4
  have gf := zt_gd_f G
  have gf2 := gf.2.2.2 t0
  have hi := zt_lp_i p
  have i7 : i ≤ 700 := by omega
  have em : C3_more (d + 7) 5 g = some (1, g) := lC3_more (zl_ob gL zt_lay5) (by
    rw [qE3_more, zm_e (zl_gI gL zt_lay5 8), zt_gd_f1 G, if_pos rfl, zm_e (zl_gI gL zt_lay5 4), zt_gd_c4 G, if_neg (show ¬ (t : Int) = 0 from fun q => t0 (Int.ofNat.inj q))])
  obtain ⟨v, g1, a1, a2, a3⟩ := zj_line (d := d) (D := D) G K R t0
  obtain ⟨⟨v', g1'⟩, y1, y2, _⟩ := zc_C3_line (d := d + 1) hA zt_lay5
  have ey : (v', g1') = (v, g1) := Option.some.inj (y1.symm.trans a1)
  have A1 : zc_A g1 := by
    have := y2.2
    rw [show g1' = g1 from (Prod.mk.inj ey).2] at this
    exact this
  have gL1 := zt_L_A A1
  have O1 : zt_H a c0 g1 := zt_H_ln5 (zt_lp_O p) a2
  have z1 := zt_ln5_1 a2
  have t31 : ∀ r i, r = 3 ∨ r = 4 → zv_I g1 r i = u r i := fun r i hr => (zt_ln5_34 a2 hr i).trans (zt_lp_t3 p r i hr)
  have top : L8_load_54 (d + 7) 1 n i g = if v = 0 then L8_load_54 (d + 7) 1 n ((i + 1 : Nat) : Int) g1 else (C8_done (d + 7) 1 b g1).bind fun q6 => if q6.1 < 0 then (zv_gR q6.2 1 8 2).bind fun v7 => (C3_fail (d + 7) v7 7 q6.2).bind fun q8 => L8_load_54 (d + 7) 1 n ((i + 1 : Nat) : Int) q8.2 else (zv_gR q6.2 1 8 2).bind fun v9 => (C3_next (d + 7) v9 q6.2).bind fun q10 => L8_load_54 (d + 7) 1 n ((i + 1 : Nat) : Int) q10.2 := by
    rw [qL8_load_54, if_pos (by omega), zm_e (e5 gL), zm_e em]
    dsimp only
    rw [if_neg (by decide), zm_e (e5 gL), zm_e a1, zt_tkw i7]
    dsimp only
    by_cases c : v = 0
    · rw [if_pos c, if_pos c]
    · rw [if_neg c, if_neg c, zm_e (zl_gR gL1 l1 4), z1.2, zt_lp_r4 p]
  have topR : L9_load_182 (D + 11) 347 k = (C9_readsLine (D + 11) 347 k).bind fun g3 => L9_load_182 (D + 11) 347 g3 := by
    rw [qL9_load_182, zm_e (zm_gI hM 30), zt_gd_f2 G, if_pos rfl, zm_e (zm_gI hM 34), (zt_gd_r G).2.1, if_neg (show ¬ (t : Int) = 0 from fun q => t0 (Int.ofNat.inj q))]
  rcases a3 with ⟨v1, j, k1, f1, E1, lk⟩ | ⟨v0, k1, lb⟩
  rotate_left
  · rw [if_pos v0] at top
    rw [zm_e (lC9_readsLine (zm_ob hM) (zt_lb_o lb))] at topR
    exact ⟨g1, k1, top, topR, Or.inr ⟨zt_lb_B lb, A1, O1, zm_K_F K (zt_lb_F lb), zm_F_t (zt_lp_F p) (zm_F_s (zt_lb_F lb) rfl rfl), (z1.2 1 3).trans (zt_lp_r3 p), (z1.2 1 4).trans (zt_lp_r4 p), (z1.1 7).trans (zt_lp_l p), zt_num0_H (zt_H_ln5 (zt_lp_H p) a2), t31⟩⟩
  rw [if_neg (by omega)] at top
  have hM1 := zt_ty_M (zt_gd_Y (zt_ll_G lk))
  have c348 : zv_I k1 348 = zv_I k 348 := zm_F_a (zt_ll_F lk) 348
  have H1 : zt_H b (zv_I k1 348) g1 := by
    rw [c348]
    exact zt_H_ln5 (zt_lp_H p) a2
  have n1 := zt_lp_n1 p
  have n2 := zt_lp_n2 p
  have F1 : zm_F [348, 351, 352, 353, 354, 355, 358, 359, 360, 362, 363, 364, 365] [3, 10, 11, 12, 19, 24, 30, 31, 32, 33, 34, 35, 38, 42, 43] k0 k1 := zm_F_t (zt_lp_F p) (zm_F_s (zt_ll_F lk) rfl rfl)
  obtain ⟨q, q', h1, h2, Z⟩ := zj_does (d := d) (D := D) A1 H1 hM1 (zt_ag_lk lk) (by rw [c348]; omega) (by rw [c348]; omega)
  rw [zm_e h1] at top
  have A2 := (zt_D_X Z).2
  have gL2 := zt_L_A A2
  have O2 : zt_H a c0 q.2 := zt_H_k O1 (zt_D_k Z) hab
  have lo := zt_k_lo hb (zt_D_k Z)
  have t32 : ∀ r i, r = 3 ∨ r = 4 → zv_I q.2 r i = u r i := fun r i hr => (zt_k_34 (zt_D_k Z) hr i).trans (t31 r i hr)
  have F2 := zt_D_F Z
  have G2 : zt_gd T n q.2 q'.2 f1 3 E1 := zt_gd_x0 (zt_ll_G lk) gL2 (fun j _ => lo.1 j) lo.2.1 F2
  have hM2 := zt_ty_M (zt_gd_Y G2)
  have K2 : zm_K q'.2 := zm_K_F (zm_K_F K (zt_ll_F lk)) F2
  have F02 : zm_F [348, 351, 352, 353, 354, 355, 358, 359, 360, 362, 363, 364, 365] [3, 10, 11, 12, 19, 24, 30, 31, 32, 33, 34, 35, 38, 42, 43] k0 q'.2 := zm_F_t F1 (zm_F_s F2 rfl rfl)
  have R2 : zm_RI q'.2 := zm_RI_F (zt_ll_R lk) F2
  have r3 : zv_R q.2 1 3 = a := (lo.2.2.2 3).trans ((z1.2 1 3).trans (zt_lp_r3 p))
  have r4 : zv_R q.2 1 4 = b := (lo.2.2.2 4).trans ((z1.2 1 4).trans (zt_lp_r4 p))
  have l7 : zv_I q.2 1 7 = 1 := (lo.2.2.1 7 (by decide)).trans ((z1.1 7).trans (zt_lp_l p))
  have dox : zt_dox D j k1 = if q'.1 < 0 then L9_readsLine_158 (D + 10) 347 347 0 q'.2 else L9_readsLine_158 (D + 10) 347 347 1 q'.2 := by
    unfold zt_dox
    rw [zm_e h2]
  have ff := zt_ll_p lk
  rcases zt_D_s Z with ⟨s1, s2⟩ | ⟨s1, s2⟩
  · -- refused
    have bd := zj_fail G2 (w := 7) (by decide)
    have p30 : zv_I (zt_ms 0 7 q'.2) 347 30 = 7 := by
      rw [zt_ms_0 (zt_gd_f2 G2), if_neg (fun q => absurd q.1 (by decide)), zy_In _ _ (fun q => absurd q.2 (by decide)), zy_I]
    have hM3 := zm_F_M (zt_ms_F 0 7 q'.2) hM2
    rw [if_pos s1, zm_e (e5 gL2), zm_e (zt_fail (d := d + 6) gL2 7)] at top
    dsimp only at top
    rw [if_pos s2, qL9_readsLine_158, zm_e (zt_must hM2 0 7), zm_e (zm_gI hM3 30), p30, if_neg (by decide)] at dox
    rw [zm_e (lC9_readsLine (zm_ob hM) ((zt_ll_o lk).trans dox))] at topR
    obtain ⟨⟨v5, g5⟩, y5, y6, _⟩ := zc_C3_fail (d := d + 6) A2 zt_lay5 (a1 := 7) (by unfold zv_rg; omega)
    have eg : g5 = zv_sI (zv_sI q.2 5 8 7) 5 9 (zv_I q.2 5 5) := (Prod.mk.inj (Option.some.inj (y5.symm.trans (zt_fail (d := d + 6) gL2 7)))).2
    have rf := zt_rf_fail q.2 7
    rw [← eg] at rf bd top
    have ln := zt_ln5_rf rf
    have z5 := zt_ln5_1 ln
    exact ⟨g5, _, top, topR, Or.inr ⟨bd, y6.2, zt_H_ln5 O2 ln, zm_K_F K2 (zt_ms_F 0 7 q'.2), zm_F_t F02 (zm_F_s (zt_ms_F 0 7 q'.2) rfl rfl), (z5.2 1 3).trans r3, (z5.2 1 4).trans r4, (z5.1 7).trans l7, zt_num0_H (zt_H_ln5 (zt_D_H Z) ln), fun r i hr => (zt_ln5_34 ln hr i).trans (t32 r i hr)⟩⟩
  · obtain ⟨v4, g4, k4, n4, r4', f4, F4, R4, o4⟩ := zj_nx3 (d := d + 5) (D := D + 5) G2 R2 (by decide)
    rw [if_neg (by omega), zm_e (e5 gL2), zm_e n4] at top
    dsimp only at top
    rw [if_neg (by omega), qL9_readsLine_158, zm_e (zt_must hM2 1 7), zt_ms_1 (by decide), zm_e (zm_gI hM2 30), zt_gd_f2 G2, if_pos rfl, zm_e r4'] at dox
    rw [zm_e (lC9_readsLine (zm_ob hM) ((zt_ll_o lk).trans dox))] at topR
    obtain ⟨⟨v5, g5⟩, y5, y6, _⟩ := zc_C3_next (d := d + 5) A2 zt_lay5
    have eg : g5 = g4 := (Prod.mk.inj (Option.some.inj (y5.symm.trans n4))).2
    rw [eg] at y6
    have ln := zt_ln5_rf f4
    have z5 := zt_ln5_1 ln
    have c4 : zv_I k4 348 = zv_I q'.2 348 := zm_F_a F4 348
    have F04 : zm_F [348, 351, 352, 353, 354, 355, 358, 359, 360, 362, 363, 364, 365] [3, 10, 11, 12, 19, 24, 30, 31, 32, 33, 34, 35, 38, 42, 43] k0 k4 := zm_F_t F02 (zm_F_s F4 rfl rfl)
    refine ⟨g4, k4, top, topR, ?_⟩
    rcases o4 with ⟨w4, f4', t4', E4', G4, l4⟩ | ⟨w4, B4⟩
    · have g1b := zt_D_g1 Z
      have g2b := zt_D_g2 Z
      rw [c348] at g1b g2b
      have p1 := (zt_tkn_f l4).1
      have p2 := (zt_gd_f G2).2.2.2 (by decide)
      refine Or.inl ⟨f4', t4', E4', ⟨y6.2, ?_, zt_H_ln5 O2 ln, G4, R4, zm_K_F K2 F4, F04, by omega, ?_, ?_, (z5.2 1 3).trans r3, (z5.2 1 4).trans r4, (z5.1 7).trans l7, fun r i hr => (zt_ln5_34 ln hr i).trans (t32 r i hr)⟩, by omega⟩
      · rw [c4]
        exact zt_H_ln5 (zt_D_H Z) ln
      · rw [c4]
        omega
      · rw [c4]
        omega
    · exact Or.inr ⟨B4, y6.2, zt_H_ln5 O2 ln, zm_K_F K2 F4, F04, (z5.2 1 3).trans r3, (z5.2 1 4).trans r4, (z5.1 7).trans l7, zt_num0_H (zt_H_ln5 (zt_D_H Z) ln), fun r i hr => (zt_ln5_34 ln hr i).trans (t32 r i hr)⟩
/-- all LINES -/
theorem zj_lines {d D : Nat} (hb : zv_lay b = (1, 0)) (hab : a ≠ b) : ∀ (N i : Nat) (g k : zv_H) (f t E : Nat), n - f ≤ N → zt_lp a b u c0 T n k0 i g k f t E → ∃ g1 k1, L8_load_54 (d + 7) 1 n i g = L8_load_117 (d + 7) 1 g1 ∧ L9_load_182 (D + 11) 347 k = L9_load_203 (D + 11) 347 k1 ∧ (zt_lo1 a b u c0 k0 g1 k1 ∨ zt_lo0 a b u c0 T n k0 g1 k1) := by
  have last : ∀ (i : Nat) (g k : zv_H) (f t E : Nat), t = 0 → zt_lp a b u c0 T n k0 i g k f t E → ∃ g1 k1, L8_load_54 (d + 7) 1 n i g = L8_load_117 (d + 7) 1 g1 ∧ L9_load_182 (D + 11) 347 k = L9_load_203 (D + 11) 347 k1 ∧ (zt_lo1 a b u c0 k0 g1 k1 ∨ zt_lo0 a b u c0 T n k0 g1 k1) := by
    intro i g k f t E t0 p
    have G := zt_lp_G p
    have gL := zt_tx_L (zt_gd_X G)
    have hM := zt_ty_M (zt_gd_Y G)
    have gf := zt_gd_f G
    have hi := zt_lp_i p
    have e5 : zv_gR g 1 8 2 = some 5 := zl_gF gL (show zv_lay 1 = (1, 8) from rfl) 2 4
    have em : C3_more (d + 7) 5 g = some (0, g) := lC3_more (zl_ob gL zt_lay5) (by
      rw [qE3_more, zm_e (zl_gI gL zt_lay5 8), zt_gd_f1 G, if_pos rfl, zm_e (zl_gI gL zt_lay5 4), zt_gd_c4 G, if_pos (by rw [t0]; rfl)])
    have n1 := zt_lp_n1 p
    have n2 := zt_lp_n2 p
    refine ⟨g, k, ?_, ?_, Or.inl ⟨zt_lp_A p, zt_lp_H p, zt_lp_O p, zt_lp_K p, zt_lp_F p, by omega, by omega, zt_lp_r3 p, zt_lp_r4 p, zt_lp_l p, zt_gd_f1 G, zt_gd_f2 G, zt_gd_f9 G, zt_lp_t3 p⟩⟩
    · rw [qL8_load_54]
      by_cases c : (i : Int) ≤ (n : Int)
      · rw [if_pos c, zm_e e5, zm_e em]
        dsimp only
        rw [if_pos rfl]
      · rw [if_neg c]
    · rw [qL9_load_182, zm_e (zm_gI hM 30), zt_gd_f2 G, if_pos rfl, zm_e (zm_gI hM 34), (zt_gd_r G).2.1, if_pos (by rw [t0]; rfl)]
  intro N
  induction N with
  | zero =>
    intro i g k f t E hN p
    by_cases t0 : t = 0
    · exact last i g k f t E t0 p
    · have := (zt_gd_f (zt_lp_G p)).2.2.2 t0
      omega
  | succ N ih =>
    intro i g k f t E hN p
    by_cases t0 : t = 0
    · exact last i g k f t E t0 p
    · obtain ⟨g1, k1, e1, e2, o⟩ := zj_step (d := d) (D := D) hb hab p t0
      rw [e1, e2]
      rcases o with ⟨f1, t1, E1, p1, lt⟩ | ⟨B, A1, O1, K1, F1, r3, r4, l, N1, t3⟩
      · exact ih (i + 1) g1 k1 f1 t1 E1 (by omega) p1
      · obtain ⟨y1, y2⟩ := zj_lend (d := d) (D := D) B n ((i + 1 : Nat) : Int)
        have B2 := zt_bd_ms B
        exact ⟨g1, zt_ms 0 2 k1, y1, y2, Or.inr ⟨A1, O1, zm_K_F K1 (zt_ms_F 0 2 k1), zm_F_t F1 (zm_F_s (zt_ms_F 0 2 k1) rfl rfl), r3, r4, l, B2.1, B2.2, N1, t3⟩⟩
end
