/-! ===== the tie: words taken ===== -/
/-- what lies below both halves changed, no more -/
theorem zt_H_lo {a : Nat} {c : Nat → Int} {h h' : zv_H} (H : zt_H a c h) (q : h'.2.2 = h.2.2) (i : ∀ r k, 9 ≤ r → zv_I h' r k = zv_I h r k) : zt_H a c h' := by
  have la := zt_U_la (zt_H_U H)
  have a9 : 9 ≤ a := by have := zc_lh la; omega
  have hn : ∀ n k, zv_I h' (a + n) k = zv_I h (a + n) k := fun n k => i _ k (Nat.le_trans a9 (Nat.le_add_right _ _))
  have V := zt_H_V H
  refine ⟨zt_U_fr (zt_H_U H) q (fun j x k _ _ => i _ k (by unfold zc_stt; split <;> omega)) (hn 5) (hn 0 11) (hn 0 12), zt_J_cg (zt_H_J H) (fun r k r1 r2 => i r k (by omega)), ⟨?_, zt_V_c0 V, zt_V_c5 V, fun j hj => ?_, fun j hj => ?_, zt_V_vb V, zt_V_vd V⟩, zt_N_c (zt_H_N H) ((zt_U_W (zt_H_U H)).2.2.1.2) rfl (fun _ _ _ => rfl) (fun r k r1 r2 => i r k (by omega))⟩
  · rw [hn]; exact zt_V_ct V
  · rw [hn]; exact zt_V_ls V j hj
  · rw [hn]; exact zt_V_lt V j hj
section
variable {T : Nat → Int} {n : Nat} {f E : Nat}
theorem zt_lay7 : zv_lay 7 = (1, 7) := rfl
theorem zt_lay8 : zv_lay 8 = (2, 40) := rfl
/-- but for the word -/
def zt_wf8 (g g' : zv_H) : Prop := g'.1 = g.1 ∧ g'.2.2 = g.2.2 ∧ ∀ r k, ¬ (r = 7 ∧ k = 1) → r ≠ 8 → zv_I g' r k = zv_I g r k
theorem zt_wf8_L {g g' : zv_H} (gL : zt_L g) (f : zt_wf8 g g') : zt_L g' := by
  refine ⟨?_, fun r k h1 h2 => ?_, fun a i h1 h2 => ?_⟩
  · have := gL.1
    unfold zv_n at *
    rw [f.1]
    exact this
  · unfold zv_R
    rw [f.2.1]
    exact gL.2.1 r k h1 h2
  · unfold zv_R
    rw [f.2.1]
    exact gL.2.2 a i h1 h2
theorem zt_tx_w {g g' : zv_H} (X : zt_tx T n g) (f : zt_wf8 g g') : zt_tx T n g' := ⟨zt_wf8_L (zt_tx_L X) f, zt_tx_n X, (f.2.2 _ _ (fun q => absurd q.1 (by decide)) (by decide)).trans (zt_tx_l X), fun i hi => (f.2.2 _ _ (fun q => absurd q.1 (by decide)) (by decide)).trans (zt_tx_t X i hi), zt_tx_b X⟩
theorem zt_w97 {x : Int} (h : zt_sm x) : zv_w (x - 97) = x - 97 := by
  unfold zt_sm at h
  exact zm_w (by omega)
/-- the class spells -/
theorem zt_sp45 {d : Nat} (hs : ∀ i : Nat, f ≤ i → i < E → zt_sm (T i)) (En : E ≤ n) (E40 : E ≤ f + 40) : ∀ (m j : Nat) (g : zv_H), f + j + m = E → zt_tx T n g → zv_I g 5 6 = E → zv_I g 7 1 = j → (∀ i : Nat, i < j → zv_I g 8 i = T (f + i) - 97) → ∃ g', L3_spelled_45 (d + 1) 5 ((f + j : Nat) : Int) g = ((C3_next (d + 1) 5 g').bind fun q5 => (if q5.1 = 0 ∨ q5.1 = 1 then some (some (zv_i q5.1), q5.2) else none : zv_O)) ∧ zt_wf8 g g' ∧ zv_I g' 7 1 = ((E - f : Nat) : Int) ∧ ∀ i : Nat, i < E - f → zv_I g' 8 i = T (f + i) - 97 := by
  intro m
  induction m with
  | zero =>
    intro j g he X h6 h7 h8
    have e : f + j = E := he
    have gL := zt_tx_L X
    have ej : E - f = j := by omega
    refine ⟨g, ?_, ⟨rfl, rfl, fun _ _ _ _ => rfl⟩, by rw [ej]; exact h7, by rw [ej]; exact h8⟩
    rw [qL3_spelled_45, zm_e (zl_gI gL zt_lay5 6), h6, e, if_neg (Int.lt_irrefl _)]
  | succ m ih =>
    intro j g he X h6 h7 h8
    have gL := zt_tx_L X
    have n7 := zt_tx_n X
    have jE : f + j < E := by omega
    have j40 : j < 40 := by omega
    have x7 : f + j ≤ 700 := by omega
    have c := hs (f + j) (Nat.le_add_right _ _) jE
    have ba := zt_byteAt (d := d) X (f + j) x7
    have eb : zt_at8 T n (f + j) = T (f + j) := if_pos (Nat.lt_of_lt_of_le jE En)
    rw [eb] at ba
    have ea := zt_C7_add (d := d) gL zt_lay7 zt_lay8 j40 h7 (T (f + j) - 97)
    have w : zt_wf8 g (zv_sI (zv_sI g (7 + 1) j (T (f + j) - 97)) 7 1 ((j + 1 : Nat) : Int)) := ⟨rfl, rfl, fun r k q1 q2 => (zy_In _ _ q1).trans (zy_In _ _ (fun z => q2 z.1))⟩
    obtain ⟨g', y1, y2, y3, y4⟩ := ih (j + 1) _ (by omega) (zt_tx_w X w) ((w.2.2 _ _ (fun q => absurd q.1 (by decide)) (by decide)).trans h6) (zy_I _ _ _ _) (fun i hi => by
      rw [zy_In _ _ (fun q => absurd q.1 (by decide))]
      by_cases z : i = j
      · rw [z]; exact zy_I _ _ _ _
      · rw [zy_In _ _ (fun q => z q.2)]
        exact h8 i (by omega))
    refine ⟨g', ?_, ⟨y2.1.trans w.1, y2.2.1.trans w.2.1, fun r k q1 q2 => (y2.2.2 r k q1 q2).trans (w.2.2 r k q1 q2)⟩, y3, y4⟩
    rw [qL3_spelled_45, zm_e (zl_gI gL zt_lay5 6), h6, if_pos (Int.ofNat_lt.mpr jE), zm_e (zl_gF gL zt_lay5 1 2), zm_e ba]
    dsimp only
    rw [zt_w97 c, zm_e ea, zt_tkw x7]
    exact y1
/-- the reference spells -/
theorem zt_tw64 {D : Nat} (hs : ∀ i : Nat, f ≤ i → i < E → zt_sm (T i)) (En : E ≤ n) {m0 : Nat} (hm : f + m0 = E) (E40 : m0 ≤ 40) : ∀ (m j : Nat) (k : zv_H), j + m = m0 → zt_ty T n k → zv_I k 347 32 = f → zv_I k 347 19 = m0 → (∀ i : Nat, i < j → zv_I k 360 i = T (f + i) - 97) → ∃ k', L9_takesWord_64 D 347 (j : Int) k = ((C9_reads D 347 k').bind fun g7 => (some (none, g7) : zv_O)) ∧ zm_F [360] [] k k' ∧ ∀ i : Nat, i < m0 → zv_I k' 360 i = T (f + i) - 97 := by
  intro m
  induction m with
  | zero =>
    intro j k he Y h2 h19 h8
    have e : j = m0 := he
    have hM := zt_ty_M Y
    refine ⟨k, ?_, zm_F_r _ _ k, by rw [← e]; exact h8⟩
    rw [qL9_takesWord_64, zm_e (zm_gI hM 19), h19, e, if_neg (Int.lt_irrefl _)]
  | succ m ih =>
    intro j k he Y h2 h19 h8
    have hM := zt_ty_M Y
    have n7 := zt_ty_n Y
    have jE : f + j < E := by omega
    have jm : j < m0 := by omega
    have j700 : j ≤ 700 := by omega
    have fn : f + j < n := Nat.lt_of_lt_of_le jE En
    have c := hs (f + j) (Nat.le_add_right _ _) jE
    have ba := zt_aB8 Y fn
    rw [zt_sb_lt (Int.lt_of_le_of_lt c.2 (by decide))] at ba
    have wf : zv_w ((f : Int) + (j : Int)) = ((f + j : Nat) : Int) := by
      rw [zm_w (by clear c; omega)]
      rfl
    have F : zm_F [360] [] k (zv_sI k 360 j (T (f + j) - 97)) := zm_F_I (zm_F_r _ _ k) rfl _ _
    have Y' : zt_ty T n (zv_sI k 360 j (T (f + j) - 97)) := ⟨zm_F_M F hM, n7, (zm_F_g F 36).trans (zt_ty_l Y), fun i hi => by rw [zm_F_a F 366]; exact zt_ty_t Y i hi, zt_ty_b Y⟩
    obtain ⟨k', y1, y2, y3⟩ := ih (j + 1) (zv_sI k 360 j (T (f + j) - 97)) (by omega) Y' ((zm_F_g F 32).trans h2) ((zm_F_g F 19).trans h19) (fun i hi => by
      by_cases z : i = j
      · rw [z]; exact zy_I _ _ _ _
      · rw [zy_In _ _ (fun q => z q.2)]
        exact h8 i (by omega))
    refine ⟨k', ?_, zm_F_t F y2, y3⟩
    have j40 : (j : Int) < ((700 : Nat) : Int) := Int.ofNat_lt.mpr (Nat.lt_of_lt_of_le jm (Nat.le_trans E40 (by decide)))
    rw [qL9_takesWord_64, zm_e (zm_gI hM 19), h19, if_pos (Int.ofNat_lt.mpr jm), zm_e (zm_f17 hM), zm_e (zm_f26 hM), zm_e (zm_gI hM 32), h2, wf, zm_e ba, zt_w97 c, zm_e (zm_wI hM zm_l360 rfl (Int.natCast_nonneg _) j40 _), Int.toNat_natCast, zt_tkw j700]
    exact y1
end
