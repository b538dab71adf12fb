/-! A65.spell -/
section
/-! ===== the tie: words taken ===== -/
/-- what lies below both halves changed, no more -/
theorem zt_H_lo {a : Nat} {c : Nat → Int} {h h' : zv_H} (H : zt_H a c h) (q : h'.2.2 = h.2.2) (i : ∀ r k, 9 ≤ r → zv_I h' r k = zv_I h r k) : zt_H a c h' := by
  have la := zt_U_la (zt_H_U H)
  have a9 : 9 ≤ a := by have := zc_lh la; omega
  have hn : ∀ n k, zv_I h' (a + n) k = zv_I h (a + n) k := fun n k => i _ k (Nat.le_trans a9 (Nat.le_add_right _ _))
  have V := zt_H_V H
  refine ⟨zt_U_fr (zt_H_U H) q (fun j x k _ _ => i _ k (by unfold zc_stt; split <;> omega)) (hn 5) (hn 0 11) (hn 0 12), zt_J_cg (zt_H_J H) (fun r k r1 r2 => i r k (by omega)), ⟨?_, zt_V_c0 V, zt_V_c5 V, fun j hj => ?_, fun j hj => ?_, zt_V_vb V, zt_V_vd V⟩, zt_N_c (zt_H_N H) ((zt_U_W (zt_H_U H)).2.2.1.2) rfl (fun _ _ _ => rfl) (fun r k r1 r2 => i r k (by omega))⟩
  · rw [hn]; exact zt_V_ct V
  · rw [hn]; exact zt_V_ls V j hj
  · rw [hn]; exact zt_V_lt V j hj
section
variable {T : Nat → Int} {n : Nat} {f E : Nat}
theorem zt_lay7 : zv_lay 7 = (1, 7) := rfl
theorem zt_lay8 : zv_lay 8 = (2, 40) := rfl
/-- but for the word -/
def zt_wf8 (g g' : zv_H) : Prop := g'.1 = g.1 ∧ g'.2.2 = g.2.2 ∧ ∀ r k, ¬ (r = 7 ∧ k = 1) → r ≠ 8 → zv_I g' r k = zv_I g r k
theorem zt_wf8_L {g g' : zv_H} (gL : zt_L g) (f : zt_wf8 g g') : zt_L g' := by
  refine ⟨?_, fun r k h1 h2 => ?_, fun a i h1 h2 => ?_⟩
  · have := gL.1
    unfold zv_n at *
    rw [f.1]
    exact this
  · unfold zv_R
    rw [f.2.1]
    exact gL.2.1 r k h1 h2
  · unfold zv_R
    rw [f.2.1]
    exact gL.2.2 a i h1 h2
theorem zt_tx_w {g g' : zv_H} (X : zt_tx T n g) (f : zt_wf8 g g') : zt_tx T n g' := ⟨zt_wf8_L (zt_tx_L X) f, zt_tx_n X, (f.2.2 _ _ (fun q => absurd q.1 (by decide)) (by decide)).trans (zt_tx_l X), fun i hi => (f.2.2 _ _ (fun q => absurd q.1 (by decide)) (by decide)).trans (zt_tx_t X i hi), zt_tx_b X⟩
theorem zt_w97 {x : Int} (h : zt_sm x) : zv_w (x - 97) = x - 97 := by
  unfold zt_sm at h
  exact zm_w (by omega)
/-- the class spells -/
theorem zt_sp45 {d : Nat} (hs : ∀ i : Nat, f ≤ i → i < E → zt_sm (T i)) (En : E ≤ n) (E40 : E ≤ f + 40) : ∀ (m j : Nat) (g : zv_H), f + j + m = E → zt_tx T n g → zv_I g 5 6 = E → zv_I g 7 1 = j → (∀ i : Nat, i < j → zv_I g 8 i = T (f + i) - 97) → ∃ g', L3_spelled_45 (d + 1) 5 ((f + j : Nat) : Int) g = ((C3_next (d + 1) 5 g').bind fun q5 => (if q5.1 = 0 ∨ q5.1 = 1 then some (some (zv_i q5.1), q5.2) else none : zv_O)) ∧ zt_wf8 g g' ∧ zv_I g' 7 1 = ((E - f : Nat) : Int) ∧ ∀ i : Nat, i < E - f → zv_I g' 8 i = T (f + i) - 97 := by
  intro m
  induction m with
  | zero =>
    intro j g he X h6 h7 h8
    have e : f + j = E := he
    have gL := zt_tx_L X
    have ej : E - f = j := by omega
    refine ⟨g, ?_, ⟨rfl, rfl, fun _ _ _ _ => rfl⟩, by rw [ej]; exact h7, by rw [ej]; exact h8⟩
    rw [qL3_spelled_45, zm_e (zl_gI gL zt_lay5 6), h6, e, if_neg (Int.lt_irrefl _)]
  | succ m ih =>
    intro j g he X h6 h7 h8
    have gL := zt_tx_L X
    have n7 := zt_tx_n X
    have jE : f + j < E := by omega
    have j40 : j < 40 := by omega
    have x7 : f + j ≤ 700 := by omega
    have c := hs (f + j) (Nat.le_add_right _ _) jE
    have ba := zt_byteAt (d := d) X (f + j) x7
    have eb : zt_at8 T n (f + j) = T (f + j) := if_pos (Nat.lt_of_lt_of_le jE En)
    rw [eb] at ba
    have ea := zt_C7_add (d := d) gL zt_lay7 zt_lay8 j40 h7 (T (f + j) - 97)
    have w : zt_wf8 g (zv_sI (zv_sI g (7 + 1) j (T (f + j) - 97)) 7 1 ((j + 1 : Nat) : Int)) := ⟨rfl, rfl, fun r k q1 q2 => (zy_In _ _ q1).trans (zy_In _ _ (fun z => q2 z.1))⟩
    obtain ⟨g', y1, y2, y3, y4⟩ := ih (j + 1) _ (by omega) (zt_tx_w X w) ((w.2.2 _ _ (fun q => absurd q.1 (by decide)) (by decide)).trans h6) (zy_I _ _ _ _) (fun i hi => by
      rw [zy_In _ _ (fun q => absurd q.1 (by decide))]
      by_cases z : i = j
      · rw [z]; exact zy_I _ _ _ _
      · rw [zy_In _ _ (fun q => z q.2)]
        exact h8 i (by omega))
    refine ⟨g', ?_, ⟨y2.1.trans w.1, y2.2.1.trans w.2.1, fun r k q1 q2 => (y2.2.2 r k q1 q2).trans (w.2.2 r k q1 q2)⟩, y3, y4⟩
    rw [qL3_spelled_45, zm_e (zl_gI gL zt_lay5 6), h6, if_pos (Int.ofNat_lt.mpr jE), zm_e (zl_gF gL zt_lay5 1 2), zm_e ba]
    dsimp only
    rw [zt_w97 c, zm_e ea, zt_tkw x7]
    exact y1
/-- the reference spells -/
theorem zt_tw64 {D : Nat} (hs : ∀ i : Nat, f ≤ i → i < E → zt_sm (T i)) (En : E ≤ n) {m0 : Nat} (hm : f + m0 = E) (E40 : m0 ≤ 40) : ∀ (m j : Nat) (k : zv_H), j + m = m0 → zt_ty T n k → zv_I k 347 32 = f → zv_I k 347 19 = m0 → (∀ i : Nat, i < j → zv_I k 360 i = T (f + i) - 97) → ∃ k', L9_takesWord_64 D 347 (j : Int) k = ((C9_reads D 347 k').bind fun g7 => (some (none, g7) : zv_O)) ∧ zm_F [360] [] k k' ∧ ∀ i : Nat, i < m0 → zv_I k' 360 i = T (f + i) - 97 := by
  intro m
  induction m with
  | zero =>
    intro j k he Y h2 h19 h8
    have e : j = m0 := he
    have hM := zt_ty_M Y
    refine ⟨k, ?_, zm_F_r _ _ k, by rw [← e]; exact h8⟩
    rw [qL9_takesWord_64, zm_e (zm_gI hM 19), h19, e, if_neg (Int.lt_irrefl _)]
  | succ m ih =>
    intro j k he Y h2 h19 h8
    have hM := zt_ty_M Y
    have n7 := zt_ty_n Y
    have jE : f + j < E := by omega
    have jm : j < m0 := by omega
    have j700 : j ≤ 700 := by omega
    have fn : f + j < n := Nat.lt_of_lt_of_le jE En
    have c := hs (f + j) (Nat.le_add_right _ _) jE
    have ba := zt_aB8 Y fn
    rw [zt_sb_lt (Int.lt_of_le_of_lt c.2 (by decide))] at ba
    have wf : zv_w ((f : Int) + (j : Int)) = ((f + j : Nat) : Int) := by
      rw [zm_w (by clear c; omega)]
      rfl
    have F : zm_F [360] [] k (zv_sI k 360 j (T (f + j) - 97)) := zm_F_I (zm_F_r _ _ k) rfl _ _
    have Y' : zt_ty T n (zv_sI k 360 j (T (f + j) - 97)) := ⟨zm_F_M F hM, n7, (zm_F_g F 36).trans (zt_ty_l Y), fun i hi => by rw [zm_F_a F 366]; exact zt_ty_t Y i hi, zt_ty_b Y⟩
    obtain ⟨k', y1, y2, y3⟩ := ih (j + 1) (zv_sI k 360 j (T (f + j) - 97)) (by omega) Y' ((zm_F_g F 32).trans h2) ((zm_F_g F 19).trans h19) (fun i hi => by
      by_cases z : i = j
      · rw [z]; exact zy_I _ _ _ _
      · rw [zy_In _ _ (fun q => z q.2)]
        exact h8 i (by omega))
    refine ⟨k', ?_, zm_F_t F y2, y3⟩
    have j40 : (j : Int) < ((700 : Nat) : Int) := Int.ofNat_lt.mpr (Nat.lt_of_lt_of_le jm (Nat.le_trans E40 (by decide)))
    rw [qL9_takesWord_64, zm_e (zm_gI hM 19), h19, if_pos (Int.ofNat_lt.mpr jm), zm_e (zm_f17 hM), zm_e (zm_f26 hM), zm_e (zm_gI hM 32), h2, wf, zm_e ba, zt_w97 c, zm_e (zm_wI hM zm_l360 rfl (Int.natCast_nonneg _) j40 _), Int.toNat_natCast, zt_tkw j700]
    exact y1
end
end
/-! A66.word -/
section
/-! ===== the tie: a word taken, or both fail ===== -/
section
variable {T : Nat → Int} {n : Nat} {g k : zv_H} {f t E : Nat}
theorem zt_F_J38 {A B : List Nat} {h h1 : zv_H} (f : zm_F A B h h1) (hk : B.contains 38 = false := by rfl) : zv_J h1 347 38 = zv_J h 347 38 := f.2.2.2.2.2 347 38 (fun q => by rw [hk] at q; exact absurd q.2 (by decide))
theorem zt_gd_w (G : zt_gd T n g k f t E) {g' k' : zv_H} (w : zt_wf8 g g') (F : zm_F [360] [19] k k') : zt_gd T n g' k' f t E := by
  have Y := zt_gd_Y G
  have i5 : ∀ j, zv_I g' 5 j = zv_I g 5 j := fun j => w.2.2 _ _ (fun q => absurd q.1 (by decide)) (by decide)
  have r := zt_gd_r G
  refine ⟨zt_tx_w (zt_gd_X G) w, ⟨zm_F_M F (zt_ty_M Y), zt_ty_n Y, (zm_F_g F 36).trans (zt_ty_l Y), fun i hi => by rw [zm_F_a F 366]; exact zt_ty_t Y i hi, zt_ty_b Y⟩, zt_gd_k G, zt_gd_t4 G, (i5 5).trans (zt_gd_c5 G), (i5 4).trans (zt_gd_c4 G), (i5 6).trans (zt_gd_c6 G), fun q => (i5 7).trans (zt_gd_c2 G q), fun q => (i5 7).trans (zt_gd_c3 G q), ⟨(zm_F_g F 32).trans r.1, (zm_F_g F 34).trans r.2.1, fun q => (zm_F_g F 33).trans (r.2.2.1 q), fun q => (zm_F_g F 35).trans (r.2.2.2.1 q), fun q => ?_⟩, (i5 8).trans (zt_gd_f1 G), (zm_F_g F 30).trans (zt_gd_f2 G), (i5 9).trans (zt_gd_f9 G)⟩
  rw [zt_F_J38 F]
  exact r.2.2.2.2 q
/-- what a word read changes in the class -/
def zt_lo9 (g g' : zv_H) : Prop := g'.1 = g.1 ∧ g'.2.2 = g.2.2 ∧ ∀ r k, 9 ≤ r → zv_I g' r k = zv_I g r k
theorem zt_lo9_rf {g g' : zv_H} (h : zt_rf g g') : zt_lo9 g g' := ⟨h.1, h.2.1, fun r k hr => h.2.2 r k (fun q => absurd q.1 (by omega))⟩
theorem zt_lo9_w {g g' : zv_H} (h : zt_wf8 g g') : zt_lo9 g g' := ⟨h.1, h.2.1, fun r k hr => h.2.2 r k (fun q => absurd q.1 (by omega)) (by omega)⟩
theorem zt_lo9_t {g g1 g2 : zv_H} (f : zt_lo9 g g1) (h : zt_lo9 g1 g2) : zt_lo9 g g2 := ⟨h.1.trans f.1, h.2.1.trans f.2.1, fun r k q => (h.2.2 r k q).trans (f.2.2 r k q)⟩
theorem zj_word {d D most : Nat} (G : zt_gd T n g k f t E) (hm : most ≤ 40) : ∃ (b : Int) (g' k' : zv_H), C3_spelled (d + 3) 5 (most : Int) g = some (b, g') ∧ C9_takesWord (D + 6) 347 (most : Int) k = some k' ∧ zt_lo9 g g' ∧ zm_F [360] [19, 30, 31, 32, 33, 34, 35, 38] k k' ∧ ((b = 1 ∧ zt_wd 7 (E - f) (zv_I k' 360) g' ∧ zv_I k' 347 19 = ((E - f : Nat) : Int) ∧ t = 1 ∧ E ≤ f + most ∧ ∃ f' t' E', zt_gd T n g' k' f' t' E') ∨ (b = 0 ∧ zt_bd T n g' k')) := by
  have X := zt_gd_X G
  have Y := zt_gd_Y G
  have gL := zt_tx_L X
  have hM := zt_ty_M Y
  have n7 := zt_tx_n X
  have r := zt_gd_r G
  by_cases h1 : t = 1
  · obtain ⟨e0, hk⟩ := zt_gd_k G
    have En := zt_tkn_E hk
    have up : zt_up zt_sm T n f E := by
      rcases hk.2 with ⟨a1, _⟩ | ⟨an, ⟨a1, a2, a3⟩ | ⟨a1, _⟩ | ⟨a1, _⟩ | ⟨a1, _⟩⟩
      · rw [h1] at a1; exact absurd a1 (by decide)
      · exact a3
      · rw [h1] at a1; exact absurd a1 (by decide)
      · rw [h1] at a1; exact absurd a1 (by decide)
      · rw [h1] at a1; exact absurd a1 (by decide)
    have wd := zt_tkd up.1 (Nat.le_trans En (Nat.le_succ_of_le n7))
    have k1 : (t : Int) = 1 := by rw [h1]; rfl
    have e33 := r.2.2.1 (by rw [h1]; decide)
    by_cases c : E ≤ f + most
    · have cI : ((E - f : Nat) : Int) ≤ (most : Int) := Int.ofNat_le.mpr (Nat.sub_le_iff_le_add'.mpr c)
      -- the class
      have ec := zt_C7_clear (d := d + 1) gL zt_lay7
      have w0 : zt_wf8 g (zv_sI g 7 1 0) := ⟨rfl, rfl, fun r k q1 q2 => zy_In _ _ q1⟩
      have X0 := zt_tx_w X w0
      obtain ⟨g1, y1, w1, y3, y4⟩ := zt_sp45 (d := d + 1) (T := T) (f := f) (E := E) up.2.2.1 En (Nat.le_trans c (Nat.add_le_add_left hm f)) (E - f) 0 (zv_sI g 7 1 0) (Nat.add_sub_cancel' up.1) X0 ((w0.2.2 _ _ (fun q => absurd q.1 (by decide)) (by decide)).trans (zt_gd_c6 G)) (zy_I _ _ _ _) (fun i hi => absurd hi (Nat.not_lt_zero _))
      have w01 : zt_wf8 g g1 := ⟨w1.1.trans w0.1, w1.2.1.trans w0.2.1, fun r k q1 q2 => (w1.2.2 r k q1 q2).trans (w0.2.2 r k q1 q2)⟩
      -- the reference
      have F1 : zm_F [] [19] k (zv_sI k 347 19 ((E - f : Nat) : Int)) := zm_F_f (zm_F_r _ _ k) rfl _
      have Y1 : zt_ty T n (zv_sI k 347 19 ((E - f : Nat) : Int)) := ⟨zm_F_M F1 hM, n7, (zm_F_g F1 36).trans (zt_ty_l Y), fun i hi => by rw [zm_F_a F1 366]; exact zt_ty_t Y i hi, zt_ty_b Y⟩
      obtain ⟨k2, z1, F2, z3⟩ := zt_tw64 (D := D + 5) (T := T) (f := f) (E := E) up.2.2.1 En (m0 := E - f) (Nat.add_sub_cancel' up.1) (Nat.le_trans (Nat.sub_le_iff_le_add'.mpr c) hm) (E - f) 0 (zv_sI k 347 19 ((E - f : Nat) : Int)) (Nat.zero_add _) Y1 ((zm_F_g F1 32).trans r.1) (zy_I _ _ _ _) (fun i hi => absurd hi (Nat.not_lt_zero _))
      have F12 : zm_F [360] [19] k k2 := zm_F_t (zm_F_s F1 rfl rfl) (zm_F_s F2 rfl rfl)
      have G2 := zt_gd_w G w01 F12
      obtain ⟨b, g', k', a1, a2, a3, a4, a5⟩ := zj_nx (d := d) (D := D) G2 (by rw [h1]; decide)
      have b01 : b = 0 ∨ b = 1 := by
        rcases a5 with q | q
        · exact Or.inr q.1
        · exact Or.inl q.1
      refine ⟨b, g', k', lC3_spelled (zl_ob gL zt_lay5) ?_, lC9_takesWord (zm_ob hM) ?_, zt_lo9_t (zt_lo9_w w01) (zt_lo9_rf a3), zm_F_t (zm_F_s F12 rfl rfl) (zm_F_s a4 rfl rfl), ?_⟩
      · rw [qE3_spelled, zm_e (zl_gI gL zt_lay5 4), zt_gd_c4 G, if_pos k1, zm_e (zl_gI gL zt_lay5 6), zt_gd_c6 G, zm_e (zl_gI gL zt_lay5 5), zt_gd_c5 G, wd, if_pos cI, zm_e (zl_gF gL zt_lay5 1 2), zm_e ec, zm_e (zl_gI (g := zv_sI g 7 1 0) gL zt_lay5 5), zy_In _ _ (fun q => absurd q.1 (by decide)), zt_gd_c5 G]
        refine (show L3_spelled_45 (d + 2) 5 (f : Int) (zv_sI g 7 1 0) = _ from y1).trans ?_
        rw [zm_e a1]
        exact if_pos b01
      · rw [qE9_takesWord, zm_e (zm_gI hM 34), r.2.1, if_pos k1, qL9_takesWord_14, zm_e (zt_must hM 1 2), zt_ms_1 (by decide), zm_e (zm_gI hM 33), e33, zm_e (zm_gI hM 32), r.1, wd, if_pos cI, qL9_takesWord_37, zm_e (zt_must hM 1 4), zt_ms_1 (by decide), zm_e (zm_gI hM 30), zt_gd_f2 G, if_pos (by decide), zm_e (zm_gI hM 33), e33, zm_e (zm_gI hM 32), r.1, wd, zm_e (zm_pI hM 19 _)]
        refine (show L9_takesWord_64 (D + 5) 347 0 (zv_sI k 347 19 ((E - f : Nat) : Int)) = _ from z1).trans ?_
        rw [zm_e a2]
      · rcases a5 with ⟨q1, q2⟩ | q
        · refine Or.inl ⟨q1, ⟨zt_lay7, zt_lay8, Nat.le_trans (Nat.sub_le_iff_le_add'.mpr c) hm, ?_, fun i hi => ?_⟩, ?_, h1, c, q2⟩
          · rw [zt_rf_i a3 _ _ (fun q => absurd q.1 (by decide))]; exact y3
          · rw [zt_rf_i a3 _ _ (fun q => absurd q.1 (by decide)), zm_F_a a4 360, z3 i hi]
            exact y4 i hi
          · rw [zm_F_g a4 19, zm_F_g F2 19]
            exact zy_I _ _ _ _
        · exact Or.inr q
    · have cI : ¬ ((E - f : Nat) : Int) ≤ (most : Int) := fun q => c (Nat.sub_le_iff_le_add'.mp (Int.ofNat_le.mp q))
      have bd := zj_fail G (w := 4) (by decide)
      have hM2 := zm_F_M (zt_ms_F 0 4 k) hM
      have e30 : ¬ zv_I (zt_ms 0 4 k) 347 30 ≤ 0 := by
        rw [zt_ms_0 (zt_gd_f2 G), if_neg (fun q => absurd q.1 (by decide)), zy_In _ _ (fun q => absurd q.2 (by decide)), zy_I]
        decide
      refine ⟨0, _, _, lC3_spelled (zl_ob gL zt_lay5) ?_, lC9_takesWord (zm_ob hM) ?_, zt_lo9_rf (zt_rf_fail g 4), zm_F_s (zt_ms_F 0 4 k) rfl rfl, Or.inr ⟨rfl, bd⟩⟩
      · rw [qE3_spelled, zm_e (zl_gI gL zt_lay5 4), zt_gd_c4 G, if_pos k1, zm_e (zl_gI gL zt_lay5 6), zt_gd_c6 G, zm_e (zl_gI gL zt_lay5 5), zt_gd_c5 G, wd, if_neg cI, zm_e (zt_fail gL 4), zt_gd_c5 G]
        exact if_pos (Or.inl rfl)
      · rw [qE9_takesWord, zm_e (zm_gI hM 34), r.2.1, if_pos k1, qL9_takesWord_14, zm_e (zt_must hM 1 2), zt_ms_1 (by decide), zm_e (zm_gI hM 33), e33, zm_e (zm_gI hM 32), r.1, wd, if_neg cI, qL9_takesWord_37, zm_e (zt_must hM 0 4), zm_e (zm_gI hM2 30), if_neg e30]
  · have k1 : ¬ (t : Int) = 1 := fun q => h1 (Int.ofNat.inj q)
    have bd := zj_fail G (w := 2) (by decide)
    have hM2 := zm_F_M (zt_ms_F 0 2 k) hM
    have e4 : ¬ ((2 : Int) = 2 ∧ zv_I k 347 34 = 4) := fun q => zt_gd_t4 G (Int.ofNat.inj (r.2.1.symm.trans q.2))
    have e30 : 0 < zv_I (zt_ms 0 2 k) 347 30 := by
      rw [zt_ms_0 (zt_gd_f2 G), if_neg e4, zy_In _ _ (fun q => absurd q.2 (by decide)), zy_I]
      decide
    refine ⟨0, _, zt_ms 0 2 k, lC3_spelled (zl_ob gL zt_lay5) ?_, lC9_takesWord (zm_ob hM) ?_, zt_lo9_rf (zt_rf_fail g 2), zm_F_s (zt_ms_F 0 2 k) rfl rfl, Or.inr ⟨rfl, bd⟩⟩
    · rw [qE3_spelled, zm_e (zl_gI gL zt_lay5 4), zt_gd_c4 G, if_neg k1, zm_e (zt_fail gL 2)]
      exact if_pos (Or.inl rfl)
    · have tail : ∀ v : Int, L9_takesWord_37 (D + 5) 347 347 v (zt_ms 0 2 k) = some (none, zt_ms 0 2 k) := fun v => by
        rw [qL9_takesWord_37, zm_e (zt_must hM2 v 4), zt_ms_f e30, zm_e (zm_gI hM2 30), if_neg (Int.not_le.mpr e30)]
      rw [qE9_takesWord, zm_e (zm_gI hM 34), r.2.1, if_neg k1, qL9_takesWord_14, zm_e (zt_must hM 0 2), zm_e (zm_gI hM2 33), zm_e (zm_gI hM2 32), tail, tail]
      split <;> rfl
end
end
/-! A67.is -/
section
/-! ===== the tie: is it that word, the class ===== -/
def zt_isw (T : Nat → Int) (f t E : Nat) (l : List Int) : Prop := t = 1 ∧ E = f + l.length ∧ ∀ i : Nat, i < l.length → T (f + i) = l.getD i 0
section
variable {T : Nat → Int} {n : Nat} {g k : zv_H} {f t E : Nat}
theorem zt_is28 {d r : Nat} (hr : 1000000 ≤ r ∧ r < 1000024) (X : zt_tx T n g) (h5 : zv_I g 5 5 = f) {l : List Int} (hl : l = zm_tx r) (fE : f + l.length ≤ n) : ∀ (m j : Nat), j + m = l.length → (∀ i : Nat, i < j → T (f + i) = l.getD i 0) → ∃ b : Int, L3_is_28 (d + 3) 5 r (j : Int) g = some (some (zv_i b), g) ∧ ((b = 1 ∧ ∀ i : Nat, i < l.length → T (f + i) = l.getD i 0) ∨ (b = 0 ∧ ¬ ∀ i : Nat, i < l.length → T (f + i) = l.getD i 0)) := by
  have gL := zt_tx_L X
  have n7 := zt_tx_n X
  have es := zm_slen g (d + 1) hr
  have ec : ∀ {i : Int}, 0 ≤ i → i < (l.length : Int) → C13_charAt (d + 3) r i g = some (l.getD i.toNat 0, g) := fun {i} h0 h1 => by
    rw [hl] at h1 ⊢
    exact zm_charAt g d hr h0 h1
  rw [← hl] at es
  clear hr hl
  intro m
  induction m with
  | zero =>
    intro j hj hs
    have e : j = l.length := hj
    refine ⟨1, ?_, Or.inl ⟨rfl, by rw [← e]; exact hs⟩⟩
    rw [qL3_is_28, zm_e es]
    dsimp only
    rw [e, if_neg (Int.lt_irrefl _)]
  | succ m ih =>
    intro j hj hs
    have jl : j < l.length := by omega
    have fj : f + j < n := by omega
    have x7 : f + j ≤ 700 := by omega
    have j7 : j ≤ 700 := by omega
    have jI : (j : Int) < (l.length : Int) := Int.ofNat_lt.mpr jl
    have wf : zv_w ((f : Int) + (j : Int)) = ((f + j : Nat) : Int) := by
      rw [zm_w (by omega)]
      rfl
    have ba := zt_byteAt (d := d + 2) X (f + j) x7
    have eb : zt_at8 T n (f + j) = T (f + j) := if_pos fj
    rw [eb] at ba
    have ch := ec (Int.natCast_nonneg j) jI
    rw [Int.toNat_natCast] at ch
    have top : ∀ {R : zv_O}, (if T (f + j) = l.getD j 0 then L3_is_28 (d + 3) 5 r ((j + 1 : Nat) : Int) g else some (some (zv_i 0), g)) = R → L3_is_28 (d + 3) 5 r (j : Int) g = R := fun {R} hR => by
      rw [qL3_is_28, zm_e es]
      dsimp only
      rw [if_pos jI, zm_e (zl_gI gL zt_lay5 5), h5, wf, zm_e ba]
      dsimp only
      rw [zm_e ch, zt_tkw j7]
      exact hR
    by_cases c : T (f + j) = l.getD j 0
    · rw [if_pos c] at top
      obtain ⟨b, y1, y2⟩ := ih (j + 1) (by clear c; omega) (fun i hi => by
        by_cases z : i = j
        · rw [z]; exact c
        · exact hs i (Nat.lt_of_le_of_ne (Nat.le_of_lt_succ hi) z))
      exact ⟨b, top y1, y2⟩
    · rw [if_neg c] at top
      exact ⟨0, top rfl, Or.inr ⟨rfl, fun q => c (q j jl)⟩⟩
theorem zt_is {d r : Nat} (G : zt_gd T n g k f t E) (hr : 1000000 ≤ r ∧ r < 1000024) : ∃ b : Int, C3_is (d + 4) 5 r g = some (b, g) ∧ ((b = 1 ∧ zt_isw T f t E (zm_tx r)) ∨ (b = 0 ∧ ¬ zt_isw T f t E (zm_tx r))) := by
  have X := zt_gd_X G
  have gL := zt_tx_L X
  have n7 := zt_tx_n X
  obtain ⟨e0, hk⟩ := zt_gd_k G
  have En := zt_tkn_E hk
  have c5 := zt_gd_c5 G
  have c4 := zt_gd_c4 G
  have c6 := zt_gd_c6 G
  have es := zm_slen g (d + 1) hr
  obtain ⟨l, hl⟩ : ∃ l, l = zm_tx r := ⟨_, rfl⟩
  have loop := fun h => zt_is28 (d := d) hr X c5 hl h l.length 0 (Nat.zero_add _) (fun i hi => absurd hi (Nat.not_lt_zero _))
  rw [← hl] at es ⊢
  unfold zt_isw
  clear hr hl
  by_cases h1 : t = 1
  · have k1 : (t : Int) = 1 := by rw [h1]; rfl
    have fE : f ≤ E := by
      rcases hk.2 with ⟨a1, _⟩ | ⟨an, ⟨a1, a2, a3⟩ | ⟨a1, _⟩ | ⟨a1, _⟩ | ⟨a1, _⟩⟩
      · rw [h1] at a1; exact absurd a1 (by decide)
      · exact a3.1
      · rw [h1] at a1; exact absurd a1 (by decide)
      · rw [h1] at a1; exact absurd a1 (by decide)
      · rw [h1] at a1; exact absurd a1 (by decide)
    have wd := zt_tkd fE (Nat.le_trans En (Nat.le_succ_of_le n7))
    by_cases c : E = f + l.length
    · have ef : E - f = l.length := by rw [c]; exact Nat.add_sub_cancel_left _ _
      obtain ⟨b, y1, y2⟩ := loop (by rw [← c]; exact En)
      refine ⟨b, lC3_is (zl_ob gL zt_lay5) ?_, ?_⟩
      · rw [qE3_is, zm_e (zl_gI gL zt_lay5 4), c4, if_pos k1, zm_e (zl_gI gL zt_lay5 6), c6, zm_e (zl_gI gL zt_lay5 5), c5, zm_e es]
        dsimp only
        rw [wd, ef, if_pos rfl]
        exact y1
      · rcases y2 with ⟨q1, q2⟩ | ⟨q1, q2⟩
        · exact Or.inl ⟨q1, h1, c, q2⟩
        · exact Or.inr ⟨q1, fun q => q2 q.2.2⟩
    · refine ⟨0, lC3_is (zl_ob gL zt_lay5) ?_, Or.inr ⟨rfl, fun q => c q.2.1⟩⟩
      have ne : ¬ ((E - f : Nat) : Int) = (l.length : Int) := fun q => c (by
        have := Int.ofNat.inj q
        rw [← this]
        exact (Nat.add_sub_cancel' fE).symm)
      rw [qE3_is, zm_e (zl_gI gL zt_lay5 4), c4, if_pos k1, zm_e (zl_gI gL zt_lay5 6), c6, zm_e (zl_gI gL zt_lay5 5), c5, zm_e es]
      dsimp only
      rw [wd, if_neg ne]
  · refine ⟨0, lC3_is (zl_ob gL zt_lay5) ?_, Or.inr ⟨rfl, fun q => h1 q.1⟩⟩
    rw [qE3_is, zm_e (zl_gI gL zt_lay5 4), c4, if_neg (show ¬ (t : Int) = 1 from fun q => h1 (Int.ofNat.inj q))]
end
end
/-! A68.code -/
section
/-! ===== the tie: words as numbers in base 27 ===== -/
/-- the last letter first, a as 1 -/
def zt_v27 : List Int → Int
  | [] => 0
  | x :: r => 27 * zt_v27 r + x
theorem zt_v27_0 : ∀ {r : List Int}, (∀ x ∈ r, 1 ≤ x ∧ x ≤ 26) → 0 ≤ zt_v27 r
  | [], _ => Int.le_refl _
  | x :: r, h => by
    have ih := zt_v27_0 (r := r) (fun y hy => h y (List.mem_cons_of_mem _ hy))
    have hx := h x List.mem_cons_self
    show 0 ≤ 27 * zt_v27 r + x
    generalize zt_v27 r = v at *
    clear h
    omega
theorem zt_v27_inj : ∀ {r s : List Int}, (∀ x ∈ r, 1 ≤ x ∧ x ≤ 26) → (∀ x ∈ s, 1 ≤ x ∧ x ≤ 26) → zt_v27 r = zt_v27 s → r = s
  | [], [], _, _, _ => rfl
  | [], y :: s, _, h2, e => by
    have v := zt_v27_0 (r := s) (fun z hz => h2 z (List.mem_cons_of_mem _ hz))
    have hy := h2 y List.mem_cons_self
    have e' : (0 : Int) = 27 * zt_v27 s + y := e
    generalize zt_v27 s = w at *
    clear h2 e
    omega
  | x :: r, [], h1, _, e => by
    have v := zt_v27_0 (r := r) (fun z hz => h1 z (List.mem_cons_of_mem _ hz))
    have hx := h1 x List.mem_cons_self
    have e' : 27 * zt_v27 r + x = (0 : Int) := e
    generalize zt_v27 r = w at *
    clear h1 e
    omega
  | x :: r, y :: s, h1, h2, e => by
    have hx := h1 x List.mem_cons_self
    have hy := h2 y List.mem_cons_self
    have e' : 27 * zt_v27 r + x = 27 * zt_v27 s + y := e
    have e2 : x = y ∧ zt_v27 r = zt_v27 s := by
      generalize zt_v27 r = v at *
      generalize zt_v27 s = w at *
      clear h1 h2 e
      omega
    rw [e2.1, zt_v27_inj (fun z hz => h1 z (List.mem_cons_of_mem _ hz)) (fun z hz => h2 z (List.mem_cons_of_mem _ hz)) e2.2]
def zt_b27 : Nat → Int
  | 0 => 0
  | j + 1 => 27 * zt_b27 j + 26
theorem zt_v27_b : ∀ {r : List Int}, (∀ x ∈ r, 1 ≤ x ∧ x ≤ 26) → zt_v27 r ≤ zt_b27 r.length
  | [], _ => Int.le_refl _
  | x :: r, h => by
    have ih := zt_v27_b (r := r) (fun y hy => h y (List.mem_cons_of_mem _ hy))
    have hx := h x List.mem_cons_self
    show 27 * zt_v27 r + x ≤ 27 * zt_b27 r.length + 26
    generalize zt_v27 r = v at *
    generalize zt_b27 r.length = w at *
    clear h
    omega
theorem zt_b27_9 : ∀ j : Nat, j ≤ 9 → zt_b27 j ≤ 7625597484986
  | 0, _ => by decide
  | 1, _ => by decide
  | 2, _ => by decide
  | 3, _ => by decide
  | 4, _ => by decide
  | 5, _ => by decide
  | 6, _ => by decide
  | 7, _ => by decide
  | 8, _ => by decide
  | 9, _ => by decide
  | j + 10, h => absurd h (by omega)
/-- the letters that stand there, the last first -/
def zt_rl8 (T : Nat → Int) (f : Nat) : Nat → List Int
  | 0 => []
  | j + 1 => (T (f + j) - 96) :: zt_rl8 T f j
theorem zt_rl8_len (T : Nat → Int) (f : Nat) : ∀ j, (zt_rl8 T f j).length = j
  | 0 => rfl
  | j + 1 => by
    show (zt_rl8 T f j).length + 1 = j + 1
    rw [zt_rl8_len T f j]
theorem zt_rl8_ok {T : Nat → Int} {f : Nat} : ∀ j, (∀ i : Nat, f ≤ i → i < f + j → zt_sm (T i)) → ∀ x ∈ zt_rl8 T f j, 1 ≤ x ∧ x ≤ 26
  | 0, _, x, hx => by cases hx
  | j + 1, h, x, hx => by
    rcases List.mem_cons.mp hx with q | q
    · have := h (f + j) (Nat.le_add_right _ _) (Nat.lt_succ_self _)
      unfold zt_sm at this
      rw [q]
      clear h hx q
      omega
    · exact zt_rl8_ok j (fun i h1 h2 => h i h1 (Nat.lt_succ_of_lt h2)) x q
theorem zt_rl8_inj {T : Nat → Int} {f : Nat} {l : List Int} : ∀ j, zt_rl8 T f j = (l.reverse.map fun x => x - 96) → j = l.length ∧ ∀ i : Nat, i < j → (zt_rl8 T f j)[j - 1 - i]? = some (T (f + i) - 96) := fun j e => by
  refine ⟨?_, ?_⟩
  · have h := congrArg List.length e
    rw [zt_rl8_len, List.length_map, List.length_reverse] at h
    exact h
  · clear e
    induction j with
    | zero => intro i hi; exact absurd hi (Nat.not_lt_zero _)
    | succ j ih =>
      intro i hi
      by_cases z : i = j
      · rw [z, show j + 1 - 1 - j = 0 by omega]
        rfl
      · have ij : i < j := by omega
        rw [show j + 1 - 1 - i = (j - 1 - i) + 1 by omega]
        exact ih i ij
end
/-! A69.code2 -/
section
/-! ===== the tie: the reference's number of a word ===== -/
theorem zt_i2l : ∀ m : Nat, m ≤ 25 → zv_i2l (97 + (m : Int)) = Int64.ofInt (97 + (m : Int)) := by decide +kernel
theorem zt_i2l_sm {x : Int} (h : zt_sm x) : zv_i2l x = Int64.ofInt x := by
  obtain ⟨m, hm⟩ : ∃ m : Nat, x = 97 + (m : Int) := ⟨(x - 97).toNat, by unfold zt_sm at h; omega⟩
  have m25 : m ≤ 25 := by unfold zt_sm at h; omega
  rw [hm]
  exact zt_i2l m m25
theorem zt_cdw_v {T : Nat → Int} {f : Nat} : ∀ j, (∀ i : Nat, f ≤ i → i < f + j → zt_sm (T i)) → zt_cdw T f j = Int64.ofInt (zt_v27 (zt_rl8 T f j))
  | 0, _ => rfl
  | j + 1, h => by
    have ih := zt_cdw_v j (fun i h1 h2 => h i h1 (Nat.lt_succ_of_lt h2))
    have hx := zt_i2l_sm (h (f + j) (Nat.le_add_right _ _) (Nat.lt_succ_self _))
    show (27 : Int64) * zt_cdw T f j + zv_i2l (T (f + j)) - 96 = Int64.ofInt (27 * zt_v27 (zt_rl8 T f j) + (T (f + j) - 96))
    rw [ih, hx, ← Int.add_sub_assoc, Int64.ofInt_sub, Int64.ofInt_add, Int64.ofInt_mul]
    rfl
/-- two words of at most nine letters: their numbers tell them apart -/
theorem zt_cdw_eq {T : Nat → Int} {f j : Nat} (h : ∀ i : Nat, f ≤ i → i < f + j → zt_sm (T i)) (j9 : j ≤ 9) {l : List Int} (hl : ∀ x ∈ l, 1 ≤ x ∧ x ≤ 26) (l9 : l.length ≤ 9) : zt_cdw T f j = Int64.ofInt (zt_v27 l) ↔ zt_rl8 T f j = l := by
  have ok := zt_rl8_ok j h
  rw [zt_cdw_v j h]
  constructor
  · intro e
    have a0 := zt_v27_0 ok
    have a1 := zt_v27_b ok
    rw [zt_rl8_len] at a1
    have b0 := zt_v27_0 hl
    have b1 := zt_v27_b hl
    have a2 := zt_b27_9 j j9
    have b2 := zt_b27_9 l.length l9
    have e2 := congrArg Int64.toInt e
    have lo : ∀ {v : Int}, 0 ≤ v → v ≤ 7625597484986 → Int64.toInt (Int64.ofInt v) = v := fun {v} h0 h1 => Int64.toInt_ofInt_of_le (Int.le_trans (by decide) h0) (Int.lt_of_le_of_lt h1 (by decide))
    rw [lo a0 (Int.le_trans a1 a2), lo b0 (Int.le_trans b1 b2)] at e2
    exact zt_v27_inj ok hl e2
  · intro e
    rw [e]
end
/-! A70.which -/
section
/-! ===== the tie: which word it is, the reference ===== -/
theorem zt_lcmp_r (x : Int64) : zv_lcmp x x = 0 := by
  unfold zv_lcmp
  exact if_pos rfl
/-- the word that is looked at is W -/
def zt_isC (T : Nat → Int) (f t E : Nat) (W : List Int) : Prop := t = 1 ∧ E ≤ f + 8 ∧ zt_rl8 T f (E - f) = W
section
variable {T : Nat → Int} {n : Nat} {g k : zv_H} {f t E : Nat}
theorem zt_which_l {d r L : Nat} (G : zt_gd T n g k f t E) (hl : zv_lay r = (5, L)) (hr : Nat.ble r 372 = true) (hL : L ≤ 100) {W : Nat → List Int} (hW : ∀ j : Nat, j < L → zv_J k r j = Int64.ofInt (zt_v27 (W j)) ∧ (∀ x ∈ W j, 1 ≤ x ∧ x ≤ 26) ∧ (W j).length ≤ 8) : ∀ m i : Nat, i + m = L → ∃ v : Int, L9_which_2 d 347 r i k = some (some (zv_i v), k) ∧ ((v = -1 ∧ ∀ j : Nat, i ≤ j → j < L → ¬ zt_isC T f t E (W j)) ∨ ∃ j : Nat, v = (j : Int) ∧ i ≤ j ∧ j < L ∧ zt_isC T f t E (W j) ∧ ∀ j' : Nat, i ≤ j' → j' < j → ¬ zt_isC T f t E (W j')) := by
  have hM := zt_ty_M (zt_gd_Y G)
  have n7 := zt_tx_n (zt_gd_X G)
  have r' := zt_gd_r G
  obtain ⟨e0, hk⟩ := zt_gd_k G
  have En := zt_tkn_E hk
  intro m
  induction m with
  | zero =>
    intro i hi
    have e : i = L := hi
    subst e
    refine ⟨-1, ?_, Or.inl ⟨rfl, fun j h1 h2 => absurd h2 (Nat.not_lt.mpr h1)⟩⟩
    rw [qL9_which_2, zm_e (zm_al hM hl rfl hr), if_neg (Int.lt_irrefl _)]
  | succ m ih =>
    intro i hi
    have iL : i < L := by omega
    have iI : (i : Int) < (L : Int) := Int.ofNat_lt.mpr iL
    have w1 : zv_w ((i : Int) + 1) = ((i + 1 : Nat) : Int) := zt_tkw (by omega)
    obtain ⟨v, e, q⟩ := ih (i + 1) (by omega)
    have skip : ¬ zt_isC T f t E (W i) → L9_which_2 d 347 r i k = L9_which_2 d 347 r ((i + 1 : Nat) : Int) k → ∃ v : Int, L9_which_2 d 347 r i k = some (some (zv_i v), k) ∧ ((v = -1 ∧ ∀ j : Nat, i ≤ j → j < L → ¬ zt_isC T f t E (W j)) ∨ ∃ j : Nat, v = (j : Int) ∧ i ≤ j ∧ j < L ∧ zt_isC T f t E (W j) ∧ ∀ j' : Nat, i ≤ j' → j' < j → ¬ zt_isC T f t E (W j')) := fun no go => by
      have ext : ∀ j : Nat, i ≤ j → (i + 1 ≤ j → ¬ zt_isC T f t E (W j)) → ¬ zt_isC T f t E (W j) := fun j h1 h2 => by
        by_cases z : j = i
        · rw [z]; exact no
        · exact h2 (Nat.lt_of_le_of_ne h1 (fun w => z w.symm))
      refine ⟨v, go.trans e, ?_⟩
      rcases q with ⟨q1, q2⟩ | ⟨j, q1, q2, q3, q4, q5⟩
      · exact Or.inl ⟨q1, fun j h1 h2 => ext j h1 (fun h => q2 j h h2)⟩
      · exact Or.inr ⟨j, q1, Nat.le_of_succ_le q2, q3, q4, fun j' h1 h2 => ext j' h1 (fun h => q5 j' h h2)⟩
    by_cases c1 : t = 1
    · have k1 : (t : Int) = 1 := by rw [c1]; rfl
      have up : zt_up zt_sm T n f E := by
        rcases hk.2 with ⟨a1, _⟩ | ⟨an, ⟨a1, a2, a3⟩ | ⟨a1, _⟩ | ⟨a1, _⟩ | ⟨a1, _⟩⟩
        · rw [c1] at a1; exact absurd a1 (by decide)
        · exact a3
        · rw [c1] at a1; exact absurd a1 (by decide)
        · rw [c1] at a1; exact absurd a1 (by decide)
        · rw [c1] at a1; exact absurd a1 (by decide)
      have wd := zt_tkd up.1 (Nat.le_trans En (Nat.le_succ_of_le n7))
      obtain ⟨w, wok, w8⟩ := hW i iL
      have hJ := r'.2.2.2.2 c1
      have e33 := r'.2.2.1 (by rw [c1]; decide)
      have top : L9_which_2 d 347 r i k = if zv_lcmp (Int64.ofInt (zt_v27 (W i))) (zt_cdw T f (min (E - f) 9)) = 0 then (if ((E - f : Nat) : Int) ≤ 8 then (some (some (zv_i (i : Int)), k) : zv_O) else L9_which_2 d 347 r ((i + 1 : Nat) : Int) k) else L9_which_2 d 347 r ((i + 1 : Nat) : Int) k := by
        rw [qL9_which_2, zm_e (zm_al hM hl rfl hr), if_pos iI, zm_e (zm_gI hM 34), r'.2.1, if_pos k1, zm_e (zm_gI hM 30), zt_gd_f2 G, if_pos rfl, zm_e (zm_aJ hM hl hr (Int.natCast_nonneg _) iI), Int.toNat_natCast, w, zm_e (zm_gJ hM 38), hJ, w1, zm_e (zm_gI hM 33), e33, zm_e (zm_gI hM 32), r'.1, wd]
      by_cases c8 : E - f ≤ 8
      · have fE8 : E ≤ f + 8 := Nat.sub_le_iff_le_add'.mp c8
        rw [Nat.min_eq_left (Nat.le_succ_of_le c8), if_pos (show ((E - f : Nat) : Int) ≤ 8 from Int.ofNat_le.mpr c8)] at top
        have iff := zt_cdw_eq (T := T) (f := f) (j := E - f) (fun x h1 h2 => up.2.2.1 x h1 (by rw [Nat.add_sub_cancel' up.1] at h2; exact h2)) (Nat.le_succ_of_le c8) wok (Nat.le_succ_of_le w8)
        by_cases c : zt_rl8 T f (E - f) = W i
        · rw [iff.mpr c, if_pos (zt_lcmp_r _)] at top
          exact ⟨i, top, Or.inr ⟨i, rfl, Nat.le_refl _, iL, ⟨c1, fE8, c⟩, fun j' h1 h2 => absurd h2 (Nat.not_lt.mpr h1)⟩⟩
        · rw [if_neg (fun z => c (iff.mp (zm_lcmp0 z).symm))] at top
          exact skip (fun z => c z.2.2) top
      · have n8 : ¬ ((E - f : Nat) : Int) ≤ 8 := fun z => c8 (Int.ofNat_le.mp z)
        rw [if_neg n8] at top
        refine skip (fun z => c8 (Nat.sub_le_iff_le_add'.mpr z.2.1)) (top.trans ?_)
        split <;> rfl
    · have k1 : ¬ (t : Int) = 1 := fun q => c1 (Int.ofNat.inj q)
      refine ⟨-1, ?_, Or.inl ⟨rfl, fun j _ _ z => c1 z.1⟩⟩
      rw [qL9_which_2, zm_e (zm_al hM hl rfl hr), if_pos iI, zm_e (zm_gI hM 34), r'.2.1, if_neg k1]
end
end
/-! A71.isw -/
section
/-! ===== the tie: a word, on both sides the same ===== -/
theorem zt_rl8_get {T : Nat → Int} {f : Nat} : ∀ j m : Nat, m < j → (zt_rl8 T f j)[m]? = some (T (f + (j - 1 - m)) - 96)
  | 0, m, h => absurd h (Nat.not_lt_zero _)
  | j + 1, 0, _ => rfl
  | j + 1, m + 1, h => by
    have ih := zt_rl8_get (T := T) (f := f) j m (Nat.lt_of_succ_lt_succ h)
    rw [show j + 1 - 1 - (m + 1) = j - 1 - m by omega, ← ih]
    rfl
theorem zt_rm_get {l : List Int} {m : Nat} (h : m < l.length) : (l.reverse.map fun x => x - 96)[m]? = some (l.getD (l.length - 1 - m) 0 - 96) := by
  have h2 : l.length - 1 - m < l.length := by omega
  rw [List.getElem?_map, List.getElem?_reverse h, List.getD_eq_getElem?_getD, List.getElem?_eq_getElem h2]
  rfl
theorem zt_rl8_w {T : Nat → Int} {f : Nat} {l : List Int} : (∀ i : Nat, i < l.length → T (f + i) = l.getD i 0) ↔ zt_rl8 T f l.length = l.reverse.map fun x => x - 96 := by
  constructor
  · intro h
    refine List.ext_getElem? (fun m => ?_)
    by_cases c : m < l.length
    · rw [zt_rl8_get _ _ c, zt_rm_get c, h _ (by omega)]
    · rw [List.getElem?_eq_none (by rw [zt_rl8_len]; omega), List.getElem?_eq_none (by rw [List.length_map, List.length_reverse]; omega)]
  · intro e i hi
    have c : l.length - 1 - i < l.length := by omega
    have a := zt_rl8_get (T := T) (f := f) l.length (l.length - 1 - i) c
    rw [e, zt_rm_get c, show l.length - 1 - (l.length - 1 - i) = i by omega] at a
    have b := Option.some.inj a
    generalize T (f + i) = x at *
    generalize l.getD i 0 = y at *
    clear a
    omega
theorem zt_isw_C {T : Nat → Int} {f t E : Nat} {l : List Int} (l8 : l.length ≤ 8) (fE : t = 1 → f ≤ E) : zt_isw T f t E l ↔ zt_isC T f t E (l.reverse.map fun x => x - 96) := by
  unfold zt_isw zt_isC
  constructor
  · rintro ⟨h1, h2, h3⟩
    refine ⟨h1, by rw [h2]; exact Nat.add_le_add_left l8 f, ?_⟩
    rw [h2, Nat.add_sub_cancel_left]
    exact zt_rl8_w.mp h3
  · rintro ⟨h1, h2, h3⟩
    have el : E - f = l.length := by
      have := congrArg List.length h3
      rw [zt_rl8_len, List.length_map, List.length_reverse] at this
      exact this
    rw [el] at h3
    exact ⟨h1, by rw [← el]; exact (Nat.add_sub_cancel' (fE h1)).symm, zt_rl8_w.mpr h3⟩
end
/-! A72.verb -/
section
/-! ===== the tie: the verb of a LINE, the class ===== -/
section
variable {T : Nat → Int} {n : Nat} {g k : zv_H} {f t E : Nat}
theorem zt_verbHere {d : Nat} (G : zt_gd T n g k f t E) : ∃ v : Int, C3_verbHere (d + 5) 5 g = some (v, g) ∧ ((v = -1 ∧ ∀ j : Nat, j < 12 → ¬ zt_isw T f t E (zm_tx (1000011 + j))) ∨ ∃ j : Nat, v = (j : Int) ∧ j < 12 ∧ zt_isw T f t E (zm_tx (1000011 + j)) ∧ ∀ i : Nat, i < j → ¬ zt_isw T f t E (zm_tx (1000011 + i))) := by
  have gL := zt_tx_L (zt_gd_X G)
  suffices h : ∃ v : Int, E3_verbHere (d + 4) 5 g = some (some (zv_i v), g) ∧ ((v = -1 ∧ ∀ j : Nat, j < 12 → ¬ zt_isw T f t E (zm_tx (1000011 + j))) ∨ ∃ j : Nat, v = (j : Int) ∧ j < 12 ∧ zt_isw T f t E (zm_tx (1000011 + j)) ∧ ∀ i : Nat, i < j → ¬ zt_isw T f t E (zm_tx (1000011 + i))) by
    obtain ⟨v, e, q⟩ := h
    exact ⟨v, lC3_verbHere (zl_ob gL zt_lay5) e, q⟩
  rw [qE3_verbHere]
  have no0 : ∀ i : Nat, i < 0 → ¬ zt_isw T f t E (zm_tx (1000011 + i)) := fun i hi => absurd hi (Nat.not_lt_zero _)
  obtain ⟨b0, e0, q0⟩ := zt_is (d := d) (r := 1000011) G (by decide)
  rw [zm_e e0]
  dsimp only
  rcases q0 with ⟨p0, w0⟩ | ⟨p0, w0⟩
  · rw [p0, if_neg (by decide)]
    exact ⟨0, rfl, Or.inr ⟨0, rfl, by decide, w0, no0⟩⟩
  rw [p0, if_pos rfl]
  have no1 : ∀ i : Nat, i < 1 → ¬ zt_isw T f t E (zm_tx (1000011 + i)) := fun i hi => (Nat.lt_succ_iff_lt_or_eq.mp hi).elim (no0 i) (fun z => by rw [z]; exact w0)
  obtain ⟨b1, e1, q1⟩ := zt_is (d := d) (r := 1000012) G (by decide)
  rw [zm_e e1]
  dsimp only
  rcases q1 with ⟨p1, w1⟩ | ⟨p1, w1⟩
  · rw [p1, if_neg (by decide)]
    exact ⟨1, rfl, Or.inr ⟨1, rfl, by decide, w1, no1⟩⟩
  rw [p1, if_pos rfl]
  have no2 : ∀ i : Nat, i < 2 → ¬ zt_isw T f t E (zm_tx (1000011 + i)) := fun i hi => (Nat.lt_succ_iff_lt_or_eq.mp hi).elim (no1 i) (fun z => by rw [z]; exact w1)
  obtain ⟨b2, e2, q2⟩ := zt_is (d := d) (r := 1000013) G (by decide)
  rw [zm_e e2]
  dsimp only
  rcases q2 with ⟨p2, w2⟩ | ⟨p2, w2⟩
  · rw [p2, if_neg (by decide)]
    exact ⟨2, rfl, Or.inr ⟨2, rfl, by decide, w2, no2⟩⟩
  rw [p2, if_pos rfl]
  have no3 : ∀ i : Nat, i < 3 → ¬ zt_isw T f t E (zm_tx (1000011 + i)) := fun i hi => (Nat.lt_succ_iff_lt_or_eq.mp hi).elim (no2 i) (fun z => by rw [z]; exact w2)
  obtain ⟨b3, e3, q3⟩ := zt_is (d := d) (r := 1000014) G (by decide)
  rw [zm_e e3]
  dsimp only
  rcases q3 with ⟨p3, w3⟩ | ⟨p3, w3⟩
  · rw [p3, if_neg (by decide)]
    exact ⟨3, rfl, Or.inr ⟨3, rfl, by decide, w3, no3⟩⟩
  rw [p3, if_pos rfl]
  have no4 : ∀ i : Nat, i < 4 → ¬ zt_isw T f t E (zm_tx (1000011 + i)) := fun i hi => (Nat.lt_succ_iff_lt_or_eq.mp hi).elim (no3 i) (fun z => by rw [z]; exact w3)
  obtain ⟨b4, e4, q4⟩ := zt_is (d := d) (r := 1000015) G (by decide)
  rw [zm_e e4]
  dsimp only
  rcases q4 with ⟨p4, w4⟩ | ⟨p4, w4⟩
  · rw [p4, if_neg (by decide)]
    exact ⟨4, rfl, Or.inr ⟨4, rfl, by decide, w4, no4⟩⟩
  rw [p4, if_pos rfl]
  have no5 : ∀ i : Nat, i < 5 → ¬ zt_isw T f t E (zm_tx (1000011 + i)) := fun i hi => (Nat.lt_succ_iff_lt_or_eq.mp hi).elim (no4 i) (fun z => by rw [z]; exact w4)
  obtain ⟨b5, e5, q5⟩ := zt_is (d := d) (r := 1000016) G (by decide)
  rw [zm_e e5]
  dsimp only
  rcases q5 with ⟨p5, w5⟩ | ⟨p5, w5⟩
  · rw [p5, if_neg (by decide)]
    exact ⟨5, rfl, Or.inr ⟨5, rfl, by decide, w5, no5⟩⟩
  rw [p5, if_pos rfl]
  have no6 : ∀ i : Nat, i < 6 → ¬ zt_isw T f t E (zm_tx (1000011 + i)) := fun i hi => (Nat.lt_succ_iff_lt_or_eq.mp hi).elim (no5 i) (fun z => by rw [z]; exact w5)
  obtain ⟨b6, e6, q6⟩ := zt_is (d := d) (r := 1000017) G (by decide)
  rw [zm_e e6]
  dsimp only
  rcases q6 with ⟨p6, w6⟩ | ⟨p6, w6⟩
  · rw [p6, if_neg (by decide)]
    exact ⟨6, rfl, Or.inr ⟨6, rfl, by decide, w6, no6⟩⟩
  rw [p6, if_pos rfl]
  have no7 : ∀ i : Nat, i < 7 → ¬ zt_isw T f t E (zm_tx (1000011 + i)) := fun i hi => (Nat.lt_succ_iff_lt_or_eq.mp hi).elim (no6 i) (fun z => by rw [z]; exact w6)
  obtain ⟨b7, e7, q7⟩ := zt_is (d := d) (r := 1000018) G (by decide)
  rw [zm_e e7]
  dsimp only
  rcases q7 with ⟨p7, w7⟩ | ⟨p7, w7⟩
  · rw [p7, if_neg (by decide)]
    exact ⟨7, rfl, Or.inr ⟨7, rfl, by decide, w7, no7⟩⟩
  rw [p7, if_pos rfl]
  have no8 : ∀ i : Nat, i < 8 → ¬ zt_isw T f t E (zm_tx (1000011 + i)) := fun i hi => (Nat.lt_succ_iff_lt_or_eq.mp hi).elim (no7 i) (fun z => by rw [z]; exact w7)
  obtain ⟨b8, e8, q8⟩ := zt_is (d := d) (r := 1000019) G (by decide)
  rw [zm_e e8]
  dsimp only
  rcases q8 with ⟨p8, w8⟩ | ⟨p8, w8⟩
  · rw [p8, if_neg (by decide)]
    exact ⟨8, rfl, Or.inr ⟨8, rfl, by decide, w8, no8⟩⟩
  rw [p8, if_pos rfl]
  have no9 : ∀ i : Nat, i < 9 → ¬ zt_isw T f t E (zm_tx (1000011 + i)) := fun i hi => (Nat.lt_succ_iff_lt_or_eq.mp hi).elim (no8 i) (fun z => by rw [z]; exact w8)
  obtain ⟨b9, e9, q9⟩ := zt_is (d := d) (r := 1000020) G (by decide)
  rw [zm_e e9]
  dsimp only
  rcases q9 with ⟨p9, w9⟩ | ⟨p9, w9⟩
  · rw [p9, if_neg (by decide)]
    exact ⟨9, rfl, Or.inr ⟨9, rfl, by decide, w9, no9⟩⟩
  rw [p9, if_pos rfl]
  have no10 : ∀ i : Nat, i < 10 → ¬ zt_isw T f t E (zm_tx (1000011 + i)) := fun i hi => (Nat.lt_succ_iff_lt_or_eq.mp hi).elim (no9 i) (fun z => by rw [z]; exact w9)
  obtain ⟨b10, e10, q10⟩ := zt_is (d := d) (r := 1000021) G (by decide)
  rw [zm_e e10]
  dsimp only
  rcases q10 with ⟨p10, w10⟩ | ⟨p10, w10⟩
  · rw [p10, if_neg (by decide)]
    exact ⟨10, rfl, Or.inr ⟨10, rfl, by decide, w10, no10⟩⟩
  rw [p10, if_pos rfl]
  have no11 : ∀ i : Nat, i < 11 → ¬ zt_isw T f t E (zm_tx (1000011 + i)) := fun i hi => (Nat.lt_succ_iff_lt_or_eq.mp hi).elim (no10 i) (fun z => by rw [z]; exact w10)
  obtain ⟨b11, e11, q11⟩ := zt_is (d := d) (r := 1000022) G (by decide)
  rw [zm_e e11]
  dsimp only
  rcases q11 with ⟨p11, w11⟩ | ⟨p11, w11⟩
  · rw [p11, if_neg (by decide)]
    exact ⟨11, rfl, Or.inr ⟨11, rfl, by decide, w11, no11⟩⟩
  rw [p11, if_pos rfl]
  have no12 : ∀ i : Nat, i < 12 → ¬ zt_isw T f t E (zm_tx (1000011 + i)) := fun i hi => (Nat.lt_succ_iff_lt_or_eq.mp hi).elim (no11 i) (fun z => by rw [z]; exact w11)
  exact ⟨-1, rfl, Or.inl ⟨rfl, no12⟩⟩
end
end
