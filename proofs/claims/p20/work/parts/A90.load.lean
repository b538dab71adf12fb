/-! ===== the tie: a TEXT is loaded: what is between two calls ===== -/
theorem zt_U_9 {a : Nat} {c : Nat → Int} {h h' : zv_H} (t : zt_U a c h) (fI : ∀ r k, 9 ≤ r → zv_I h' r k = zv_I h r k) (fJ : ∀ r k, 9 ≤ r → zv_J h' r k = zv_J h r k) (fR : ∀ r k, 9 ≤ r → zv_R h' r k = zv_R h r k) : zt_U a c h' := by
  have la := zt_U_la t
  have a9 := zc_lh la
  have r9 : ∀ s, zm_st c s → 9 ≤ zt_r a s := fun s hs => by
    rw [zt_r_p hs.1.1]
    have := zc_sttb (a := a) (show s.toNat < 48 by have := hs.1; omega)
    omega
  have eI : ∀ s, zm_st c s → ∀ k, zv_I h' (zt_r a s) k = zv_I h (zt_r a s) k := fun s hs k => fI _ _ (r9 s hs)
  have eJ : ∀ s, zm_st c s → ∀ k, zv_J h' (zt_r a s) k = zv_J h (zt_r a s) k := fun s hs k => fJ _ _ (r9 s hs)
  have eR : ∀ s, zm_st c s → ∀ k, zv_R h' (zt_r a s) k = zv_R h (zt_r a s) k := fun s hs k => fR _ _ (r9 s hs)
  have eA : ∀ s, zm_st c s → ∀ x k, zv_I h' (zt_r a s + x) k = zv_I h (zt_r a s + x) k := fun s hs x k => fI _ _ (by have := r9 s hs; omega)
  have eS : ∀ i, i < 48 → ∀ k, zv_I h' (zc_stt a i) k = zv_I h (zc_stt a i) k := fun i hi k => fI _ _ (by have := zc_sttb (a := a) hi; omega)
  refine ⟨la, zt_U_W t, fun i hi => (eS i hi 3).trans (zt_U_lv t i hi), fun i hi => (eS i hi 0).trans (zt_U_nr t i hi), fun s hs => ?_, ?_, ?_, ?_⟩
  · have u := zt_U_st t s hs
    exact ⟨(eR s hs 4).trans (zt_S_pa u), (eR s hs 5).trans (zt_S_fi u), (eI s hs 6).trans (zt_S_ac u), (eI s hs 7).trans (zt_S_ti u), (eI s hs 8).trans (zt_S_pl u), (eI s hs 9).trans (zt_S_sz u), (eI s hs 13).trans (zt_S_vi u), (eI s hs 15).trans (zt_S_an u), fun k hk => by rw [eJ s hs]; exact zt_S_nm u k hk, fun k hk => by rw [eJ s hs]; exact zt_S_bs u k hk, fun q k x hx => (eA s hs 1 k).trans (zt_S_tk u q k x hx), fun q k hk => (fI _ _ (by omega)).trans (zt_S_gl u q k hk), fun l hl => (eI s hs 12).trans (zt_S_ln u l hl), fun l hl n x hx => (eA s hs 2 n).trans (zt_S_dc u l hl n x hx), fun l hl => (eI s hs 10).trans (zt_S_de u l hl), (eI s hs 11).trans (zt_S_ch u), zt_S_cw u⟩
  · exact (fR _ _ (by omega)).trans (zt_U_he t)
  · exact (fI _ _ (by omega)).trans (zt_U_nw t)
  · exact (fI _ _ (by omega)).trans (zt_U_ct t)
theorem zt_H_9 {a : Nat} {c : Nat → Int} {h h' : zv_H} (H : zt_H a c h) (fI : ∀ r k, 9 ≤ r → zv_I h' r k = zv_I h r k) (fJ : ∀ r k, 9 ≤ r → zv_J h' r k = zv_J h r k) (fR : ∀ r k, 9 ≤ r → zv_R h' r k = zv_R h r k) : zt_H a c h' := by
  have la := zt_U_la (zt_H_U H)
  have a9 := zc_lh la
  have V := zt_H_V H
  refine ⟨zt_U_9 (zt_H_U H) fI fJ fR, zt_J_cg (zt_H_J H) (fun r k r1 r2 => fI r k (by omega)), ⟨?_, zt_V_c0 V, zt_V_c5 V, fun j hj => ?_, fun j hj => ?_, zt_V_vb V, zt_V_vd V⟩, zt_N_c (zt_H_N H) ((zt_U_W (zt_H_U H)).2.2.1.2) rfl (fun _ _ _ => rfl) (fun r k r1 r2 => fI r k (by omega))⟩
  · rw [fI _ _ (by omega)]; exact zt_V_ct V
  · rw [fI _ _ (by omega)]; exact zt_V_ls V j hj
  · rw [fI _ _ (by omega)]; exact zt_V_lt V j hj
/-- the reference's numbers alone count, and of them the first -/
theorem zt_H_4236 {a : Nat} {c c' : Nat → Int} {g : zv_H} (H : zt_H a c g) (hA : zc_A g) (e : ∀ k : Nat, k < 4236 → c' k = c k) : zt_H a c' g := zt_H_hd H hA (zm_W_eq (zt_U_W (zt_H_U H)) e) (fun k _ k2 _ => e k k2) (e 0 (by decide)) (e 2 (by decide)) (e 4 (by decide)) (e 5 (by decide)) (fun k _ k2 => e k (by omega)) (fun _ _ _ _ _ _ => rfl) (fun _ _ => rfl) (fun _ _ => rfl) ((zt_U_nw (zt_H_U H)).trans (e 1 (by decide)).symm) (zt_N_c (zt_H_N H) ((zt_U_W (zt_H_U H)).2.2.1.2) (e 3 (by decide)) (fun k _ k2 => e k (by omega)) (fun _ _ _ _ => rfl))
/-- the typed word -/
def zt_wt (g k : zv_H) : Prop := ∃ x : Nat, zv_I k 347 20 = x ∧ x ≤ 12 ∧ zt_wd 3 x (zv_I k 361) g ∧ zt_lw x (zv_I k 361)
theorem zt_wt_k {g g' k k' : zv_H} (w : zt_wt g k) (hg : ∀ r i, r = 3 ∨ r = 4 → zv_I g' r i = zv_I g r i) (h20 : zv_I k' 347 20 = zv_I k 347 20) (h361 : zv_I k' 361 = zv_I k 361) : zt_wt g' k' := by
  obtain ⟨x, w1, w2, w3, w4⟩ := w
  exact ⟨x, h20.trans w1, w2, ⟨zt_wd_l7 w3, zt_wd_la w3, zt_wd_m12 w3, (hg 3 1 (Or.inl rfl)).trans (zt_wd_sz w3), fun i hi => by rw [h361]; exact (hg 4 i (Or.inr rfl)).trans (zt_wd_lt w3 i hi)⟩, by rw [h361]; exact w4⟩
/-- between two calls: the class's cells, the reference's -/
def zt_GG (m : Nat) (a : Nat) (b : Nat) (g : zv_H) (k : zv_H) : Prop := (zv_R g 1 3 = a) ∧ (zv_R g 1 4 = b) ∧ ((a = 9 ∧ b = 178) ∨ (a = 178 ∧ b = 9)) ∧ (zt_H a (zv_I k 348) g) ∧ (zt_num0 b g) ∧ (∀ i : Nat, (i : Int) < zv_I k 347 27 → (0 ≤ zv_I g 6 i ∧ zv_I g 6 i ≤ 255) ∧ zv_I k 366 i = zt_sb (zv_I g 6 i)) ∧ (0 ≤ zv_I k 348 1 ∧ zv_I k 348 1 ≤ 1000000 + 1000 * m) ∧ (zv_I k 348 2 ≤ 100000 + 100 * m) ∧ ((zv_I g 1 7 = 0 ∧ zv_I k 347 28 = -1 ∧ zv_I k 347 29 = -1) ∨ (zv_I g 1 7 = 1 ∧ zv_I g 5 8 = zv_I k 347 28 ∧ zv_I g 5 9 = zv_I k 347 29)) ∧ (zt_wt g k)
theorem zt_GG_r {m : Nat} {a : Nat} {b : Nat} {g : zv_H} {k : zv_H} (t : zt_GG m a b g k) : zv_R g 1 3 = a := t.1
theorem zt_GG_s {m : Nat} {a : Nat} {b : Nat} {g : zv_H} {k : zv_H} (t : zt_GG m a b g k) : zv_R g 1 4 = b := t.2.1
theorem zt_GG_ab {m : Nat} {a : Nat} {b : Nat} {g : zv_H} {k : zv_H} (t : zt_GG m a b g k) : (a = 9 ∧ b = 178) ∨ (a = 178 ∧ b = 9) := t.2.2.1
theorem zt_GG_H {m : Nat} {a : Nat} {b : Nat} {g : zv_H} {k : zv_H} (t : zt_GG m a b g k) : zt_H a (zv_I k 348) g := t.2.2.2.1
theorem zt_GG_N {m : Nat} {a : Nat} {b : Nat} {g : zv_H} {k : zv_H} (t : zt_GG m a b g k) : zt_num0 b g := t.2.2.2.2.1
theorem zt_GG_tp {m : Nat} {a : Nat} {b : Nat} {g : zv_H} {k : zv_H} (t : zt_GG m a b g k) : ∀ i : Nat, (i : Int) < zv_I k 347 27 → (0 ≤ zv_I g 6 i ∧ zv_I g 6 i ≤ 255) ∧ zv_I k 366 i = zt_sb (zv_I g 6 i) := t.2.2.2.2.2.1
theorem zt_GG_n1 {m : Nat} {a : Nat} {b : Nat} {g : zv_H} {k : zv_H} (t : zt_GG m a b g k) : 0 ≤ zv_I k 348 1 ∧ zv_I k 348 1 ≤ 1000000 + 1000 * m := t.2.2.2.2.2.2.1
theorem zt_GG_n2 {m : Nat} {a : Nat} {b : Nat} {g : zv_H} {k : zv_H} (t : zt_GG m a b g k) : zv_I k 348 2 ≤ 100000 + 100 * m := t.2.2.2.2.2.2.2.1
theorem zt_GG_fl {m : Nat} {a : Nat} {b : Nat} {g : zv_H} {k : zv_H} (t : zt_GG m a b g k) : (zv_I g 1 7 = 0 ∧ zv_I k 347 28 = -1 ∧ zv_I k 347 29 = -1) ∨ (zv_I g 1 7 = 1 ∧ zv_I g 5 8 = zv_I k 347 28 ∧ zv_I g 5 9 = zv_I k 347 29) := t.2.2.2.2.2.2.2.2.1
theorem zt_GG_wt {m : Nat} {a : Nat} {b : Nat} {g : zv_H} {k : zv_H} (t : zt_GG m a b g k) : zt_wt g k := t.2.2.2.2.2.2.2.2.2
theorem zt_lab {a b : Nat} (h : (a = 9 ∧ b = 178) ∨ (a = 178 ∧ b = 9)) : zv_lay a = (1, 0) ∧ zv_lay b = (1, 0) ∧ a ≠ b := by
  rcases h with ⟨h1, h2⟩ | ⟨h1, h2⟩ <;> rw [h1, h2] <;> exact ⟨rfl, rfl, by decide⟩
/-- the first TOKEN, for both -/
theorem zj_first {T : Nat → Int} {n d D : Nat} {g k : zv_H} (X : zt_tx T n g) (Y : zt_ty T n k) (h6 : zv_I g 5 6 = 0) (h8 : zv_I g 5 8 = 0) (h9 : zv_I g 5 9 = -1) (h33 : zv_I k 347 33 = 0) (h30 : zv_I k 347 30 = 0) : ∃ (v : Int) (g' k' : zv_H), C3_next (d + 2) 5 g = some (v, g') ∧ C9_reads (D + 5) 347 k = some k' ∧ zt_rf g g' ∧ zm_rF k k' ∧ ((v = 1 ∧ ∃ f' t' E', zt_gd T n g' k' f' t' E') ∨ (v = 0 ∧ zt_bd T n g' k')) := by
  obtain ⟨f', t', E', g', k', a1, a2, a3, a4, a5, a6, a7⟩ := zj_next (d := d) (D := D) (Nat.zero_le n) X Y h6 h33
  have X' := zt_tx_r X a4
  have Y' := zt_ty_r Y a5
  have f30 : zv_I k' 347 30 = 0 := (zm_F_g a5 30).trans h30
  refine ⟨_, g', k', a2, a3, a4, a5, ?_⟩
  rcases a6.2 with ⟨q1, q2, q3⟩ | ⟨q1, q2, q3, q4, q5, q6, q7⟩
  · rw [if_pos q1]
    exact Or.inr ⟨rfl, X', Y', by rw [q2]; decide, Or.inl ⟨q2, f30, by rw [a7.2.1, q1]; rfl, q3.trans a7.1.symm⟩⟩
  · rw [if_neg q1]
    exact Or.inl ⟨rfl, f', t', E', X', Y', ⟨_, a1⟩, q1, a6.1, q2, q3, q4, q5, a7, q6.trans h8, f30, q7.trans h9⟩
theorem zt_refused {d : Nat} {g : zv_H} (gL : zt_L g) (v : Int) : C8_refused (d + 1) 1 v g = some (-1, zv_sI g 1 6 v) := by
  have l1 : zv_lay 1 = (1, 8) := rfl
  refine lC8_refused (zl_ob gL l1) ?_
  rw [qE8_refused, zm_e (zl_pI gL l1 6 v)]
theorem zt_given {d : Nat} {g : zv_H} (gL : zt_L g) (v : Int) : C8_given (d + 1) 1 v g = some (v, zv_sI g 1 6 0) := by
  have l1 : zv_lay 1 = (1, 8) := rfl
  refine lC8_given (zl_ob gL l1) ?_
  rw [qE8_given, zm_e (zl_pI gL l1 6 0)]
/-- the STATUS alone -/
theorem zt_GG_st {m a b : Nat} {g k : zv_H} (S : zt_GG m a b g k) (v : Int) {B : List Nat} {k' : zv_H} (F : zm_F [] B k k') (b0 : B.contains 20 = false) (b1 : B.contains 27 = false) (b2 : B.contains 28 = false) (b3 : B.contains 29 = false) : zt_GG m a b (zv_sI g 1 6 v) k' := by
  have eI : ∀ r i, ¬ (r = 1 ∧ i = 6) → zv_I (zv_sI g 1 6 v) r i = zv_I g r i := fun r i q => zy_In _ _ q
  have lab := zt_lab (zt_GG_ab S)
  refine ⟨(show zv_R g 1 3 = a from zt_GG_r S), (show zv_R g 1 4 = b from zt_GG_s S), zt_GG_ab S, ?_, fun i hi => ?_, fun i hi => ?_, ?_, ?_, ?_, zt_wt_k (zt_GG_wt S) (fun r i hr => eI r i (fun q => by omega)) (zm_F_g F 20 b0) (zm_F_a F 361)⟩
  · rw [zm_F_a F 348]
    exact zt_H_9 (zt_GG_H S) (fun r i hr => eI r i (fun q => by omega)) (fun _ _ _ => rfl) (fun _ _ _ => rfl)
  · exact (eI _ _ (fun q => by have := zc_sttb (a := b) hi; have := zc_lh lab.2.1; omega)).trans (zt_GG_N S i hi)
  · rw [zm_F_g F 27 b1] at hi
    rw [eI _ _ (fun q => by omega), zm_F_a F 366]
    exact zt_GG_tp S i hi
  · rw [zm_F_a F 348]
    exact zt_GG_n1 S
  · rw [zm_F_a F 348]
    exact zt_GG_n2 S
  · rw [eI 1 7 (fun q => by omega), eI 5 8 (fun q => by omega), eI 5 9 (fun q => by omega), zm_F_g F 28 b2, zm_F_g F 29 b3]
    exact zt_GG_fl S
