/-! ===== the tie: merging on paper, the class ===== -/
theorem zt_cy40 {g : zv_H} (gL : zt_L g) {s t : Nat} (ls : zv_lay s = (2, 40)) (lt : zv_lay t = (2, 40)) (ne : s ≠ t) : ∃ g', zv_cy g s 0 t 0 40 = some g' ∧ zt_o [t] g g' ∧ ∀ k : Nat, k < 40 → zv_I g' t k = zv_I g s k := by
  refine ⟨zv_cp g s 0 t 0 40, ?_, ⟨rfl, rfl, fun r hr => ?_⟩, fun k hk => ?_⟩
  · unfold zv_cy
    rw [if_pos ⟨⟨zl_n gL (by rw [ls]; decide), zl_n gL (by rw [lt]; decide), by rw [ls], by rw [lt]⟩, ⟨by decide, by decide, by decide⟩, by rw [ls]; decide, by rw [lt]; decide, ne⟩]
    rfl
  · have ne : ¬ r = t := by simpa using hr
    funext k
    exact if_neg (fun q => ne q.1)
  · show (if t = t ∧ 0 ≤ k ∧ k < 0 + 40 then g.2.1 s (0 + (k - 0)) else g.2.1 t k) = _
    rw [if_pos ⟨rfl, Nat.zero_le _, by omega⟩, Nat.sub_zero, Nat.zero_add]
    rfl
theorem zt_vl {a : Nat} (la : zv_lay a = (1, 0)) : zv_lay (a + 17) = (1, 6) ∧ zv_lay (a + 17 + 1) = (2, 40) ∧ zv_lay (a + 17 + 2) = (2, 40) ∧ zv_lay (a + 17 + 3) = (2, 40) ∧ zv_lay (a + 17 + 4) = (2, 40) := by
  rcases zc_lh la with e | e <;> rw [e] <;> exact ⟨rfl, rfl, rfl, rfl, rfl⟩
theorem zt_cp4 {d : Nat} {r : Nat} {g : zv_H} (gL : zt_L g) (l0 : zv_lay r = (1, 6)) {s1 t1 s2 t2 : Nat} (a1 : zv_lay s1 = (2, 40)) (b1 : zv_lay t1 = (2, 40)) (n1 : s1 ≠ t1) (a2 : zv_lay s2 = (2, 40)) (b2 : zv_lay t2 = (2, 40)) (n2 : s2 ≠ t2) (n3 : s2 ≠ t1) (n4 : t1 ≠ t2) (x y : Nat) : ∃ g3 g6, zv_cy g s1 0 t1 0 40 = some g3 ∧ zv_cy g3 s2 0 t2 0 40 = some g6 ∧ zt_L g3 ∧ zt_L g6 ∧ (zv_sI g6 r y (zv_I g r x)).1 = g.1 ∧ (zv_sI g6 r y (zv_I g r x)).2.2 = g.2.2 ∧ zv_I g6 r x = zv_I g r x ∧ (∀ q k, q ≠ t1 → q ≠ t2 → ¬ (q = r ∧ k = y) → zv_I (zv_sI g6 r y (zv_I g r x)) q k = zv_I g q k) ∧ (∀ k : Nat, k < 40 → zv_I (zv_sI g6 r y (zv_I g r x)) t1 k = zv_I g s1 k) ∧ (∀ k : Nat, k < 40 → zv_I (zv_sI g6 r y (zv_I g r x)) t2 k = zv_I g s2 k) ∧ zv_I (zv_sI g6 r y (zv_I g r x)) r y = zv_I g r x := by
  obtain ⟨g3, e3, o3, w3⟩ := zt_cy40 gL a1 b1 n1
  have gL3 := zt_o_L o3 gL
  obtain ⟨g6, e6, o6, w6⟩ := zt_cy40 gL3 a2 b2 n2
  have gL6 := zt_o_L o6 gL3
  have nr : ∀ t : Nat, zv_lay t = (2, 40) → t ≠ r := fun t ht e => by rw [e, l0] at ht; exact absurd ht (by decide)
  have f3 : ∀ q k, q ≠ t1 → zv_I g3 q k = zv_I g q k := fun q k hq => zt_o_i o3 (by simpa using hq) k
  have f6 : ∀ q k, q ≠ t2 → zv_I g6 q k = zv_I g3 q k := fun q k hq => zt_o_i o6 (by simpa using hq) k
  refine ⟨g3, g6, e3, e6, gL3, gL6, o6.1.trans o3.1, o6.2.1.trans o3.2.1, ?_, fun q k q1 q2 q3 => ?_, fun k hk => ?_, fun k hk => ?_, zy_I _ _ _ _⟩
  · rw [f6 _ _ (fun q => nr t2 b2 q.symm), f3 _ _ (fun q => nr t1 b1 q.symm)]
  · rw [zy_In _ _ q3, f6 q k q2, f3 q k q1]
  · rw [zy_In _ _ (fun q => nr t1 b1 q.1), f6 _ _ n4, w3 k hk]
  · rw [zy_In _ _ (fun q => nr t2 b2 q.1), w6 k hk, f3 _ _ n3]
theorem zt_keep {d : Nat} {a : Nat} (la : zv_lay a = (1, 0)) {g : zv_H} (gL : zt_L g) : ∃ g', C6_keep (d + 1) (a + 17) g = some g' ∧ zt_hy a g g' ∧ (∀ k : Nat, k < 40 → zv_I g' (a + 20) k = zv_I g (a + 18) k) ∧ (∀ k : Nat, k < 40 → zv_I g' (a + 21) k = zv_I g (a + 19) k) ∧ zv_I g' (a + 17) 5 = zv_I g (a + 17) 4 := by
  obtain ⟨l0, l1, l2, l3, l4⟩ := zt_vl la
  obtain ⟨g3, g6, e3, e6, gL3, gL6, q1, q2, q3, q4, q5, q6, q7⟩ := zt_cp4 (d := d) (r := a + 17) gL l0 l1 l3 (by omega) l2 l4 (by omega) (by omega) (by omega) 4 5
  refine ⟨_, lC6_keep (zl_ob gL l0) ?_, ⟨q1, q2, fun r k hy => q4 r k (fun z => hy (Or.inr (Or.inr (Or.inl z)))) (fun z => hy (Or.inr (Or.inr (Or.inr (Or.inl z))))) (fun z => hy (Or.inr (Or.inr (Or.inr (Or.inr z)))))⟩, q5, q6, q7⟩
  rw [qE6_keep, zm_e (zl_gF gL l0 0 1), zm_e (zl_gF gL l0 2 3), zm_e e3, zm_e (zl_gF gL3 l0 1 2), zm_e (zl_gF gL3 l0 3 4), zm_e e6, zm_e (zl_gI gL6 l0 4), q3, zm_e (zl_pI gL6 l0 5 _)]
/-- what giving back changes -/
def zt_gb (a : Nat) (g : zv_H) (g' : zv_H) : Prop := (g'.1 = g.1) ∧ (g'.2.2 = g.2.2) ∧ (∀ r k, r ≠ a + 18 → r ≠ a + 19 → ¬ (r = a + 17 ∧ k = 4) → zv_I g' r k = zv_I g r k) ∧ (∀ k : Nat, k < 40 → zv_I g' (a + 18) k = zv_I g (a + 20) k) ∧ (∀ k : Nat, k < 40 → zv_I g' (a + 19) k = zv_I g (a + 21) k) ∧ (zv_I g' (a + 17) 4 = zv_I g (a + 17) 5)
theorem zt_gb_n {a : Nat} {g : zv_H} {g' : zv_H} (t : zt_gb a g g') : g'.1 = g.1 := t.1
theorem zt_gb_q {a : Nat} {g : zv_H} {g' : zv_H} (t : zt_gb a g g') : g'.2.2 = g.2.2 := t.2.1
theorem zt_gb_i {a : Nat} {g : zv_H} {g' : zv_H} (t : zt_gb a g g') : ∀ r k, r ≠ a + 18 → r ≠ a + 19 → ¬ (r = a + 17 ∧ k = 4) → zv_I g' r k = zv_I g r k := t.2.2.1
theorem zt_gb_s {a : Nat} {g : zv_H} {g' : zv_H} (t : zt_gb a g g') : ∀ k : Nat, k < 40 → zv_I g' (a + 18) k = zv_I g (a + 20) k := t.2.2.2.1
theorem zt_gb_t {a : Nat} {g : zv_H} {g' : zv_H} (t : zt_gb a g g') : ∀ k : Nat, k < 40 → zv_I g' (a + 19) k = zv_I g (a + 21) k := t.2.2.2.2.1
theorem zt_gb_c {a : Nat} {g : zv_H} {g' : zv_H} (t : zt_gb a g g') : zv_I g' (a + 17) 4 = zv_I g (a + 17) 5 := t.2.2.2.2.2
theorem zt_giveB {d : Nat} {a : Nat} (la : zv_lay a = (1, 0)) {g : zv_H} (gL : zt_L g) : ∃ g', C6_giveBack (d + 1) (a + 17) g = some g' ∧ zt_gb a g g' := by
  obtain ⟨l0, l1, l2, l3, l4⟩ := zt_vl la
  obtain ⟨g3, g6, e3, e6, gL3, gL6, q1, q2, q3, q4, q5, q6, q7⟩ := zt_cp4 (d := d) (r := a + 17) gL l0 l3 l1 (by omega) l4 l2 (by omega) (by omega) (by omega) 5 4
  refine ⟨_, lC6_giveBack (zl_ob gL l0) ?_, ⟨q1, q2, fun r k h1 h2 h3 => q4 r k h1 h2 h3, q5, q6, q7⟩⟩
  rw [qE6_giveBack, zm_e (zl_gF gL l0 2 3), zm_e (zl_gF gL l0 0 1), zm_e e3, zm_e (zl_gF gL3 l0 3 4), zm_e (zl_gF gL3 l0 1 2), zm_e e6, zm_e (zl_gI gL6 l0 5), q3, zm_e (zl_pI gL6 l0 4 _)]
theorem zt_U_fr {a : Nat} {c : Nat → Int} {h h' : zv_H} (t : zt_U a c h) (f : h'.2.2 = h.2.2) (eC : ∀ i x k : Nat, i < 48 → x ≤ 2 → zv_I h' (zc_stt a i + x) k = zv_I h (zc_stt a i + x) k) (h5 : ∀ k, zv_I h' (a + 5) k = zv_I h (a + 5) k) (e11 : zv_I h' a 11 = zv_I h a 11) (e12 : zv_I h' a 12 = zv_I h a 12) : zt_U a c h' := by
  have la := zt_U_la t
  have hR : ∀ r k, zv_R h' r k = zv_R h r k := fun r k => by
    unfold zv_R
    rw [f]
  have sN : ∀ s, zm_st c s → s.toNat < 48 := fun s hs => by have := hs.1; omega
  have eS : ∀ i, i < 48 → ∀ k, k ≠ 14 → zv_I h' (zc_stt a i) k = zv_I h (zc_stt a i) k := fun i hi k _ => eC i 0 k hi (by decide)
  have eI : ∀ s, zm_st c s → ∀ k, k ≠ 14 → zv_I h' (zt_r a s) k = zv_I h (zt_r a s) k := fun s hs k hk => by
    rw [zt_r_p hs.1.1]
    exact eC _ 0 k (sN s hs) (by decide)
  have eJ : ∀ s, zm_st c s → ∀ k, zv_J h' (zt_r a s) k = zv_J h (zt_r a s) k := fun s hs k => by
    unfold zv_J
    rw [f]
  have eR : ∀ s, zm_st c s → ∀ k, zv_R h' (zt_r a s) k = zv_R h (zt_r a s) k := fun s hs k => hR _ _
  have eA : ∀ s, zm_st c s → ∀ x k, x = 1 ∨ x = 2 → zv_I h' (zt_r a s + x) k = zv_I h (zt_r a s + x) k := fun s hs x k hx => by
    rw [zt_r_p hs.1.1]
    exact eC _ x k (sN s hs) (by omega)
  refine ⟨la, zt_U_W t, fun i hi => (eS i hi 3 (by decide)).trans (zt_U_lv t i hi), fun i hi => (eS i hi 0 (by decide)).trans (zt_U_nr t i hi), fun s hs => ?_, ?_, ?_, ?_⟩
  · have u := zt_U_st t s hs
    refine ⟨(eR s hs 4).trans (zt_S_pa u), (eR s hs 5).trans (zt_S_fi u), (eI s hs 6 (by decide)).trans (zt_S_ac u), (eI s hs 7 (by decide)).trans (zt_S_ti u), (eI s hs 8 (by decide)).trans (zt_S_pl u), (eI s hs 9 (by decide)).trans (zt_S_sz u), (eI s hs 13 (by decide)).trans (zt_S_vi u), (eI s hs 15 (by decide)).trans (zt_S_an u), fun k hk => by rw [eJ s hs]; exact zt_S_nm u k hk, fun k hk => by rw [eJ s hs]; exact zt_S_bs u k hk, fun q k x hx => (eA s hs 1 k (Or.inl rfl)).trans (zt_S_tk u q k x hx), fun q k hk => ?_, fun l hl => (eI s hs 12 (by decide)).trans (zt_S_ln u l hl), fun l hl n x hx => (eA s hs 2 n (Or.inr rfl)).trans (zt_S_dc u l hl n x hx), fun l hl => (eI s hs 10 (by decide)).trans (zt_S_de u l hl), (eI s hs 11 (by decide)).trans (zt_S_ch u), zt_S_cw u⟩
    rw [h5]
    exact zt_S_gl u q k hk
  · exact (hR a 10).trans (zt_U_he t)
  · exact e11.trans (zt_U_nw t)
  · exact e12.trans (zt_U_ct t)
/-- half a given back: all holds again -/
theorem zt_H_gb {a : Nat} {c : Nat → Int} {g g2 g' : zv_H} (H : zt_H a c g) (U : zt_U a c g2) (J : zt_J a c g2) (N : zt_N a c g2) (B : zt_gb a g2 g') (k1 : ∀ k : Nat, k < 40 → zv_I g2 (a + 20) k = zv_I g (a + 18) k) (k2 : ∀ k : Nat, k < 40 → zv_I g2 (a + 21) k = zv_I g (a + 19) k) (k3 : zv_I g2 (a + 17) 5 = zv_I g (a + 17) 4) : zt_H a c g' := by
  have la := zt_U_la U
  have V := zt_H_V H
  have hI : ∀ n k, n ≤ 27 → n ≠ 17 → n ≠ 18 → n ≠ 19 → zv_I g' (a + n) k = zv_I g2 (a + n) k := fun n k n0 n1 n2 n3 => zt_gb_i B _ k (fun q => n2 (Nat.add_left_cancel q)) (fun q => n3 (Nat.add_left_cancel q)) (fun q => n1 (Nat.add_left_cancel q.1))
  refine ⟨zt_U_fr U (zt_gb_q B) (fun i x k hi hx => ?_) (fun k => hI 5 k (by decide) (by decide) (by decide) (by decide)) (hI 0 11 (by decide) (by decide) (by decide) (by decide)) (hI 0 12 (by decide) (by decide) (by decide) (by decide)), zt_J_cg J (fun r k r1 r2 => ?_), ⟨?_, zt_V_c0 V, zt_V_c5 V, fun i hi => ?_, fun i hi => ?_, zt_V_vb V, zt_V_vd V⟩, zt_N_c N (zt_U_W U).2.2.1.2 rfl (fun _ _ _ => rfl) (fun r k r1 r2 => ?_)⟩
  · have b := fun n (n0 : n ≤ 27) (n1 : n ≠ 1) (n2 : n ≠ 2) (n3 : n ≠ 3) => zt_sepH (a := a) (i := i) (n := n) (x := x) n0 hx n1 n2 n3
    exact zt_gb_i B _ k (fun q => b 18 (by decide) (by decide) (by decide) (by decide) q.symm) (fun q => b 19 (by decide) (by decide) (by decide) (by decide) q.symm) (fun q => b 17 (by decide) (by decide) (by decide) (by decide) q.1.symm)
  · obtain ⟨n, rfl⟩ : ∃ n, r = a + n := ⟨r - a, by omega⟩
    exact hI n k (by omega) (by omega) (by omega) (by omega)
  · rw [zt_gb_c B, k3]; exact zt_V_ct V
  · rw [zt_gb_s B _ (zt_pr5 _), k1 _ (zt_pr5 _)]; exact zt_V_ls V i hi
  · rw [zt_gb_t B _ (zt_pr5 _), k2 _ (zt_pr5 _)]; exact zt_V_lt V i hi
  · obtain ⟨n, rfl⟩ : ∃ n, r = a + n := ⟨r - a, by omega⟩
    exact hI n k (by omega) (by omega) (by omega) (by omega)
theorem zt_gb_k {a : Nat} (la : zv_lay a = (1, 0)) {g g' : zv_H} (B : zt_gb a g g') : zt_k a g g' := zt_k_of (zt_gb_n B) (by rw [zt_gb_q B]) (fun r k hr => zt_gb_i B r k (fun q => hr (by rw [q]; exact zt_inA la (by decide))) (fun q => hr (by rw [q]; exact zt_inA la (by decide))) (fun q => hr (by rw [q.1]; exact zt_inA la (by decide)))) (fun r k _ => by unfold zv_J; rw [zt_gb_q B]) (fun r k _ => by unfold zv_R; rw [zt_gb_q B])
