/-! ===== the tie: what is asked leaves it standing ===== -/
theorem zd_x_lo {r k : Nat} (hr : r < 9) (h2 : r ≠ 2) (h1 : ¬ (r = 1 ∧ (k = 5 ∨ k = 6))) : ¬ zd_x r k := by
  have nx : ¬ zt_x r k := fun q => by
    rcases q with q | q | q | ⟨x, hx, q⟩
    · exact h1 ⟨q.1, Or.inr q.2⟩
    · have := zc_l4 q.1
      omega
    · obtain ⟨i, hi, e⟩ := zc_l5i q.1
      have := zc_sttb (a := zc_hf r) hi
      have l := zc_hl r
      have := zc_lh l
      omega
    · omega
  intro q
  rcases q with q | q | q
  · exact nx q
  · exact h1 ⟨q.1, Or.inl q.2⟩
  · exact h2 q
section
variable {a b m : Nat} {g k : zv_H}
theorem zt_H_d {c : Nat → Int} {g' : zv_H} (H : zt_H a c g) (Q : zd_Q g g') : zt_H a c g' := by
  have q := Q.1.1
  have dq := Q.1.2
  have f : zt_q g ((g'.1, ((fun r i => if (r = 1 ∧ i = 5) ∨ r = 2 then zv_I g r i else zv_I g' r i), g'.2.2)) : zv_H) := by
    refine ⟨q.1, q.2.1, fun r i n _ => ?_, fun r n _ => dq.2 r n, fun r n1 n2 _ => q.2.2.2.1 r n1 n2⟩
    show (if (r = 1 ∧ i = 5) ∨ r = 2 then zv_I g r i else zv_I g' r i) = zv_I g r i
    by_cases c : (r = 1 ∧ i = 5) ∨ r = 2
    · rw [if_pos c]
    · rw [if_neg c]
      exact dq.1 r i (fun z => by
        rcases z with z | z
        · exact n z
        · exact c z)
  refine zt_H_9 (zt_H_q H f) (fun r i hr => ?_) (fun _ _ _ => rfl) (fun _ _ _ => rfl)
  show zv_I g' r i = (if (r = 1 ∧ i = 5) ∨ r = 2 then zv_I g r i else zv_I g' r i)
  rw [if_neg (by omega)]
theorem zt_GG_d (S : zt_GG m a b g k) {g' : zv_H} (Q : zd_Q g g') : zt_GG m a b g' k := by
  have q := Q.1.1
  have dq := Q.1.2
  have lab := zt_lab (zt_GG_ab S)
  have lo : ∀ r i, r < 9 → r ≠ 2 → ¬ (r = 1 ∧ (i = 5 ∨ i = 6)) → zv_I g' r i = zv_I g r i := fun r i hr h2 h1 => dq.1 r i (zd_x_lo hr h2 h1)
  have r1 : ∀ i, zv_R g' 1 i = zv_R g 1 i := fun i => congrFun (q.2.2.2.1 1 (by decide) (by decide)) i
  refine ⟨(r1 3).trans (zt_GG_r S), (r1 4).trans (zt_GG_s S), zt_GG_ab S, zt_H_d (zt_GG_H S) Q, fun i hi => ?_, fun i hi => ?_, zt_GG_n1 S, zt_GG_n2 S, ?_, zt_wt_k (zt_GG_wt S) (fun r i hr => lo r i (by omega) (by omega) (by omega)) rfl rfl⟩
  · rw [(q.2.2.2.2.1 _ (zc_stl lab.2.1 hi).1).1]
    exact zt_GG_N S i hi
  · rw [lo 6 i (by decide) (by decide) (fun z => absurd z.1 (by decide))]
    exact zt_GG_tp S i hi
  · rw [lo 1 7 (by decide) (by decide) (fun z => by omega), lo 5 8 (by decide) (by decide) (fun z => by omega), lo 5 9 (by decide) (by decide) (fun z => by omega)]
    exact zt_GG_fl S
theorem zt_H_n {c c' : Nat → Int} (H : zt_H a c g) (hA : zc_A g) (W : zm_W c') (e : zn_e c c') : zt_H a c' g := by
  have e1 : ∀ x : Nat, x < 4080 → c' x = c x := fun x hx => e x (by omega) (by omega)
  refine zt_H_hd H hA W (fun x h1 h2 h3 => e x h2 h3) (e1 0 (by decide)) (e1 2 (by decide)) (e1 4 (by decide)) (e1 5 (by decide)) (fun x h1 h2 => e1 x (by omega)) (fun _ _ _ _ _ _ => rfl) (fun _ _ => rfl) (fun _ _ => rfl) ((zt_U_nw (zt_H_U H)).trans (e1 1 (by decide)).symm) (zt_N_c (zt_H_N H) ((zt_U_W (zt_H_U H)).2.2.1.2) (e1 3 (by decide)) (fun x h1 h2 => e1 x (by omega)) (fun _ _ _ _ => rfl))
theorem zt_GG_n (S : zt_GG m a b g k) (hA : zc_A g) {k' : zv_H} (X : zn_X k k') : zt_GG m a b g k' := by
  have F := X.1.1
  have e1 : ∀ x : Nat, x < 4080 → zv_I k' 348 x = zv_I k 348 x := fun x hx => X.1.2 x (by omega) (by omega)
  refine ⟨zt_GG_r S, zt_GG_s S, zt_GG_ab S, zt_H_n (zt_GG_H S) hA X.2.2.1 X.1.2, zt_GG_N S, fun i hi => ?_, ?_, ?_, ?_, zt_wt_k (zt_GG_wt S) (fun _ _ _ => rfl) (zm_F_g F 20) (zm_F_a F 361)⟩
  · rw [zm_F_g F 27] at hi
    rw [zm_F_a F 366]
    exact zt_GG_tp S i hi
  · rw [e1 1 (by decide)]
    exact zt_GG_n1 S
  · rw [e1 2 (by decide)]
    exact zt_GG_n2 S
  · rw [zm_F_g F 28, zm_F_g F 29]
    exact zt_GG_fl S
/-- the class's cells are those below 347, the reference's the others -/
theorem zt_GG_k (S : zt_GG m a b g k) {k' : zv_H} (o : ∀ r, 347 ≤ r → k'.2.1 r = k.2.1 r) : zt_GG m a b g k' := by
  have e : ∀ r i, 347 ≤ r → zv_I k' r i = zv_I k r i := fun r i hr => congrFun (o r hr) i
  have e348 : zv_I k' 348 = zv_I k 348 := o 348 (by decide)
  refine ⟨zt_GG_r S, zt_GG_s S, zt_GG_ab S, by rw [e348]; exact zt_GG_H S, zt_GG_N S, fun i hi => ?_, by rw [e348]; exact zt_GG_n1 S, by rw [e348]; exact zt_GG_n2 S, ?_, zt_wt_k (zt_GG_wt S) (fun _ _ _ => rfl) (e 347 20 (by decide)) (o 361 (by decide))⟩
  · rw [e 347 27 (by decide)] at hi
    rw [e 366 i (by decide)]
    exact zt_GG_tp S i hi
  · rw [e 347 28 (by decide), e 347 29 (by decide)]
    exact zt_GG_fl S
theorem zt_U_m {c : Nat → Int} {h h' : zv_H} (t : zt_U a c h) (fI : ∀ r k, r < 347 → zv_I h' r k = zv_I h r k) (fJ : ∀ r k, r < 347 → zv_J h' r k = zv_J h r k) (fR : ∀ r k, r < 347 → zv_R h' r k = zv_R h r k) : zt_U a c h' := by
  have la := zt_U_la t
  have a9 := zc_lh la
  have r9 : ∀ s, zm_st c s → zt_r a s + 2 < 347 := fun s hs => by
    rw [zt_r_p hs.1.1]
    have := zc_sttb (a := a) (show s.toNat < 48 by have := hs.1; omega)
    omega
  have eI : ∀ s, zm_st c s → ∀ k, zv_I h' (zt_r a s) k = zv_I h (zt_r a s) k := fun s hs k => fI _ _ (by have := r9 s hs; omega)
  have eJ : ∀ s, zm_st c s → ∀ k, zv_J h' (zt_r a s) k = zv_J h (zt_r a s) k := fun s hs k => fJ _ _ (by have := r9 s hs; omega)
  have eR : ∀ s, zm_st c s → ∀ k, zv_R h' (zt_r a s) k = zv_R h (zt_r a s) k := fun s hs k => fR _ _ (by have := r9 s hs; omega)
  have eA : ∀ s, zm_st c s → ∀ x k, x ≤ 2 → zv_I h' (zt_r a s + x) k = zv_I h (zt_r a s + x) k := fun s hs x k hx => fI _ _ (by have := r9 s hs; omega)
  have eS : ∀ i, i < 48 → ∀ k, zv_I h' (zc_stt a i) k = zv_I h (zc_stt a i) k := fun i hi k => fI _ _ (by have := zc_sttb (a := a) hi; omega)
  refine ⟨la, zt_U_W t, fun i hi => (eS i hi 3).trans (zt_U_lv t i hi), fun i hi => (eS i hi 0).trans (zt_U_nr t i hi), fun s hs => ?_, ?_, ?_, ?_⟩
  · have u := zt_U_st t s hs
    exact ⟨(eR s hs 4).trans (zt_S_pa u), (eR s hs 5).trans (zt_S_fi u), (eI s hs 6).trans (zt_S_ac u), (eI s hs 7).trans (zt_S_ti u), (eI s hs 8).trans (zt_S_pl u), (eI s hs 9).trans (zt_S_sz u), (eI s hs 13).trans (zt_S_vi u), (eI s hs 15).trans (zt_S_an u), fun k hk => by rw [eJ s hs]; exact zt_S_nm u k hk, fun k hk => by rw [eJ s hs]; exact zt_S_bs u k hk, fun q k x hx => (eA s hs 1 k (by decide)).trans (zt_S_tk u q k x hx), fun q k hk => (fI _ _ (by omega)).trans (zt_S_gl u q k hk), fun l hl => (eI s hs 12).trans (zt_S_ln u l hl), fun l hl n x hx => (eA s hs 2 n (by decide)).trans (zt_S_dc u l hl n x hx), fun l hl => (eI s hs 10).trans (zt_S_de u l hl), (eI s hs 11).trans (zt_S_ch u), zt_S_cw u⟩
  · exact (fR _ _ (by omega)).trans (zt_U_he t)
  · exact (fI _ _ (by omega)).trans (zt_U_nw t)
  · exact (fI _ _ (by omega)).trans (zt_U_ct t)
theorem zt_H_m {c : Nat → Int} {h h' : zv_H} (H : zt_H a c h) (fI : ∀ r k, r < 347 → zv_I h' r k = zv_I h r k) (fJ : ∀ r k, r < 347 → zv_J h' r k = zv_J h r k) (fR : ∀ r k, r < 347 → zv_R h' r k = zv_R h r k) : zt_H a c h' := by
  have la := zt_U_la (zt_H_U H)
  have a9 := zc_lh la
  have V := zt_H_V H
  refine ⟨zt_U_m (zt_H_U H) fI fJ fR, zt_J_cg (zt_H_J H) (fun r k r1 r2 => fI r k (by omega)), ⟨?_, zt_V_c0 V, zt_V_c5 V, fun j hj => ?_, fun j hj => ?_, zt_V_vb V, zt_V_vd V⟩, zt_N_c (zt_H_N H) ((zt_U_W (zt_H_U H)).2.2.1.2) rfl (fun _ _ _ => rfl) (fun r k r1 r2 => fI r k (by omega))⟩
  · rw [fI _ _ (by omega)]; exact zt_V_ct V
  · rw [fI _ _ (by omega)]; exact zt_V_ls V j hj
  · rw [fI _ _ (by omega)]; exact zt_V_lt V j hj
theorem zt_GG_g (S : zt_GG m a b g k) {g' : zv_H} (o : ∀ r, r < 347 → g'.2.1 r = g.2.1 r ∧ g'.2.2.1 r = g.2.2.1 r ∧ g'.2.2.2.1 r = g.2.2.2.1 r) : zt_GG m a b g' k := by
  have eI : ∀ r i, r < 347 → zv_I g' r i = zv_I g r i := fun r i hr => congrFun (o r hr).1 i
  have eJ : ∀ r i, r < 347 → zv_J g' r i = zv_J g r i := fun r i hr => congrFun (o r hr).2.1 i
  have eR : ∀ r i, r < 347 → zv_R g' r i = zv_R g r i := fun r i hr => congrFun (o r hr).2.2 i
  have lab := zt_lab (zt_GG_ab S)
  refine ⟨(eR 1 3 (by decide)).trans (zt_GG_r S), (eR 1 4 (by decide)).trans (zt_GG_s S), zt_GG_ab S, zt_H_m (zt_GG_H S) eI eJ eR, fun i hi => ?_, fun i hi => ?_, zt_GG_n1 S, zt_GG_n2 S, ?_, zt_wt_k (zt_GG_wt S) (fun r i hr => eI r i (by omega)) rfl rfl⟩
  · rw [eI _ _ (by have := zc_sttb (a := b) hi; have := zc_lh lab.2.1; omega)]
    exact zt_GG_N S i hi
  · rw [eI 6 i (by decide)]
    exact zt_GG_tp S i hi
  · rw [eI 1 7 (by decide), eI 5 8 (by decide), eI 5 9 (by decide)]
    exact zt_GG_fl S
end
/-- between two calls of the law: the class beside the reference, in one heap -/
def zl_J (L : Nat) (X : Nat → Int) (m : Nat) (h : zv_H) : Prop := zl_I L X h ∧ ∃ a b, zt_GG m a b h h
section
variable {L : Nat} {X : Nat → Int} {m m' : Nat} {h : zv_H}
/-- both have done a call -/
theorem zl_J_of {a' b' : Nat} {h1 h2 : zv_H} (I2 : zl_I L X h2) {A B : List Nat} (F : zm_F A B h1 h2) (S : zt_GG m' a' b' h1 h2) (hl : (A.all fun x => Nat.ble 347 x) = true := by decide) : zl_J L X m' h2 := by
  refine ⟨I2, a', b', zt_GG_g S (fun r hr => ⟨zm_F_a' F hr hl, ?_, congrFun F.2.1 r⟩)⟩
  funext i
  exact F.2.2.2.2.2 r i (fun q => by omega)
/-- what the class leaves to the reference -/
theorem zl_J_c {a b : Nat} (S : zt_GG m a b h h) {h1 : zv_H} (P : zc_P' h h1) : zt_GG m a b h h1 := zt_GG_k S (fun r hr => (P.2.2 r hr).1)
/-- an act of both -/
theorem zl_act (J : zl_J L X m h) {C : Option (Int × zv_H)} {C' : zv_H → Option (Int × zv_H)} (eC : zm_R C (fun q => zc_X h q.2)) (eR : ∀ h1, zl_I L X h1 → zm_R (C' h1) (fun q => zm_X h1 q.2)) (z : ∀ (a b : Nat) (k : zv_H), zm_MI k → zt_GG m a b h k → ∃ (v : Int) (g' k' : zv_H) (a' b' : Nat), C = some (v, g') ∧ C' k = some (v, k') ∧ zt_GG m' a' b' g' k') : ∃ (v : Int) (h1 h2 : zv_H), C = some (v, h1) ∧ C' h1 = some (v, h2) ∧ zl_S L X h1 ∧ zl_J L X m' h2 := by
  obtain ⟨I, a, b, S⟩ := J
  obtain ⟨⟨v, h1⟩, e1, x1⟩ := eC
  have x1' : zc_X h h1 := x1
  have I1 := zl_cI I x1'
  obtain ⟨⟨v2, h2⟩, e2, x2⟩ := eR h1 I1
  have x2' : zm_X h1 h2 := x2
  obtain ⟨w, g', k', a', b', y1, y2, S'⟩ := z a b h1 I1.2.1 (zl_J_c S (zc_PP' x1'.1))
  have z1 := Prod.mk.inj (Option.some.inj (y1.symm.trans e1))
  have z2 := Prod.mk.inj (Option.some.inj (y2.symm.trans e2))
  refine ⟨w, h1, h2, by rw [e1, z1.1], by rw [e2, z2.1], I1.2.2.2, ?_⟩
  rw [z1.2, z2.2] at S'
  exact zl_J_of (zl_rI I1 x2') x2'.1 S'
/-- what is asked of both -/
theorem zl_ask (J : zl_J L X m h) {C : Option (Int × zv_H)} {C' : zv_H → Option (Int × zv_H)} (eC : zm_R C (fun q => zd_Q h q.2)) (eR : ∀ h1, zm_MI h1 → zm_R (C' h1) (fun q => zn_X h1 q.2)) (eX : ∀ h1, zm_MI h1 → zm_R (C' h1) (fun q => zm_X h1 q.2)) : ∃ (v1 : Int) (h1 : zv_H) (v2 : Int) (h2 : zv_H), C = some (v1, h1) ∧ C' h1 = some (v2, h2) ∧ zl_S L X h1 ∧ zl_J L X m h2 := by
  obtain ⟨I, a, b, S⟩ := J
  obtain ⟨⟨v, h1⟩, e1, q1⟩ := eC
  have q1' : zd_Q h h1 := q1
  have I1 := zl_cI I (zc_QX (zd_c q1'))
  obtain ⟨⟨v2, h2⟩, e2, x2⟩ := eX h1 I1.2.1
  have x2' : zm_X h1 h2 := x2
  obtain ⟨⟨v3, h3⟩, e3, x3⟩ := eR h1 I1.2.1
  have z2 := Prod.mk.inj (Option.some.inj (e3.symm.trans e2))
  have x3' : zn_X h1 h3 := x3
  rw [z2.2] at x3'
  have S1 : zt_GG m a b h h1 := zt_GG_k S (fun r hr => (q1'.1.1.2.2.1 r hr).1)
  exact ⟨v, h1, v2, h2, e1, e2, I1.2.2.2, zl_J_of (zl_rI I1 x2') x2'.1 (zt_GG_n (zt_GG_d S1 q1') I1.1 x3')⟩
end
