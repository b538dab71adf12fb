/-! ===== the tie: withdrawing and giving back, both ===== -/
theorem zt_Tr_o {c c2 : Nat → Int} {act : Int} (t : zm_Tr c c2 act) {s w : Int} (hs : s ≤ 47) (hw : w < 76) : zm_o c2 s w = zm_o c s w := t.1 _ (by omega)
theorem zt_Tr_st {c c2 : Nat → Int} {act : Int} (t : zm_Tr c c2 act) {s : Int} : zm_st c2 s ↔ zm_st c s := by
  constructor
  · intro q
    exact ⟨q.1, by rw [← zt_Tr_o t (s := s) (w := 0) (by have := q.1; omega) (by decide)]; exact q.2⟩
  · intro q
    exact ⟨q.1, by rw [zt_Tr_o t (s := s) (w := 0) (by have := q.1; omega) (by decide)]; exact q.2⟩
theorem zt_H_Tr {a : Nat} {c c2 : Nat → Int} {act : Int} {g : zv_H} (hA : zc_A g) (H : zt_H a c g) (t : zm_Tr c c2 act) : zt_H a c2 g := by
  have W := zt_U_W (zt_H_U H)
  have e : ∀ k : Nat, k < 4080 → c2 k = c k := fun k hk => t.1 k (by omega)
  exact zt_H_hd H hA (zm_Tr_W t W) (fun k _ _ k3 => t.1 k k3) (e 0 (by decide)) (e 2 (by decide)) (e 4 (by decide)) (e 5 (by decide)) (fun k _ k2 => e k (by omega)) (fun _ _ _ _ _ _ => rfl) (fun _ _ => rfl) (fun _ _ => rfl) ((zt_U_nw (zt_H_U H)).trans (e 1 (by decide)).symm) (zt_N_c (zt_H_N H) W.2.2.1.2 (e 3 (by decide)) (fun k _ k2 => e k (by omega)) (fun _ _ _ _ => rfl))
theorem zt_nn_c {a : Nat} {c c2 : Nat → Int} {h g : zv_H} {s x y z fi : Int} (N : zt_nn a c h s x y z fi g) (e0 : c2 0 = c 0) (e1 : c2 1 = c 1) (en : zm_nst c2 = zm_nst c) (st : ∀ t, zm_st c2 t → zm_st c t) : zt_nn a c2 h s x y z fi g := by
  refine ⟨zt_nn_L N, zt_nn_k N, zt_nn_lv N, fun t ht => zt_nn_oI N t (st t ht), fun t ht => zt_nn_o1 N t (st t ht), fun t ht => zt_nn_o2 N t (st t ht), fun t ht => zt_nn_oJ N t (st t ht), fun t ht => zt_nn_oR N t (st t ht), zt_nn_s6 N, ?_, zt_nn_s8 N, zt_nn_s9 N, zt_nn_sd N, ?_, zt_nn_r5 N, zt_nn_he N, ?_, ?_, zt_nn_v4 N, zt_nn_vs N, ?_, zt_nn_jn N, zt_nn_nm N, zt_nn_oh N⟩
  · rw [e1]; exact zt_nn_s7 N
  · rw [e0]; exact zt_nn_r4 N
  · rw [e1]; exact zt_nn_nw N
  · rw [en]; exact zt_nn_ct N
  · rw [e1]; exact zt_nn_vt N
theorem zj_turn {D : Nat} {a : Nat} {c : Nat → Int} {g k : zv_H} {act : Int} (ha : act = 2 ∨ act = 3) (hA : zc_A g) (H : zt_H a c g) (hM : zm_M k) (hc : zv_I k 348 = c) (b : c 2 < 2000000000) {l : List Int} (hl : zm_Ln c (c 0 :: l) (c 0)) (s : Int) {o : Option (Int × zv_H)} (O : zm_R o (zc_O a g)) (T : zm_R o (zt_tq a c l act s g)) : ∃ q q', o = some q ∧ C9_turnNow (D + 7) 347 s act k = some q' ∧ zt_Z a 1 g k q q' := by
  have U := zt_H_U H
  have W := zt_U_W U
  have la := zt_U_la U
  have cw : ∀ t, zm_st c t → zt_cw c t := fun t ht => zt_S_cw (zt_U_st U t ht)
  obtain ⟨ok, g0, gt, W1⟩ := zt_line_u W W.2.1 hl
  have l47 := zt_dep W W.2.1 hl
  obtain ⟨⟨v', k'⟩, e', ⟨F, W'⟩, R⟩ := zt_two (zm_turnNow hM hc W D ha s) (zt_turnNow hM hc W cw D ha hl s)
  obtain ⟨⟨x, g'⟩, e, X, T⟩ := zt_two O T
  have F' : zm_F [348, 351, 352, 353, 354, 355, 358, 359, 360, 362, 363, 364, 365] [3, 10, 11, 12, 19, 24] k k' := zm_F_s F rfl rfl
  have hA' : zc_A g' := X.1.2
  -- refused by both, nothing changed but what is reckoned
  have no : ∀ c' : Nat → Int, v' = -1 → x < 0 → zt_q g g' → zv_I k' 348 = c' → zt_H a c' g → c' 1 = c 1 → c' 2 = c 2 → zt_Z a 1 g k (x, g') (v', k') := fun c' h1 h2 h3 h4 h5 h6 h7 => by
    refine ⟨X.1, zt_q_k a h3, F', Or.inl ⟨h2, h1⟩, ?_, ?_, ?_⟩
    · show zt_H a (zv_I k' 348) g'
      rw [h4]
      exact zt_H_q h5 h3
    · dsimp only
      rw [h4, hc, h6]; omega
    · dsimp only
      rw [h4, hc, h7]; omega
  refine ⟨(x, g'), (v', k'), e, e', ?_⟩
  rcases R with ⟨r1, r2, r3⟩ | ⟨tw, c2, K, tr, nk, tu⟩
  · rcases T with ⟨t1, t2, _⟩ | ⟨t0, v, nm, _, _, ⟨t1, t2, _⟩ | ⟨t1, _⟩⟩
    · exact no c r1 t1 t2 r2 H rfl rfl
    · exact no c r1 t1 (zt_B_q t2) r2 H rfl rfl
    · exact absurd ⟨t0.1, t0.2.1, t0.2.2.1, t0.2.2.2, t1.1⟩ r3
  · rcases T with ⟨_, _, t3⟩ | ⟨t0, v, nm, hk, hv, T⟩
    · exact absurd tw t3
    · have H2 := zt_H_Tr hA H tr
      have e0 : c2 0 = c 0 := tr.1 0 (by decide)
      have e1 : c2 1 = c 1 := tr.1 1 (by decide)
      have e2 : c2 2 = c 2 := tr.1 2 (by decide)
      have agT : ∀ t ∈ c 0 :: l, zm_ag c c2 t := fun t ht => by
        have := (ok.2.2.1 t ht).1
        exact zm_Tr_ag tr this.1 this.2
      have n48 : ¬ (48 : Int) ∈ c 0 :: l := fun q => by
        have := (ok.2.2.1 48 q).1
        omega
      have cwL : ∀ t ∈ c 0 :: l, zt_cw c t := fun t ht => cw t (ok.2.2.1 t ht)
      have nkp : ∀ y, y ∈ K ↔ zt_Kp c (c 0 :: l) act s y := nk.2.1
      obtain ⟨rw48, sn48⟩ := zt_sj_nam hl (List.cons_ne_nil _ _) ok g0 cwL agT n48 ha tr.2.2.1 (fun y y0 y1 => (nk.2.2 y y0 y1).trans (nkp y)) hv
      have len : ((zm_row c2 (48 :: c 0 :: l)).filter (zm_sn c2 (48 :: c 0 :: l))).length = ((zm_row c (c 0 :: l)).filter (zt_sj c (c 0 :: l) v)).length := by
        rw [rw48, zm_fl_cg sn48]
      rcases tu with ⟨u1, u2, u3⟩ | ⟨u1, fr, n, o2, o3, o4, o5, o6, o7, o8, o10, o11⟩
      · rw [len] at u3
        rcases T with ⟨t1, t2, _⟩ | ⟨t1, _⟩
        · exact no c2 u1 t1 (zt_B_q t2) u2 H2 e1 e2
        · exact absurd (by have := t1.2; omega) u3
      · rw [len] at u1
        rcases T with ⟨_, _, t3⟩ | ⟨t1, g5, s', B5, fr', es, N, P⟩
        · exact absurd ⟨tw.2.2.2.2, by omega⟩ t3
        · dsimp only at es N P fr n o2 o3 o4 o5 o6 o7 o8 o10 o11
          have fr2 : zt_free c2 s' := ⟨fr'.1, fun j j0 j1 => by
            rw [zt_Tr_o tr (by have := fr'.1; omega) (by decide)]
            exact fr'.2.1 j j0 j1, by
            rw [zt_Tr_o tr (by have := fr'.1; omega) (by decide)]
            exact fr'.2.2⟩
          have ess : s' = v' := zt_free_u fr2 fr
          subst ess
          subst es
          have en : zm_nst c2 = zm_nst c := zm_sum_cg 48 (fun j hj => zt_Tr_o tr (by omega) (by decide))
          have N2 := zt_nn_c (c2 := c2) N e0 e1 en (fun t ht => (zt_Tr_st tr).mp ht)
          -- the relation before, at g5
          have H5 : zt_H a c2 g5 := zt_H_q H2 (zt_B_q B5)
          have U5 := zt_H_U H5
          have W2 := zt_U_W U5
          have hl2 : zm_Ln c2 (c2 0 :: l) (c2 0) := by
            rw [e0]
            exact zm_Ln_cg agT hl
          obtain ⟨Ln', hag, hns⟩ := zt_Ln_new W2 fr2 n hl2
          rw [e0] at Ln' hag hns
          have hag' : ∀ t ∈ c 0 :: l, zm_ag c (zv_I k' 348) t := fun t ht w w0 w1 w7 => (hag t ht w w0 w1 w7).trans (agT t ht w w0 w1 w7)
          have s47 := fr2.1
          have nmK : ∀ y : Int, 0 ≤ y → y < 48 → (zm_nm (zv_I k' 348) x y ↔ zt_Kp c (c 0 :: l) act s y) := fun y y0 y1 => by
            rw [← nkp y, ← nk.2.2 y y0 y1, zt_nm_b y0 y1, zt_nm_b y0 y1]
            by_cases z : y < 24
            · rw [if_pos z, o10]
            · rw [if_neg z, o11]
          obtain ⟨rwN, snN⟩ := zt_sj_nam hl (List.cons_ne_nil _ _) ok g0 cwL hag' hns ha o2 nmK hv
          have edc : zt_dc (zv_I k' 348) (x :: c 0 :: l) = (zm_row c (c 0 :: l)).filter (zt_sj c (c 0 :: l) v) := by
            show (zm_row (zv_I k' 348) (x :: c 0 :: l)).filter (zm_sn (zv_I k' 348) (x :: c 0 :: l)) = _
            rw [rwN, zm_fl_cg snN]
          have un : ∀ l', zm_Ln (zv_I k' 348) (x :: l') x → l' = c 0 :: l := fun l' h' => (List.cons.inj (zm_Ln_u h' Ln')).2
          have pop : zt_pop nm = (K.length : Int) := by
            rw [← zt_cnt nk.1 (fun y hy => by
              have hy2 := (nkp y).mp hy
              have := (ok.2.2.1 y hy2.1).1
              omega)]
            refine zm_sum_cg 64 (fun i hi => ?_)
            have hb := hk i hi
            have hK := nkp (i : Int)
            unfold zt_bi
            refine zt_ind2 ?_
            rw [hb, hK]
            refine ⟨fun q => q.2, fun q => ⟨?_, q⟩⟩
            have := (ok.2.2.1 _ q.1).1
            omega
          have nact : ¬ (act = 0 ∨ act = 1) := by omega
          have ned : ¬ zm_ed (zv_I k' 348) x := fun q => nact (by
            rcases q with z | z
            · exact Or.inl (o2.symm.trans z)
            · exact Or.inr (o2.symm.trans z))
          have x0 : x ≠ 0 := fun q => by
            have h0 := W2.1.2.1.1.2
            have h1 := fr2.2.2
            rw [q] at h1
            exact h1 h0
          have U' : zt_U a (zv_I k' 348) g' := by
            refine zt_U_new U5 (zt_V_ct (zt_H_V H5)) hA' fr2 N2 W' n o2 (o3.trans rfl) o4 (o5.trans pop.symm) o6 o7 (fun t ht q j hj => zt_tn_gl P _) ?_ (fun t ht => ?_) (fun t ht => ?_) (fun q => absurd (Or.inr (o2.symm.trans q)) nact) (fun q => ?_) (fun l' h' => ?_) (fun l' h' i y hy => ?_) ?_
            · rw [zt_tn_an P, if_neg (fun q => nact (Or.inl (o2.symm.trans q.1)))]
            · rw [zt_tn_nd P, hk t ht]
              constructor
              · rintro ⟨q1, q2⟩
                exact ⟨q1, (nmK t (by omega) (by omega)).mpr q2⟩
              · rintro ⟨q1, q2⟩
                exact ⟨q1, (nmK t (by omega) (by omega)).mp q2⟩
            · rw [zt_tn_bs P, zt_b_0]
              refine ⟨fun q => (by cases q), fun q => ?_⟩
              rcases q.2.2 with z | z
              · exact absurd (Or.inl (o2.symm.trans z.1)) nact
              · exact absurd (Or.inr (o2.symm.trans z.1)) nact
            · rcases q with z | z
              · exact absurd (Or.inl (o2.symm.trans z)) nact
              · exact absurd z x0
            · rw [un l' h', edc]
              exact zt_tn_ln P
            · rw [un l' h', edc] at hy
              exact zt_tn_dc P i y hy
            · refine ⟨fun l' h' t y0 y1 hn => ?_, fun l' h' q _ => absurd (Or.inl (o2.symm.trans q)) nact, fun q => ?_, ?_⟩
              · rw [un l' h']
                have kp := (nmK t y0 y1).mp hn
                refine ⟨kp.1, ?_, ned⟩
                rw [zm_ed_cg (hag' t kp.1)]
                -- named ones are puts or cuts
                have h0 := (hk t.toNat (by omega)).mpr ⟨by omega, by rw [show ((t.toNat : Nat) : Int) = t by omega]; exact kp⟩
                obtain ⟨pp, ls, eL, hls⟩ := zm_Ln_s hl s tw.2.1
                have tb := kp.2.2.1
                unfold zt_tb at tb
                by_cases a3 : act = 3
                · rw [if_pos a3, if_neg (by decide)] at tb
                  exact (zt_tc_ed W cw tw.1 hls tw.2.2.1 kp.2.1 tb).2
                · rw [if_neg a3, if_pos rfl] at tb
                  rcases zt_tc_h tb with z | ⟨w, z, _⟩
                  · rw [z]; exact tw.2.2.1
                  · exact (zt_ln_ed W z).1
              · rw [o2] at q; omega
              · rw [o2]
                rcases ha with z | z
                · exact Or.inr (Or.inr (Or.inr (Or.inl z)))
                · exact Or.inr (Or.inr (Or.inr (Or.inr z)))
          obtain ⟨H', h2', h1'⟩ := zt_H_new H5 (by rw [e2]; exact b) fr2 N2 n o7 U'
          refine ⟨X.1, zt_k_t (zt_q_k a (zt_B_q B5)) (zt_nn_k N), F', Or.inr ⟨s47.1, rfl⟩, H', ?_, ?_⟩
          · dsimp only
            rw [h1', e1, hc]; omega
          · dsimp only
            rw [h2', e2, hc]; omega
theorem zj_withdraw {d D : Nat} {a : Nat} {c : Nat → Int} {g k : zv_H} (hA : zc_A g) (H : zt_H a c g) (hM : zm_M k) (hc : zv_I k 348 = c) (b : c 2 < 2000000000) {s : Int} (rs : zv_rg s) : ∃ q q', C0_takeBack (d + 5) a s g = some q ∧ C9_turnNow (D + 7) 347 s 2 k = some q' ∧ zt_Z a 1 g k q q' := by
  obtain ⟨l, hl, _⟩ := zt_line (zt_U_W (zt_H_U H)) (zt_U_W (zt_H_U H)).2.1
  exact zj_turn (Or.inl rfl) hA H hM hc b hl s (zc_C0_takeBack (d := d + 1) hA (zt_U_la (zt_H_U H)) rs) (zt_takeBack hA H hl s)
theorem zj_restore {d D : Nat} {a : Nat} {c : Nat → Int} {g k : zv_H} (hA : zc_A g) (H : zt_H a c g) (hM : zm_M k) (hc : zv_I k 348 = c) (b : c 2 < 2000000000) {s : Int} (rs : zv_rg s) : ∃ q q', C0_giveBack (d + 5) a s g = some q ∧ C9_turnNow (D + 7) 347 s 3 k = some q' ∧ zt_Z a 1 g k q q' := by
  obtain ⟨l, hl, _⟩ := zt_line (zt_U_W (zt_H_U H)) (zt_U_W (zt_H_U H)).2.1
  exact zj_turn (Or.inr rfl) hA H hM hc b hl s (zc_C0_giveBack (d := d + 1) hA (zt_U_la (zt_H_U H)) rs) (zt_giveBack hA H hl s)
