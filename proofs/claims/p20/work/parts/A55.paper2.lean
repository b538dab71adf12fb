/-! ===== the tie: merging on paper ===== -/
theorem zt_nst_nw {c c' : Nat → Int} {s : Int} (W : zm_W c) (h1 : 0 ≤ s ∧ s ≤ 47) (dead : zm_o c s 0 ≠ 1) (n : zm_Nw c c' s) : zm_nst c = zm_nst c' - 1 := by
  have e := zt_sum_up (f := fun k => zm_o c' k 0) (g := fun k => zm_o c k 0) (j := s.toNat) (by
    show zm_o c ((s.toNat : Nat) : Int) 0 = zm_o c' ((s.toNat : Nat) : Int) 0 - 1
    have h0 := (W.1.1 s h1.1 h1.2).resolve_right dead
    rw [show ((s.toNat : Nat) : Int) = s by omega, n.2.2.1, h0]
    rfl) 48 (fun k hk1 hk => (n.2.1 (k : Int) 0 (by omega) (by omega) (fun z => hk (by omega)) (by decide) (by decide)).symm)
  rw [if_pos (show s.toNat < 48 by omega)] at e
  exact e
theorem zt_cn_ex {c0 : Nat → Int} : ∀ (n : Nat) (c : Nat → Int), zt_cn c0 n c → zm_ex c0 c
  | 0, c, h => by
    have e : c = c0 := h
    rw [e]
    exact zm_ex_r c0
  | n + 1, c, h => by
    obtain ⟨c1, s, cn, W1, sr, dead, nw⟩ := h
    exact zm_ex_t (zt_cn_ex n c1 cn) (zm_ex_n ⟨Int.le_trans (by decide) sr.1, sr.2⟩ dead nw)
theorem zt_nch_no {c : Nat → Int} {s : Int} (h : ∀ t, zm_st c t → zm_o c t 1 ≠ s) : zm_nch c s = 0 := by
  have e : zm_nch c s = zm_sum (fun _ => 0) 48 := zm_sum_cg 48 (fun k _ => if_neg (fun q => h k q.1 q.2))
  rw [e]
  decide
theorem zt_dir {c : Nat → Int} (W : zm_W c) {t s : Int} (ht : zm_st c t) (hs : ¬ zm_st c s) (s0 : 0 ≤ s) : zm_o c t 1 ≠ s := by
  by_cases e : t = 0
  · rw [e, W.1.2.1.2.1]
    exact fun q => absurd (q ▸ s0 : (0 : Int) ≤ -1) (by decide)
  · exact fun q => hs (by rw [← q]; exact (zt_pa W ht e).1)
theorem zt_paper_l {d : Nat} {a : Nat} {c0 : Nat → Int} (st0 : zm_st c0 (c0 0)) (w : Int) {M : Nat} (M48 : M ≤ 48) : ∀ (n i : Nat) (c : Nat → Int) (g : zv_H), i + n = M → zt_cn c0 n c → zc_A g → zt_U a c g → zt_J a c g → zt_N a c g → ∃ g', L0_mergeOnPaper_60 (d + 6) a (zt_r a (c0 0)) M w i g = L0_mergeOnPaper_112 (d + 6) a w g' ∧ zc_A g' ∧ zt_U a c0 g' ∧ zt_J a c0 g' ∧ zt_N a c0 g' ∧ zt_k a g g' ∧ ∀ n j : Nat, (n = 20 ∨ n = 21 ∨ (n = 17 ∧ j = 5)) → zv_I g' (a + n) j = zv_I g (a + n) j := by
  intro n
  induction n with
  | zero =>
    intro i c g hi cn hA U J N
    have e : i = M := hi
    have ec : c = c0 := cn
    subst ec
    refine ⟨g, ?_, hA, U, J, N, zt_k_r a g, fun _ _ _ => rfl⟩
    rw [qL0_mergeOnPaper_60, e, if_neg (Int.lt_irrefl _)]
  | succ n ih =>
    intro i c g hi cn hA U J N
    obtain ⟨c1, s, cn1, W1, sr, dead, nw⟩ := cn
    have la := zt_U_la U
    have gL := zt_L_A hA
    have W := zt_U_W U
    have s47 : 0 ≤ s ∧ s ≤ 47 := ⟨Int.le_trans (by decide) sr.1, sr.2⟩
    have hst := fun {t : Int} => zm_Nw_st s47 nw (t := t)
    have hs : zm_st c s := hst.mpr (Or.inl rfl)
    have hdead : ¬ zm_st c1 s := fun q => dead q.2
    have ex1 := zt_cn_ex n c1 cn1
    have b1 := (ex1 _ st0).1
    have nsb : s ≠ c0 0 := fun q => hdead (by rw [q]; exact b1)
    have c00 : c 0 = s := (nw.1 0 (Or.inl (by decide)) (by decide)).trans (zm_vc_0 _ s47)
    have pa : zm_o c s 1 = c1 0 := nw.2.2.2
    have p1 := W1.2.1
    have pns : c1 0 ≠ s := fun q => hdead (by rw [← q]; exact p1)
    have p2 : zm_st c (c1 0) := hst.mpr (Or.inr ⟨pns, p1⟩)
    have lS := zt_r_l la s47
    have lP := zt_r_l la p1.1
    have S := zt_U_st U s hs
    have he : zv_R g a 10 = zt_r a s := by rw [zt_U_he U, c00]
    have epa : zv_R g (zt_r a s) 4 = zt_r a (c1 0) := by rw [zt_S_pa S, pa]
    have hA2 := zc_hereA hA la (zt_U_V U p2) (zt_inr la p1.1 (n := 0) (by decide)).2.2
    have gL2 := zt_L_A hA2
    have na : ∀ Q : Nat, zv_lay Q = (1, 5) → Q ≠ a := fun Q lQ q => by rw [q] at lQ; rw [lQ] at la; exact absurd la (by decide)
    have hR2 : ∀ r k, ¬ (r = a ∧ k = 10) → zv_R (zv_sR g a 10 (zt_r a (c1 0))) r k = zv_R g r k := fun r k q => if_neg q
    have r10 : zv_R (zv_sR g a 10 (zt_r a (c1 0))) a 10 = zt_r a (c1 0) := if_pos ⟨rfl, rfl⟩
    have nch : zm_nch c s = 0 := zt_nch_no (fun t ht => by
      rcases hst.mp ht with q | ⟨q1, q2⟩
      · rw [q, pa]; exact pns
      · rw [nw.2.1 t 1 q2.1.1 (Int.le_trans q2.1.2 (by decide)) q1 (by decide) (by decide)]
        exact zt_dir W1 q2 hdead s47.1)
    have neP : zt_r a (c1 0) ≠ zt_r a s := fun q => pns (zt_r_inj la p1.1 s47 q)
    obtain ⟨g7, e7, R⟩ := zt_remove (d := d + 4) (s := s) gL2 la lS lP ((hR2 _ _ (fun q => na _ lS q.1)).trans epa) (show zv_I g (zt_r a s) 0 = s from zt_num U hs) neP
    obtain ⟨hA7, X7⟩ : zc_A g7 ∧ True := by
      obtain ⟨q, e, w⟩ := zc_C0_remove (d := d + 4) hA2 la (s := zt_r a s) ⟨lS, (zt_U_V U hs).2⟩ (zt_inr la s47 (n := 0) (by decide)).2.2 ((zt_S_ch S).trans nch) (by rw [r10]; exact neP)
      rw [e7] at e
      cases e
      exact ⟨w.1.2, trivial⟩
    have R' : zt_rm a (zt_r a s) (zt_r a (zm_o c s 1)) s (zv_sR g a 10 (zt_r a (c1 0))) g7 := by rw [pa]; exact R
    have U7 : zt_U a c1 g7 := by
      refine zt_U_rm (c' := c1) (g0 := zv_sR g a 10 (zt_r a (c1 0))) U R' (fun _ _ => rfl) hR2 (fun _ _ => rfl) hA7 hs W1 (fun t ht => ?_) (fun j hj => ?_) (fun t ht => ?_) r10 ?_ ?_
      · have tn : t ≠ s := fun q => hdead (by rw [← q]; exact ht)
        exact ⟨hst.mpr (Or.inr ⟨tn, ht⟩), tn⟩
      · by_cases e : (j : Int) = s
        · rw [if_pos e, e]
          exact (W1.1.1 s s47.1 s47.2).resolve_right dead
        · rw [if_neg e]
          exact (nw.2.1 (j : Int) 0 (Int.natCast_nonneg _) (Int.ofNat_le.mpr (Nat.le_of_lt hj)) e (by decide) (by decide)).symm
      · have tn : t ≠ s := fun q => hdead (by rw [← q]; exact ht)
        exact ⟨zm_Nw_ag nw ht.1.1 (Int.le_trans ht.1.2 (by decide)) tn, (nw.2.1 t 7 ht.1.1 (Int.le_trans ht.1.2 (by decide)) tn (by decide) (by decide)).symm⟩
      · rw [nw.1 1 (Or.inl (by decide)) (by decide), zt_vc_1]
      · exact zt_nst_nw W1 s47 dead nw
    have hd := zm_Nw_hd s47 nw
    have hI : ∀ n k, n ≤ 27 → n ≠ 1 → n ≠ 2 → n ≠ 3 → n ≠ 18 → ¬ (n = 0 ∧ k = 12) → zv_I g7 (a + n) k = zv_I g (a + n) k := fun n k n0 n1 n2 n3 n18 n12 => by
      refine zt_rm_I R _ k (fun q => zt_hs (a := a) (x := 0) s47 n0 (by decide) n1 n2 n3 q.1) (fun q => ?_) (fun q => n18 (Nat.add_left_cancel q)) (fun q => n12 ⟨Nat.add_left_cancel (q.1.trans (Nat.add_zero a).symm), q.2⟩)
      exact zt_hs (a := a) (x := 0) p1.1 n0 (by decide) n1 n2 n3 q.1
    have J7 : zt_J a c1 g7 := zt_J_c (zt_J_cg J (fun r k r1 r2 => by
      obtain ⟨n, rfl⟩ : ∃ n, r = a + n := ⟨r - a, (Nat.add_sub_cancel' (Nat.le_trans (Nat.le_add_right _ _) r1)).symm⟩
      exact hI n k (by clear hs hst; omega) (by clear hs hst; omega) (by clear hs hst; omega) (by clear hs hst; omega) (by clear hs hst; omega) (by clear hs hst; omega))) W.2.2.2.1.2 hd.2.1.symm (fun k k1 k2 => (hd.2.2.1 k k1 (Nat.lt_trans k2 (by decide))).symm)
    have N7 : zt_N a c1 g7 := zt_N_c N W.2.2.1.2 hd.1.symm (fun k k1 k2 => (hd.2.2.1 k (Nat.le_trans (by decide) k1) k2).symm) (fun r k r1 r2 => by
      obtain ⟨n, rfl⟩ : ∃ n, r = a + n := ⟨r - a, (Nat.add_sub_cancel' (Nat.le_trans (Nat.le_add_right _ _) r1)).symm⟩
      exact hI n k (by clear hs hst; omega) (by clear hs hst; omega) (by clear hs hst; omega) (by clear hs hst; omega) (by clear hs hst; omega) (by clear hs hst; omega))
    have iM : i < M := by clear hs hst; omega
    have wi : zv_w ((i : Int) + 1) = ((i + 1 : Nat) : Int) := zt_pr7 (Int.lt_of_lt_of_le (Int.ofNat_lt.mpr iM) (Int.ofNat_le.mpr M48))
    obtain ⟨g', y1, y2, y3, y4, y5, y6, y7⟩ := ih (i + 1) c1 g7 (by clear hs hst; omega) cn1 hA7 U7 J7 N7
    have k2 : zt_k a g (zv_sR g a 10 (zt_r a (c1 0))) := zt_k_of rfl rfl (fun _ _ _ => rfl) (fun _ _ _ => rfl) (fun r k hr => hR2 r k (fun q => hr (by rw [q.1]; exact zt_inA la (n := 0) (by decide))))
    have k7 : zt_k a (zv_sR g a 10 (zt_r a (c1 0))) g7 := zt_rm_k la R (show zt_in a (zt_r a s) from zt_inr la s47 (n := 0) (by decide)) (show zt_in a (zt_r a (c1 0)) from zt_inr la p1.1 (n := 0) (by decide))
    refine ⟨g', ?_, y2, y3, y4, y5, zt_k_t (zt_k_t k2 k7) y6, fun n j q => (y7 n j q).trans (hI n j (by clear hs hst; omega) (by clear hs hst; omega) (by clear hs hst; omega) (by clear hs hst; omega) (by clear hs hst; omega) (by clear hs hst; omega))⟩
    rw [qL0_mergeOnPaper_60, if_pos (Int.ofNat_lt.mpr iM), zm_e (zl_gR gL la 10), he, if_neg (zt_fo1000 (zt_r1000 U hs) (zt_r1000 U (zt_cn_ex (n + 1) c ⟨c1, s, cn1, W1, sr, dead, nw⟩ _ st0).1)), if_neg (fun q => nsb (zt_r_inj la s47 st0.1 q)), zm_e (zl_gR gL la 10), he, zm_e (zl_gR gL lS 4), epa, if_neg (zc_nz lP), zm_e (zl_gR gL la 10), he, zm_e (zl_gR gL lS 4), epa, zm_e (zl_pR gL la 10 _), zm_e e7, wi]
    exact y1
