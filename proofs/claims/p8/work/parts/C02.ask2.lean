/-! ===== what is asked, answered alike: of one State; behind so many undo ===== -/
section
variable {a b m : Nat} {g k : zv_H}
/-- the first of one's group, as a number -/
theorem za_fst {c : Nat → Int} (hA : zc_A g) (U : zt_U a c g) {s : Int} (hs : zm_st c s) : zm_st c (zm_o c s 6) ∧ zv_R g (zt_r a s) 5 = zt_r a (zm_o c s 6) := by
  have la := zt_U_la U
  have W := zt_U_W U
  have fi := zt_S_fi (zt_U_st U s hs)
  refine ⟨?_, fi⟩
  by_cases z : s = 0
  · subst z
    have lS := zt_r_l la hs.1
    have e4 : zv_R g (zt_r a 0) 4 = 0 := by
      rw [zt_S_pa (zt_U_st U 0 hs), W.1.2.1.2.1]
      rfl
    have e5 : zv_R g (zt_r a 0) 5 = zt_r a 0 := by
      rcases hA.2.1 _ lS with t | t
      · have h1 := zt_U_lv U 0 (by decide)
        have h2 := t.1
        rw [zt_r_p (by decide)] at h2
        have h3 : zv_I g (zc_stt a 0) 3 = 0 := h2
        rw [h1] at h3
        have h4 : zm_o c 0 0 = 1 := hs.2
        have h5 : zm_o c ((0 : Nat) : Int) 0 = zm_o c 0 0 := rfl
        omega
      · rcases t.2.2.2.1 with u | u
        · exact u
        · exact absurd e4 u.1
    rw [e5] at fi
    have f0 : zm_o c 0 6 = 0 := by
      generalize zm_o c 0 6 = f at fi
      by_cases f0 : f < 0
      · rw [zt_r_n f0] at fi
        exact absurd fi (zt_r0 U hs)
      · rw [zt_r_p (by omega : (0 : Int) ≤ 0), zt_r_p (by omega : 0 ≤ f)] at fi
        unfold zc_stt at fi
        rw [if_pos (show Int.toNat 0 = 0 from rfl)] at fi
        by_cases c0 : f.toNat = 0
        · omega
        · rw [if_neg c0] at fi
          omega
    rw [f0]
    exact hs
  · exact (zm_fp W.1 hs z).1
theorem zp_state {d D : Nat} (hA : zc_A g) (I : zm_MI k) (S : zt_GG m a b g k) (s w : Int) : ∃ v g' k', C8_state (d + 28) 1 s w g = some (v, g') ∧ C9_state (D + 28) 347 s w k = some (v, k') := by
  have gL := zt_L_A hA
  have hM := I.1
  have l1 : zv_lay 1 = (1, 8) := rfl
  have la := (zt_lab (zt_GG_ab S)).1
  have qC := qE8_state (d + 27) 1 s w g
  have qR := qE9_state (D + 27) 347 s w k
  rw [zm_e (zc_within (d := d + 26) g w 0 9)] at qC
  rw [zm_e (zm_isIn (h := k) (D + 26) w 0 9)] at qR
  dsimp only at qC qR
  by_cases cw : 0 ≤ w ∧ w ≤ 9
  rotate_left
  · rw [if_neg cw, if_pos rfl, za_ref gL] at qC
    rw [if_neg cw, if_pos rfl, qL9_state_28, za_isn hM (by decide)] at qR
    exact ⟨_, _, _, lC8_state (zl_ob gL l1) qC, lC9_state (zm_ob hM) qR⟩
  rw [if_pos cw, if_neg (by decide), zm_e (zp_e3 hA S), zm_e (za_at (d := d + 26) hA S s)] at qC
  dsimp only at qC
  rw [if_pos cw, if_neg (by decide), zm_e (zm_isState hM (D + 25) s)] at qR
  dsimp only at qR
  by_cases hs : zm_st (zv_I k 348) s
  rotate_left
  · rw [if_neg hs, if_pos rfl, za_ref gL] at qC
    rw [if_neg hs, if_pos rfl, qL9_state_28, za_isn hM (by decide)] at qR
    exact ⟨_, _, _, lC8_state (zl_ob gL l1) qC, lC9_state (zm_ob hM) qR⟩
  obtain ⟨k1, i1, F1⟩ := zp_is hM
  have S1 := zt_GG_F S F1
  have M1 := zm_F_M F1 hM
  have H1 := zt_GG_H S1
  have U := zt_H_U H1
  have W := zt_U_W U
  have e348 : zv_I k1 348 = zv_I k 348 := zm_F_a F1 348
  have hs1 : zm_st (zv_I k1 348) s := by rw [e348]; exact hs
  have h48 : 0 ≤ s ∧ s ≤ 48 := zm_st48 hs
  have lr := zt_r_l la hs.1
  have u := zt_U_st U s hs1
  rw [if_pos hs, if_neg (za_r0 S hs)] at qC
  rw [if_pos hs, if_neg (by decide), qL9_state_28, za_isy i1] at qR
  dsimp only at qR
  have low : ∀ x : Nat, x < 6 → w = (x : Int) → E9_state (D + 27) 347 s w k = some (some (zv_i (zm_o (zv_I k1 348) s (1 + (x : Int)))), k1) := fun x hx e => by
    rw [qR, if_pos (by omega), e, zm_w (by omega), zm_e (zm_of M1 (D + 26) h48 (by omega))]
  by_cases c0 : w = 0
  · have q := low 0 (by decide) c0
    rw [if_pos c0, zm_e (zl_gR gL lr 4), zt_S_pa u] at qC
    have q' : E9_state (D + 27) 347 s w k = some (some (zv_i (zm_o (zv_I k1 348) s 1)), k1) := q
    obtain ⟨l, hl⟩ := zm_WL_of W.1 s hs1
    by_cases z : s = 0
    · subst z
      have p := W.1.2.1.2.1
      rw [p, if_pos (zt_r_n (by decide)), qL8_state_107, za_giv gL] at qC
      rw [p] at q'
      exact ⟨_, _, _, lC8_state (zl_ob gL l1) qC, lC9_state (zm_ob hM) q'⟩
    · obtain ⟨l2, h2, _⟩ := zt_line W hs1
      have hp : zm_st (zv_I k1 348) (zm_o (zv_I k1 348) s 1) := by
        obtain ⟨l3, h3⟩ := W.1.2.2 s hs1
        have l4 := h3.2.1
        have h5 := h3.1
        cases l3 with
        | nil =>
          have : s = 0 := by
            have := l4.2.1
            rw [List.getLast?_singleton] at this
            exact Option.some.inj this
          exact absurd this z
        | cons p l3 =>
          have e := (zt_pa_cons U hs1 h5).2.2
          rw [e]
          exact l4.2.2 p (List.mem_cons_of_mem _ List.mem_cons_self)
      rw [if_neg (zt_r0 U hp), zm_e (zl_gR gL lr 4), zt_S_pa u, zm_e (za_num S1 hA hp), qL8_state_107, za_giv gL] at qC
      exact ⟨_, _, _, lC8_state (zl_ob gL l1) qC, lC9_state (zm_ob hM) q'⟩
  rw [if_neg c0] at qC
  by_cases c1 : w = 1
  · have q := low 1 (by decide) c1
    rw [if_pos c1, zm_e (zl_gI gL lr 6), zt_S_ac u, za_giv gL] at qC
    exact ⟨_, _, _, lC8_state (zl_ob gL l1) qC, lC9_state (zm_ob hM) q⟩
  rw [if_neg c1] at qC
  by_cases c2 : w = 2
  · have q := low 2 (by decide) c2
    rw [if_pos c2, zm_e (zl_gI gL lr 7), zt_S_ti u, za_giv gL] at qC
    exact ⟨_, _, _, lC8_state (zl_ob gL l1) qC, lC9_state (zm_ob hM) q⟩
  rw [if_neg c2] at qC
  by_cases c3 : w = 3
  · have q := low 3 (by decide) c3
    rw [if_pos c3, zm_e (zl_gI gL lr 8), zt_S_pl u, za_giv gL] at qC
    exact ⟨_, _, _, lC8_state (zl_ob gL l1) qC, lC9_state (zm_ob hM) q⟩
  rw [if_neg c3] at qC
  by_cases c4 : w = 4
  · have q := low 4 (by decide) c4
    rw [if_pos c4, zm_e (zl_gI gL lr 9), zt_S_sz u, za_giv gL] at qC
    exact ⟨_, _, _, lC8_state (zl_ob gL l1) qC, lC9_state (zm_ob hM) q⟩
  rw [if_neg c4] at qC
  by_cases c5 : w = 5
  · have q := low 5 (by decide) c5
    obtain ⟨hf, ef⟩ := za_fst hA U hs1
    rw [if_pos c5, zm_e (zl_gR gL lr 5), ef, if_neg (zt_r0 U hf), zm_e (zl_gR gL lr 5), ef, zm_e (za_num S1 hA hf), qL8_state_166, za_giv gL] at qC
    exact ⟨_, _, _, lC8_state (zl_ob gL l1) qC, lC9_state (zm_ob hM) q⟩
  rw [if_neg c5] at qC
  rw [if_neg (show ¬ w < 6 by omega)] at qR
  by_cases c6 : w = 6
  · rw [if_pos c6, zm_e (zl_gI gL lr 11), zt_S_ch u, za_giv gL] at qC
    rw [if_pos c6, zm_e (zm_childrenOf M1 (D + 24) s)] at qR
    exact ⟨_, _, _, lC8_state (zl_ob gL l1) qC, lC9_state (zm_ob hM) qR⟩
  rw [if_neg c6] at qC qR
  obtain ⟨l, hW1, hl2, hG, hT⟩ := zm_W_l W.1 hs1
  have hl := hW1.1
  by_cases c7 : w = 7
  · rw [if_pos c7, zm_e (zl_gI gL lr 10), zt_S_de u l hl, za_giv gL] at qC
    rw [if_pos c7, zm_e (zm_depthOf M1 (D + 25) hl (by omega))] at qR
    exact ⟨_, _, _, lC8_state (zl_ob gL l1) qC, lC9_state (zm_ob hM) qR⟩
  rw [if_neg c7] at qC qR
  by_cases c8 : w = 8
  · obtain ⟨⟨n, k2⟩, e2, en, _⟩ := zm_lettersOf M1 (D + 22) (zm_sees_st M1 rfl (D + 22) hW1 hl2 hG hT)
    have en' : n = ((zm_row (zv_I k1 348) (s :: l)).filter (zm_sn (zv_I k1 348) (s :: l))).length := en
    rw [if_pos c8, zm_e (zl_gI gL lr 12), zt_S_ln u l hl, za_giv gL] at qC
    rw [if_pos c8, zm_e e2, en'] at qR
    exact ⟨_, _, _, lC8_state (zl_ob gL l1) qC, lC9_state (zm_ob hM) qR⟩
  rw [if_neg c8] at qC qR
  obtain ⟨n, n1, n2⟩ := zt_count (d := d + 26) (D := D + 26) gL la (zt_H_N H1) M1 rfl W.2.2.1 s
  rw [zm_e (zp_e3 hA S), zm_e (zl_gF gL la 6 14), zm_e (za_num S1 hA hs1), zm_e n1] at qC
  dsimp only at qC
  rw [za_giv gL] at qC
  rw [zm_e n2] at qR
  exact ⟨_, _, _, lC8_state (zl_ob gL l1) qC, lC9_state (zm_ob hM) qR⟩
/-- so many undo, on both -/
theorem za_behind {d D n : Nat} (hA : zc_A g) (S : zt_GG m a b g k) (hM : zm_M k) (hn : n ≤ 48) : ∀ (r i : Nat) (x : Int), i + r = n → zm_st (zv_I k 348) x → ∃ (v : Nat) (w : Int) (k' : zv_H), L0_behind_7 d n (zt_r a x) i g = some (some (zv_r v), g) ∧ L9_back_31 (D + 1) 347 n x i k = some (some (zv_i w), k') ∧ ((v = 0 ∧ w = -1) ∨ (zm_st (zv_I k 348) w ∧ v = zt_r a w)) := by
  have gL := zt_L_A hA
  have U := zt_H_U (zt_GG_H S)
  have la := zt_U_la U
  have W := zt_U_W U
  intro r
  induction r with
  | zero =>
    intro i x hi hx
    exact ⟨zt_r a x, x, k, by rw [qL0_behind_7, if_neg (by omega)], by rw [qL9_back_31, if_neg (by omega)], Or.inr ⟨hx, rfl⟩⟩
  | succ r ih =>
    intro i x hi hx
    have lr := zt_r_l la hx.1
    have w1 : zv_w ((i : Int) + 1) = ((i + 1 : Nat) : Int) := by
      rw [zm_w (by omega)]
      rfl
    obtain ⟨hf, ef⟩ := za_fst hA U hx
    have lf := zt_r_l la hf.1
    by_cases z : x = 0
    · obtain ⟨f1, f2, f3⟩ := zt_fp hA U hx
      have fp : zt_fpp (zv_I k 348) x = -1 := if_pos z
      rw [fp, ef] at f2
      have f2' : zv_R g (zt_r a (zm_o (zv_I k 348) x 6)) 4 = 0 := f2
      refine ⟨0, -1, _, ?_, by rw [qL9_back_31, if_pos (by omega), if_pos z, za_rf hM], Or.inl ⟨rfl, rfl⟩⟩
      rw [qL0_behind_7, if_pos (by omega), if_neg (zt_r0 U hx), zm_e (zl_gR gL lr 5), ef, if_neg (zt_r0 U hf), zm_e (zl_gR gL lr 5), ef, zm_e (zl_gR gL lf 4), f2', w1, qL0_behind_7]
      by_cases c : ((i + 1 : Nat) : Int) < (n : Int)
      · rw [if_pos c, if_pos rfl]
      · rw [if_neg c]
    · obtain ⟨hf1, hp⟩ := zm_fp W.1 hx z
      obtain ⟨v, w, k', e1, e2, e3⟩ := ih (i + 1) (zm_o (zv_I k 348) (zm_o (zv_I k 348) x 6) 1) (by omega) hp
      refine ⟨v, w, k', ?_, ?_, e3⟩
      · rw [qL0_behind_7, if_pos (by omega), if_neg (zt_r0 U hx), zm_e (zl_gR gL lr 5), ef, if_neg (zt_r0 U hf), zm_e (zl_gR gL lr 5), ef, zm_e (zl_gR gL lf 4), zt_S_pa (zt_U_st U _ hf), w1]
        exact e1
      · rw [qL9_back_31, if_pos (by omega), if_neg z, zm_e (zm_of hM D (zm_st48 hx) (by decide))]
        dsimp only
        rw [zm_e (zm_of hM D (zm_st48 hf) (by decide)), w1]
        exact e2
theorem zp_back {d D : Nat} (hA : zc_A g) (I : zm_MI k) (S : zt_GG m a b g k) (n : Int) : ∃ v g' k', C8_back (d + 28) 1 n g = some (v, g') ∧ C9_back (D + 28) 347 n k = some (v, k') := by
  have gL := zt_L_A hA
  have hM := I.1
  have l1 : zv_lay 1 = (1, 8) := rfl
  have la := (zt_lab (zt_GG_ab S)).1
  have qC := qE8_back (d + 27) 1 n g
  have qR := qE9_back (D + 27) 347 n k
  rw [zm_e (zc_within (d := d + 26) g n 1 48)] at qC
  rw [zm_e (zm_isIn (h := k) (D + 26) n 1 48)] at qR
  dsimp only at qC qR
  by_cases cw : 1 ≤ n ∧ n ≤ 48
  rotate_left
  · rw [if_neg cw, if_pos rfl, za_ref gL] at qC
    rw [if_neg cw, if_pos rfl, qL9_back_16, za_isn hM (by decide)] at qR
    exact ⟨_, _, _, lC8_back (zl_ob gL l1) qC, lC9_back (zm_ob hM) qR⟩
  obtain ⟨j, rfl⟩ : ∃ j : Nat, n = j := ⟨n.toNat, by omega⟩
  obtain ⟨k1, i1, F1⟩ := zp_is hM
  have S1 := zt_GG_F S F1
  have M1 := zm_F_M F1 hM
  have U := zt_H_U (zt_GG_H S1)
  have W := zt_U_W U
  obtain ⟨v, w, k', e1, e2, e3⟩ := za_behind (d := d + 26) (D := D + 26) hA S1 M1 (show j ≤ 48 by omega) j 0 (zv_I k1 348 0) (Nat.zero_add _) W.2.1
  have eb : C0_behind (d + 27) a (j : Int) g = some (v, g) := lC0_behind (zl_ob gL la) (by
    rw [qE0_behind, zm_e (zl_gR gL la 10), zt_U_he U]
    exact e1)
  rw [if_pos cw, if_neg (by decide), zm_e (zp_e3 hA S), zm_e eb] at qC
  dsimp only at qC
  rw [if_pos cw, if_neg (by decide), qL9_back_16, za_isy i1] at qR
  dsimp only at qR
  rw [zm_e (zm_here M1 _)] at qR
  dsimp only at qR
  have e2' : L9_back_31 (D + 27) 347 (j : Int) (zv_I k1 348 0) 0 k1 = some (some (zv_i w), k') := e2
  rw [e2'] at qR
  rcases e3 with ⟨z1, z2⟩ | ⟨z1, z2⟩
  · rw [if_pos z1, za_ref gL] at qC
    rw [z2] at qR
    exact ⟨_, _, _, lC8_back (zl_ob gL l1) qC, lC9_back (zm_ob hM) qR⟩
  · rw [z2, if_neg (zt_r0 U z1), zm_e (za_num S1 hA z1), za_giv gL] at qC
    exact ⟨_, _, _, lC8_back (zl_ob gL l1) qC, lC9_back (zm_ob hM) qR⟩
end
