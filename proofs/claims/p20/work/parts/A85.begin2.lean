/-! ===== the tie: all anew, the class: the States one by one, then the rest ===== -/
theorem zt_begin {d : Nat} {h0 : zv_H} {b : Nat} (ha : zv_lay b = (1, 0)) (hB : zc_Bh b h0) : ∃ h, C0_begin (d + 4) b h0 = some h ∧ zt_bx b h0 h := by
  have lo : zv_lay (b + 4) = (6, 48) ∧ zv_lay (b + 14) = (1, 2) ∧ zv_lay (b + 17) = (1, 6) ∧ zv_lay (b + 22) = (1, 1) ∧ zv_lay (b + 23) = (2, 176) ∧ zv_lay (b + 24) = (2, 176) := by cases zc_lh ha with
    | inl e => rw [e]; exact ⟨rfl, rfl, rfl, rfl, rfl, rfl⟩
    | inr e => rw [e]; exact ⟨rfl, rfl, rfl, rfl, rfl, rfl⟩
  have oa : zv_ob h0 b 0 := ⟨hB.1 b (Nat.le_refl _) (by omega), ha⟩
  have fa : ∀ k v, zc_off 0 k = v → v ≠ 0 → zv_R h0 b k = b + v := fun k v e n => by
    have := hB.2.1 b k (Nat.le_refl _) (by omega) (by rw [ha]) (by rw [ha]; dsimp only; rw [e]; exact n)
    rw [this, ha]
    dsimp only
    rw [e]
  have la : ∀ j, j < 48 → ∀ r x, zv_lay r = x → x ≠ (1, 5) → r ≠ zc_stt b j := fun j hj r x e n q => n (by rw [← e, q]; exact (zc_stl ha hj).1)
  refine zm_cV (P := fun h => zt_bx b h0 h) (fun e => lC0_begin oa e) ?_
  rw [qE0_begin]
  have loop : ∀ (n : Nat) (i : Nat) (h : zv_H), i + n = 48 → zt_bgi b h0 h i → zm_R (L0_begin_2 (d + 3) b (i : Int) h) (zm_V fun h => zt_bx b h0 h) := by
    intro n
    induction n with
    | zero =>
      intro i h hi hs
      have hi' : i = 48 := by omega
      subst hi'
      obtain ⟨s1, s2, s3, s4⟩ := hs
      have nn : zv_n h = zv_n h0 := by unfold zv_n; rw [s1]
      have oa' : zv_ob h b 0 := ⟨by rw [nn]; exact oa.1, ha⟩
      have ra : zv_R h b = zv_R h0 b := (s3 b (fun j hj => la j hj b _ ha (by decide))).2.2
      have on : zv_ob h (b + 14) 2 := ⟨by rw [nn]; exact hB.1 _ (by omega) (by omega), lo.2.1⟩
      have ov : zv_ob h (b + 17) 6 := ⟨by rw [nn]; exact hB.1 _ (by omega) (by omega), lo.2.2.1⟩
      have rk : ∀ k v, k ≠ 10 → zc_off 0 k = v → v ≠ 0 → zv_R (zv_sR h b 10 (b + 1)) b k = b + v := fun k v hk e n => by
        have q : zv_R (zv_sR h b 10 (b + 1)) b k = zv_R h b k := if_neg (fun q => hk q.2)
        rw [q, ra]
        exact fa k v e n
      rw [qL0_begin_2, if_neg (by omega), zm_e (show zv_gR h b 0 0 = some (b + 1) from (if_pos oa').trans (by rw [ra, fa 0 1 rfl (by decide)]))]
      refine zc_dR oa' ?_
      refine zc_dI oa' ?_
      refine zc_dI oa' ?_
      refine zc_eR oa' (rk 6 14 (by decide) rfl (by decide)) ?_
      refine zc_dI on ?_
      refine zc_eR oa' (rk 7 17 (by decide) rfl (by decide)) ?_
      refine zc_dI ov ?_
      refine zc_eR oa' (rk 8 22 (by decide) rfl (by decide)) ?_
      have jr : ∀ k v, zc_off 1 k = v → v ≠ 0 → zv_R h (b + 22) k = b + 22 + v := fun k v e n => by
        have q1 : zv_R h (b + 22) = zv_R h0 (b + 22) := (s3 _ (fun j hj => la j hj _ _ lo.2.2.2.1 (by decide))).2.2
        have := hB.2.1 (b + 22) k (by omega) (by omega) (by rw [lo.2.2.2.1]) (by rw [lo.2.2.2.1]; dsimp only; rw [e]; exact n)
        rw [q1, this, lo.2.2.2.1]
        dsimp only
        rw [e]
      have jR : ∀ k, zv_R (zv_sR h b 10 (b + 1)) (b + 22) k = zv_R h (b + 22) k := fun k => if_neg (fun q => by omega)
      have jo : zc_jo (b + 22) (zv_sI (zv_sI (zv_sI (zv_sI (zv_sR h b 10 (b + 1)) b 11 0) b 12 1) (b + 14) 2 0) (b + 17) 4 0) := ⟨lo.2.2.2.1, lo.2.2.2.2.1, lo.2.2.2.2.2, by show b + 22 + 2 ≤ zv_n h; rw [nn]; exact hB.1 _ (by omega) (by omega), (jR 0).trans (jr 0 1 rfl (by decide)), (jR 1).trans (jr 1 2 rfl (by decide))⟩
      obtain ⟨g, eg, j, S⟩ := zt_usualo (d := d) jo
      rw [zm_e eg]
      -- what is seen behind it
      have gI : ∀ r k, r ≠ b + 22 → r ≠ b + 23 → r ≠ b + 24 → zv_I g r k = zv_I (zv_sI (zv_sI (zv_sI (zv_sI (zv_sR h b 10 (b + 1)) b 11 0) b 12 1) (b + 14) 2 0) (b + 17) 4 0) r k := j.2.2
      have gJ : g.2.2.1 = h.2.2.1 := by
        have := congrArg (fun z : (Nat → Nat → Int64) × ((Nat → Nat → Nat) × (Nat × (Nat → Int))) => z.1) j.2.1
        exact this
      have gR : ∀ r k, zv_R g r k = zv_R (zv_sR h b 10 (b + 1)) r k := fun r k => by
        have := congrArg (fun z : (Nat → Nat → Int64) × ((Nat → Nat → Nat) × (Nat × (Nat → Int))) => z.2.1 r k) j.2.1
        exact this
      have oth : ∀ r k, r ≠ b → r ≠ b + 14 → r ≠ b + 17 → r ≠ b + 22 → r ≠ b + 23 → r ≠ b + 24 → zv_I g r k = zv_I h r k := fun r k q1 q2 q3 q4 q5 q6 => by
        rw [gI r k q4 q5 q6, zy_In _ _ (fun q => q3 q.1), zy_In _ _ (fun q => q2 q.1), zy_In _ _ (fun q => q1 q.1), zy_In _ _ (fun q => q1 q.1)]
        rfl
      have stn : ∀ i, i < 48 → ∀ x, zv_lay (b + x) ≠ (1, 5) → zc_stt b i ≠ b + x := fun i hi x hx e => hx (by rw [← e]; exact (zc_stl ha hi).1)
      refine zm_iV ⟨j.1.trans s1, ?_, fun i hi => ?_, ?_, ?_, ?_, ?_, ?_, S, fun r k q0 q1 q2 q3 q4 q5 q6 => ?_, fun r k q0 => ?_, fun r k q0 q1 => ?_⟩
      · have := congrArg (fun z : (Nat → Nat → Int64) × ((Nat → Nat → Nat) × (Nat × (Nat → Int))) => z.2.2) j.2.1
        exact this.trans s2
      · refine zt_fs_o (s4 i hi) ⟨?_, congrFun gJ _, ?_⟩
        · funext k
          exact oth _ k (fun e => absurd (show zv_lay b = (1, 5) by rw [← e]; exact (zc_stl ha hi).1) (by rw [ha]; decide)) (stn i hi 14 (by rw [lo.2.1]; decide)) (stn i hi 17 (by rw [lo.2.2.1]; decide)) (stn i hi 22 (by rw [lo.2.2.2.1]; decide)) (stn i hi 23 (by rw [lo.2.2.2.2.1]; decide)) (stn i hi 24 (by rw [lo.2.2.2.2.2]; decide))
        · funext k
          refine (gR _ k).trans (if_neg (fun q => ?_))
          exact absurd (show zv_lay b = (1, 5) by rw [← q.1]; exact (zc_stl ha hi).1) (by rw [ha]; decide)
      · exact (gR b 10).trans (if_pos ⟨rfl, rfl⟩)
      · rw [gI b 11 (by omega) (by omega) (by omega), zy_In _ _ (fun q => absurd q.1 (by omega)), zy_In _ _ (fun q => absurd q.1 (by omega)), zy_In _ _ (fun q => absurd q.2 (by decide)), zy_I]
      · rw [gI b 12 (by omega) (by omega) (by omega), zy_In _ _ (fun q => absurd q.1 (by omega)), zy_In _ _ (fun q => absurd q.1 (by omega)), zy_I]
      · rw [gI (b + 14) 2 (by omega) (by omega) (by omega), zy_In _ _ (fun q => absurd q.1 (by omega)), zy_I]
      · rw [gI (b + 17) 4 (by omega) (by omega) (by omega), zy_I]
      · exact (oth r k q1 q2 q3 q4 q5 q6).trans (congrFun (s3 r q0).1 k)
      · exact (congrFun (congrFun gJ r) k).trans (congrFun (s3 r q0).2.1 k)
      · exact ((gR r k).trans (if_neg q1)).trans (congrFun (s3 r q0).2.2 k)
    | succ n ih =>
      intro i h hi hs
      have hi' : i < 48 := by omega
      have sl := zc_stl ha hi'
      obtain ⟨s1, s2, s3, s4⟩ := hs
      have nn : zv_n h = zv_n h0 := by unfold zv_n; rw [s1]
      have a4 : b + 4 ≤ zv_n h0 := hB.1 _ (by omega) (by omega)
      have ra : zv_R h b = zv_R h0 b := (s3 b (fun j hj => la j (by omega) b _ ha (by decide))).2.2
      have r4 : zv_R h (b + 4) = zv_R h0 (b + 4) := (s3 _ (fun j hj => la j (by omega) _ _ lo.1 (by decide))).2.2
      have g1 : ∀ g : zv_H, zv_n g = zv_n h0 → zv_R g b = zv_R h0 b → zv_gR g b 0 1 = some (b + 4) := fun g e1 e2 => (if_pos (show b ≤ zv_n g ∧ _ from ⟨by rw [e1]; exact oa.1, ha⟩)).trans (by rw [e2, fa 1 4 rfl (by decide)])
      have g2 : ∀ g : zv_H, zv_n g = zv_n h0 → zv_R g (b + 4) = zv_R h0 (b + 4) → zv_aR g (b + 4) (i : Int) = some (zc_stt b i) := fun g e1 e2 => by
        unfold zv_aR
        rw [if_pos ⟨by rw [e1]; exact a4, by rw [lo.1], by omega, by rw [lo.1]; omega⟩, e2, show ((i : Int)).toNat = i from rfl, hB.2.2.1 i hi']
      have w : zv_w ((i : Int) + 1) = ((i + 1 : Nat) : Int) := by rw [zm_w (by omega)]; omega
      have os : zv_ob h (zc_stt b i) 5 := ⟨by rw [nn]; exact hB.1 _ (by have := zc_sttb (a := b) hi'; omega) (by have := zc_sttb (a := b) hi'; omega), sl.1⟩
      obtain ⟨g5, e5, O, N⟩ := zt_open0 (d := d + 2) os
      have n5 : zv_n g5 = zv_n h0 := by
        unfold zv_n
        rw [O.1]
        exact nn
      have nin : ∀ j, j < i → zc_stt b j ≠ zc_stt b i := fun j hj e => by have := zc_stinj ha e; omega
      have ra5 : zv_R g5 b = zv_R h0 b := ((O.2.2 b (la i hi' b _ ha (by decide))).2.2).trans ra
      have r45 : zv_R g5 (b + 4) = zv_R h0 (b + 4) := ((O.2.2 _ (la i hi' _ _ lo.1 (by decide))).2.2).trans r4
      have os5 : zv_ob g5 (zc_stt b i) 5 := ⟨by rw [n5, ← nn]; exact os.1, sl.1⟩
      have e00 : zv_I h (zc_stt b i) 0 = zv_I h0 (zc_stt b i) 0 := congrFun (s3 _ (fun j hj e => nin j hj e.symm)).1 0
      have st : ∀ x : Int, x = (if i = 0 then 1 else 0) → zt_bgi b h0 (zv_sI g5 (zc_stt b i) 3 x) (i + 1) := fun x hx => by
        refine ⟨O.1.trans s1, O.2.1.trans s2, fun r hr => ?_, fun j hj => ?_⟩
        · have hri := hr i (by omega)
          have n := O.2.2 r hri
          have s := s3 r (fun j hj => hr j (by omega))
          refine ⟨?_, n.2.1.trans s.2.1, n.2.2.trans s.2.2⟩
          rw [zc_sIo _ _ _ _ hri]
          exact n.1.trans s.1
        · by_cases e : j = i
          · subst e
            rw [← hx]
            exact zt_fs_0 (zt_fs_3 N x) e00
          · have hj' : j < i := by omega
            have n := O.2.2 _ (nin j hj')
            refine zt_fs_o (s4 j hj') ⟨?_, n.2.1, n.2.2⟩
            rw [zc_sIo _ _ _ _ (nin j hj')]
            exact n.1
      rw [qL0_begin_2, if_pos (by omega), zm_e (g1 h nn ra), zm_e (g2 h nn r4), if_neg (zc_nz sl.1), zm_e (g1 h nn ra), zm_e (g2 h nn r4), zm_e e5, zm_e (g1 g5 n5 ra5), zm_e (g2 g5 n5 r45), w]
      by_cases c : i = 0
      · rw [if_pos (show (i : Int) = 0 by omega), zm_e (show zv_pZ g5 (zc_stt b i) 5 3 1 = some _ from if_pos ⟨os5, Or.inr rfl⟩)]
        exact ih (i + 1) _ (by omega) (st 1 (by rw [if_pos c]))
      · rw [if_neg (show ¬ (i : Int) = 0 by omega), zm_e (show zv_pZ g5 (zc_stt b i) 5 3 0 = some _ from if_pos ⟨os5, Or.inl rfl⟩)]
        exact ih (i + 1) _ (by omega) (st 0 (by rw [if_neg c]))
  exact loop 48 0 h0 rfl ⟨rfl, rfl, fun _ _ => ⟨rfl, rfl, rfl⟩, fun j hj => absurd hj (Nat.not_lt_zero j)⟩
