/-! ===== the law's own loop, the claim ===== -/
section
variable {L : Nat} {X : Nat → Int}
theorem zl_q {h : zv_H} {o : Option (Int × zv_H)} (e : zm_R o (zc_pX h)) : zm_R o (fun q => zc_X h q.2) := zm_mono e (fun _ w => w.1)
theorem zl_loop (d : Nat) : ∀ (n : Nat) (i : Int) (h : zv_H), 0 ≤ i → (L + 1 - i).toNat ≤ n → i ≤ 4000 → zl_I L X h → zm_R (LL_law_18 (d + 40) 2000000 1 347 i h) (fun o => o.1 = some (zv_i 1) ∧ zl_I L X o.2) := by
  intro n
  induction n with
  | zero =>
    intro i h h0 hn h4 I
    have e1 : zv_L h = L := congrArg Prod.fst I.2.2.2.1
    have hL := I.2.2.2.2.2.1
    rw [qLL_law_18, zm_e (show zv_al h 2000000 = some (zv_L h : Int) from if_pos rfl), e1, zm_w (by omega), if_neg (by omega)]
    exact ⟨_, rfl, rfl, I⟩
  | succ n ih =>
  intro i h h0 hn h4 I
  have e1 : zv_L h = L := congrArg Prod.fst I.2.2.2.1
  have hL := I.2.2.2.2.2.1
  have rX := I.2.2.2.2.2.2
  rw [qLL_law_18, zm_e (show zv_al h 2000000 = some (zv_L h : Int) from if_pos rfl), e1, zm_w (show -2147483648 ≤ (L : Int) - 6 ∧ (L : Int) - 6 < 2147483648 by omega)]
  refine zm_if (fun ci => ?_) (fun _ => ⟨_, rfl, rfl, I⟩)
  have nx : ∀ h', zl_I L X h' → zm_R (LL_law_18 (d + 40) 2000000 1 347 (zv_w (i + 6)) h') (fun o => o.1 = some (zv_i 1) ∧ zl_I L X o.2) := fun h' I' => by
    rw [zm_w (by omega)]
    exact ih _ h' (by omega) (by omega) (by omega) I'
  have rd1 : ∀ g, zl_S L X g → zv_aI g 2000000 (zv_w (i + 1)) = some (X (i + 1).toNat) := fun g S => by
    rw [zm_w (by omega)]
    exact zl_rd S (by omega) (by omega)
  have rd2 : ∀ g, zl_S L X g → zv_aI g 2000000 (zv_w (i + 2)) = some (X (i + 2).toNat) := fun g S => by
    rw [zm_w (by omega)]
    exact zl_rd S (by omega) (by omega)
  have rd3 : ∀ g, zl_S L X g → zv_aI g 2000000 (zv_w (i + 3)) = some (X (i + 3).toNat) := fun g S => by
    rw [zm_w (by omega)]
    exact zl_rd S (by omega) (by omega)
  have rd4 : ∀ g, zl_S L X g → zv_aI g 2000000 (zv_w (i + 4)) = some (X (i + 4).toNat) := fun g S => by
    rw [zm_w (by omega)]
    exact zl_rd S (by omega) (by omega)
  have rd5 : ∀ g, zl_S L X g → zv_aI g 2000000 (zv_w (i + 5)) = some (X (i + 5).toNat) := fun g S => by
    rw [zm_w (by omega)]
    exact zl_rd S (by omega) (by omega)
  rw [zm_e (zl_rd I.2.2.2 h0 (show i < (L : Int) by omega))]
  refine zm_if (fun _ => ?_) (fun _ => ?_)
  · refine zl_c I (zl_q (zl_p I.1 (zc_C8_status I.1 zc_h8 ))) fun v1 h1 I1 => ?_
    dsimp only
    refine zl_r I1 (zm_status I1.2.1 _ ) fun v2 h2 I2 => ?_
    exact nx h2 I2
  refine zm_if (fun _ => ?_) (fun _ => ?_)
  · rw [zm_e (rd1 h I.2.2.2)]
    rw [zm_e (rd2 h I.2.2.2)]
    rw [zm_e (rd3 h I.2.2.2)]
    rw [zm_e (rd4 h I.2.2.2)]
    rw [zm_e (rd5 h I.2.2.2)]
    obtain ⟨h1, h2, e1, e2, S1, I2⟩ := zl_feed I ⟨d + 30, rfl⟩ (X (i + 1).toNat) (X (i + 2).toNat) (X (i + 3).toNat) (X (i + 4).toNat) (X (i + 5).toNat)
    rw [zm_e e1]
    dsimp only
    rw [zm_e (rd1 h1 S1)]
    rw [zm_e (rd2 h1 S1)]
    rw [zm_e (rd3 h1 S1)]
    rw [zm_e (rd4 h1 S1)]
    rw [zm_e (rd5 h1 S1)]
    rw [zm_e e2]
    dsimp only
    exact nx h2 I2
  refine zm_if (fun _ => ?_) (fun _ => ?_)
  · rw [zm_e (rd1 h I.2.2.2)]
    obtain ⟨v1, h1, v2, h2, e1, e2, S1, I2⟩ := zl_load I ⟨d + 12, rfl⟩ (rX (i + 1).toNat)
    rw [zm_e e1]
    dsimp only
    rw [zm_e (rd1 h1 S1)]
    rw [zm_e e2]
    exact nx h2 I2
  refine zm_if (fun _ => ?_) (fun _ => ?_)
  · rw [zm_e (rd1 h I.2.2.2)]
    refine zl_c I (zl_q (zl_p I.1 (zc_C8_fault I.1 zc_h8 (rX _)))) fun v1 h1 I1 => ?_
    dsimp only
    rw [zm_e (rd1 h1 I1.2.2.2)]
    refine zl_r I1 (zm_fault I1.2.1 _ _) fun v2 h2 I2 => ?_
    exact nx h2 I2
  refine zm_if (fun _ => ?_) (fun _ => ?_)
  · rw [zm_e (rd1 h I.2.2.2)]
    rw [zm_e (rd2 h I.2.2.2)]
    obtain ⟨⟨w1, h1⟩, e1, F1, ew1⟩ := zc_C8_type (d := d + 37) I.1 (X (i + 1).toNat) (X (i + 2).toNat)
    rw [zm_e e1]
    have I1 : zl_I L X h1 := zl_cI I (zc_QX F1)
    dsimp only
    rw [zm_e (rd1 h1 I1.2.2.2)]
    rw [zm_e (rd2 h1 I1.2.2.2)]
    obtain ⟨⟨w2, h2⟩, e2, x2, ew2⟩ := zm_type I1.2.1 (d + 30) (X (i + 1).toNat) (X (i + 2).toNat)
    rw [zm_e e2]
    have I2 : zl_I L X h2 := zl_rI I1 x2
    dsimp only
    rw [if_pos (show w1 = w2 from ew1.trans ew2.symm)]
    exact nx h2 I2
  refine zm_if (fun _ => ?_) (fun _ => ?_)
  · rw [zm_e (rd1 h I.2.2.2)]
    refine zl_c I (zl_q (zc_Qp (K := fun _ => True) (zc_C8_many I.1 zc_h8 (rX _)))) fun v1 h1 I1 => ?_
    dsimp only
    rw [zm_e (rd1 h1 I1.2.2.2)]
    refine zl_r I1 (zm_many I1.2.1 _ _) fun v2 h2 I2 => ?_
    exact nx h2 I2
  refine zm_if (fun _ => ?_) (fun _ => ?_)
  · rw [zm_e (rd1 h I.2.2.2)]
    rw [zm_e (rd2 h I.2.2.2)]
    refine zl_c I (zl_q (zc_Qp (K := fun _ => True) (zc_C8_letter I.1 zc_h8 (rX _) (rX _)))) fun v1 h1 I1 => ?_
    dsimp only
    rw [zm_e (rd1 h1 I1.2.2.2)]
    rw [zm_e (rd2 h1 I1.2.2.2)]
    refine zl_r I1 (zm_letter I1.2.1 _ _ _) fun v2 h2 I2 => ?_
    exact nx h2 I2
  refine zm_if (fun _ => ?_) (fun _ => ?_)
  · rw [zm_e (rd1 h I.2.2.2)]
    rw [zm_e (rd2 h I.2.2.2)]
    refine zl_c I (zl_q (zc_Qp (K := fun _ => True) (zc_C8_state I.1 zc_h8 (rX _) (rX _)))) fun v1 h1 I1 => ?_
    dsimp only
    rw [zm_e (rd1 h1 I1.2.2.2)]
    rw [zm_e (rd2 h1 I1.2.2.2)]
    refine zl_r I1 (zm_state I1.2.1 _ _ _) fun v2 h2 I2 => ?_
    exact nx h2 I2
  refine zm_if (fun _ => ?_) (fun _ => ?_)
  · rw [zm_e (rd1 h I.2.2.2)]
    rw [zm_e (rd2 h I.2.2.2)]
    refine zl_c I (zl_q (zc_Qp (K := fun _ => True) (zc_C8_child I.1 zc_h8 (rX _) (rX _)))) fun v1 h1 I1 => ?_
    dsimp only
    rw [zm_e (rd1 h1 I1.2.2.2)]
    rw [zm_e (rd2 h1 I1.2.2.2)]
    refine zl_r I1 (zm_child I1.2.1 _ _ _) fun v2 h2 I2 => ?_
    exact nx h2 I2
  refine zm_if (fun _ => ?_) (fun _ => ?_)
  · rw [zm_e (rd1 h I.2.2.2)]
    rw [zm_e (rd2 h I.2.2.2)]
    refine zl_c I (zl_q (zc_Qp (K := fun _ => True) (zc_C8_force I.1 zc_h8 (rX _) (rX _)))) fun v1 h1 I1 => ?_
    dsimp only
    rw [zm_e (rd1 h1 I1.2.2.2)]
    rw [zm_e (rd2 h1 I1.2.2.2)]
    refine zl_r I1 (zm_force I1.2.1 _ _ _) fun v2 h2 I2 => ?_
    exact nx h2 I2
  refine zm_if (fun _ => ?_) (fun _ => ?_)
  · rw [zm_e (rd1 h I.2.2.2)]
    rw [zm_e (rd2 h I.2.2.2)]
    refine zl_c I (zl_q (zc_Qp (K := fun _ => True) (zc_C8_blame I.1 zc_h8 (rX _) (rX _)))) fun v1 h1 I1 => ?_
    dsimp only
    rw [zm_e (rd1 h1 I1.2.2.2)]
    rw [zm_e (rd2 h1 I1.2.2.2)]
    refine zl_r I1 (zm_blame I1.2.1 _ _ _) fun v2 h2 I2 => ?_
    exact nx h2 I2
  refine zm_if (fun _ => ?_) (fun _ => ?_)
  · rw [zm_e (rd1 h I.2.2.2)]
    rw [zm_e (rd2 h I.2.2.2)]
    refine zl_c I (zl_q (zc_Qp (K := fun _ => True) (zc_C8_row I.1 zc_h8 (rX _) (rX _)))) fun v1 h1 I1 => ?_
    dsimp only
    rw [zm_e (rd1 h1 I1.2.2.2)]
    rw [zm_e (rd2 h1 I1.2.2.2)]
    refine zl_r I1 (zm_row_ I1.2.1 _ _ _) fun v2 h2 I2 => ?_
    exact nx h2 I2
  refine zm_if (fun _ => ?_) (fun _ => ?_)
  · rw [zm_e (rd1 h I.2.2.2)]
    rw [zm_e (rd2 h I.2.2.2)]
    refine zl_c I (zl_q (zc_Qp (K := fun _ => True) (zc_C8_visit I.1 zc_h8 (rX _) (rX _)))) fun v1 h1 I1 => ?_
    dsimp only
    rw [zm_e (rd1 h1 I1.2.2.2)]
    rw [zm_e (rd2 h1 I1.2.2.2)]
    refine zl_r I1 (zm_visit I1.2.1 _ _ _) fun v2 h2 I2 => ?_
    exact nx h2 I2
  refine zm_if (fun _ => ?_) (fun _ => ?_)
  · refine zl_c I (zl_q (zc_Qp (K := fun _ => True) (zc_C8_named I.1 zc_h8 ))) fun v1 h1 I1 => ?_
    dsimp only
    refine zl_r I1 (zm_named I1.2.1 _ ) fun v2 h2 I2 => ?_
    exact nx h2 I2
  refine zm_if (fun _ => ?_) (fun _ => ?_)
  · rw [zm_e (rd1 h I.2.2.2)]
    rw [zm_e (rd2 h I.2.2.2)]
    refine zl_c I (zl_q (zc_Qp (K := fun _ => True) (zc_C8_leans I.1 zc_h8 (rX _) (rX _)))) fun v1 h1 I1 => ?_
    dsimp only
    rw [zm_e (rd1 h1 I1.2.2.2)]
    rw [zm_e (rd2 h1 I1.2.2.2)]
    refine zl_r I1 (zm_leans I1.2.1 _ _ _) fun v2 h2 I2 => ?_
    exact nx h2 I2
  refine zm_if (fun _ => ?_) (fun _ => ?_)
  · rw [zm_e (rd1 h I.2.2.2)]
    refine zl_c I (zl_q (zc_C8_put I.1 (rX _))) fun v1 h1 I1 => ?_
    dsimp only
    rw [zm_e (rd1 h1 I1.2.2.2)]
    refine zl_r I1 (zm_put I1.2.1 _ _) fun v2 h2 I2 => ?_
    exact nx h2 I2
  refine zm_if (fun _ => ?_) (fun _ => ?_)
  · rw [zm_e (rd1 h I.2.2.2)]
    rw [zm_e (rd2 h I.2.2.2)]
    refine zl_c I (zl_q (zc_C8_cut I.1 (rX _) (rX _))) fun v1 h1 I1 => ?_
    dsimp only
    rw [zm_e (rd1 h1 I1.2.2.2)]
    rw [zm_e (rd2 h1 I1.2.2.2)]
    refine zl_r I1 (zm_cut I1.2.1 _ _ _ (rX _).2) fun v2 h2 I2 => ?_
    exact nx h2 I2
  refine zm_if (fun _ => ?_) (fun _ => ?_)
  · rw [zm_e (rd1 h I.2.2.2)]
    refine zl_c I (zl_q (zc_Qp (K := fun _ => True) (zc_C8_wait I.1 zc_h8 (rX _)))) fun v1 h1 I1 => ?_
    dsimp only
    rw [zm_e (rd1 h1 I1.2.2.2)]
    refine zl_r I1 (zm_wait I1.2.1 _ _) fun v2 h2 I2 => ?_
    exact nx h2 I2
  refine zm_if (fun _ => ?_) (fun _ => ?_)
  · refine zl_c I (zl_q (zc_C8_undo I.1 )) fun v1 h1 I1 => ?_
    dsimp only
    refine zl_r I1 (zm_undo I1.2.1 _ ) fun v2 h2 I2 => ?_
    exact nx h2 I2
  refine zm_if (fun _ => ?_) (fun _ => ?_)
  · refine zl_c I (zl_q (zc_C8_redo I.1 )) fun v1 h1 I1 => ?_
    dsimp only
    refine zl_r I1 (zm_redo I1.2.1 _ ) fun v2 h2 I2 => ?_
    exact nx h2 I2
  refine zm_if (fun _ => ?_) (fun _ => ?_)
  · rw [zm_e (rd1 h I.2.2.2)]
    refine zl_c I (zl_q (zc_C8_go I.1 (rX _))) fun v1 h1 I1 => ?_
    dsimp only
    rw [zm_e (rd1 h1 I1.2.2.2)]
    refine zl_r I1 (zm_go I1.2.1 _ _) fun v2 h2 I2 => ?_
    exact nx h2 I2
  refine zm_if (fun _ => ?_) (fun _ => ?_)
  · refine zl_c I (zl_q (zc_Qp (K := fun _ => True) (zc_C8_name I.1 zc_h8 ))) fun v1 h1 I1 => ?_
    dsimp only
    refine zl_r I1 (zm_name I1.2.1 _ ) fun v2 h2 I2 => ?_
    exact nx h2 I2
  refine zm_if (fun _ => ?_) (fun _ => ?_)
  · refine zl_c I (zl_q (zc_Qp (K := fun _ => True) (zc_C8_unname I.1 zc_h8 ))) fun v1 h1 I1 => ?_
    dsimp only
    refine zl_r I1 (zm_unname I1.2.1 _ ) fun v2 h2 I2 => ?_
    exact nx h2 I2
  refine zm_if (fun _ => ?_) (fun _ => ?_)
  · rw [zm_e (rd1 h I.2.2.2)]
    refine zl_c I (zl_q (zc_C8_withdraw I.1 (rX _))) fun v1 h1 I1 => ?_
    dsimp only
    rw [zm_e (rd1 h1 I1.2.2.2)]
    refine zl_r I1 (zm_withdraw I1.2.1 _ _) fun v2 h2 I2 => ?_
    exact nx h2 I2
  refine zm_if (fun _ => ?_) (fun _ => ?_)
  · rw [zm_e (rd1 h I.2.2.2)]
    refine zl_c I (zl_q (zc_C8_restore I.1 (rX _))) fun v1 h1 I1 => ?_
    dsimp only
    rw [zm_e (rd1 h1 I1.2.2.2)]
    refine zl_r I1 (zm_restore I1.2.1 _ _) fun v2 h2 I2 => ?_
    exact nx h2 I2
  refine zm_if (fun _ => ?_) (fun _ => ?_)
  · rw [zm_e (rd1 h I.2.2.2)]
    refine zl_c I (zl_q (zc_C8_carry I.1 (rX _))) fun v1 h1 I1 => ?_
    dsimp only
    rw [zm_e (rd1 h1 I1.2.2.2)]
    refine zl_r I1 (zm_carry I1.2.1 _ _) fun v2 h2 I2 => ?_
    exact nx h2 I2
  refine zm_if (fun _ => ?_) (fun _ => ?_)
  · rw [zm_e (rd1 h I.2.2.2)]
    refine zl_c I (zl_q (zc_C8_merge I.1 (rX _))) fun v1 h1 I1 => ?_
    dsimp only
    rw [zm_e (rd1 h1 I1.2.2.2)]
    refine zl_r I1 (zm_merge I1.2.1 _ _) fun v2 h2 I2 => ?_
    exact nx h2 I2
  refine zm_if (fun _ => ?_) (fun _ => ?_)
  · rw [zm_e (rd1 h I.2.2.2)]
    refine zl_c I (zl_q (zc_C8_prune I.1 (rX _))) fun v1 h1 I1 => ?_
    dsimp only
    rw [zm_e (rd1 h1 I1.2.2.2)]
    refine zl_r I1 (zm_prune I1.2.1 _ _) fun v2 h2 I2 => ?_
    exact nx h2 I2
  refine zm_if (fun _ => ?_) (fun _ => ?_)
  · rw [zm_e (rd1 h I.2.2.2)]
    rw [zm_e (rd2 h I.2.2.2)]
    refine zl_c I (zl_q (zc_Qp (K := fun _ => True) (zc_C8_common I.1 zc_h8 (rX _) (rX _)))) fun v1 h1 I1 => ?_
    dsimp only
    rw [zm_e (rd1 h1 I1.2.2.2)]
    rw [zm_e (rd2 h1 I1.2.2.2)]
    refine zl_r I1 (zm_common I1.2.1 _ _ _) fun v2 h2 I2 => ?_
    exact nx h2 I2
  refine zm_if (fun _ => ?_) (fun _ => ?_)
  · rw [zm_e (rd1 h I.2.2.2)]
    rw [zm_e (rd2 h I.2.2.2)]
    rw [zm_e (rd3 h I.2.2.2)]
    refine zl_c I (zl_q (zc_Qp (K := fun _ => True) (zc_C8_way I.1 zc_h8 (rX _) (rX _) (rX _)))) fun v1 h1 I1 => ?_
    dsimp only
    rw [zm_e (rd1 h1 I1.2.2.2)]
    rw [zm_e (rd2 h1 I1.2.2.2)]
    rw [zm_e (rd3 h1 I1.2.2.2)]
    refine zl_r I1 (zm_way I1.2.1 _ _ _ _) fun v2 h2 I2 => ?_
    exact nx h2 I2
  refine zm_if (fun _ => ?_) (fun _ => ?_)
  · rw [zm_e (rd1 h I.2.2.2)]
    rw [zm_e (rd2 h I.2.2.2)]
    rw [zm_e (rd3 h I.2.2.2)]
    refine zl_c I (zl_q (zc_Qp (K := fun _ => True) (zc_C8_between I.1 zc_h8 (rX _) (rX _) (rX _)))) fun v1 h1 I1 => ?_
    dsimp only
    rw [zm_e (rd1 h1 I1.2.2.2)]
    rw [zm_e (rd2 h1 I1.2.2.2)]
    rw [zm_e (rd3 h1 I1.2.2.2)]
    refine zl_r I1 (zm_between I1.2.1 _ _ _ _) fun v2 h2 I2 => ?_
    exact nx h2 I2
  refine zm_if (fun _ => ?_) (fun _ => ?_)
  · rw [zm_e (rd1 h I.2.2.2)]
    rw [zm_e (rd2 h I.2.2.2)]
    refine zl_c I (zl_q (zc_Qp (K := fun _ => True) (zc_C8_least I.1 zc_h8 (rX _) (rX _)))) fun v1 h1 I1 => ?_
    dsimp only
    rw [zm_e (rd1 h1 I1.2.2.2)]
    rw [zm_e (rd2 h1 I1.2.2.2)]
    refine zl_r I1 (zm_least I1.2.1 _ _ _) fun v2 h2 I2 => ?_
    exact nx h2 I2
  refine zm_if (fun _ => ?_) (fun _ => ?_)
  · rw [zm_e (rd1 h I.2.2.2)]
    rw [zm_e (rd2 h I.2.2.2)]
    refine zl_c I (zl_q (zc_C8_merges I.1 (rX _) (rX _))) fun v1 h1 I1 => ?_
    dsimp only
    rw [zm_e (rd1 h1 I1.2.2.2)]
    rw [zm_e (rd2 h1 I1.2.2.2)]
    refine zl_r I1 (zm_merges I1.2.1 _ _ _) fun v2 h2 I2 => ?_
    exact nx h2 I2
  refine zm_if (fun _ => ?_) (fun _ => ?_)
  · rw [zm_e (rd1 h I.2.2.2)]
    refine zl_c I (zl_q (zc_C8_tell I.1 (rX _))) fun v1 h1 I1 => ?_
    dsimp only
    rw [zm_e (rd1 h1 I1.2.2.2)]
    refine zl_r I1 (zm_tell I1.2.1 _ _) fun v2 h2 I2 => ?_
    exact nx h2 I2
  refine zm_if (fun _ => ?_) (fun _ => ?_)
  · rw [zm_e (rd1 h I.2.2.2)]
    refine zl_c I (zl_q (zc_Qp (K := fun _ => True) (zc_C8_out I.1 zc_h8 (rX _)))) fun v1 h1 I1 => ?_
    dsimp only
    rw [zm_e (rd1 h1 I1.2.2.2)]
    refine zl_r I1 (zm_out I1.2.1 _ _) fun v2 h2 I2 => ?_
    exact nx h2 I2
  refine zm_if (fun _ => ?_) (fun _ => ?_)
  · rw [zm_e (rd1 h I.2.2.2)]
    rw [zm_e (rd2 h I.2.2.2)]
    refine zl_c I (zl_q (zc_Qp (K := fun _ => True) (zc_C8_leaning I.1 zc_h8 (rX _) (rX _)))) fun v1 h1 I1 => ?_
    dsimp only
    rw [zm_e (rd1 h1 I1.2.2.2)]
    rw [zm_e (rd2 h1 I1.2.2.2)]
    refine zl_r I1 (zm_leaning I1.2.1 _ _ _) fun v2 h2 I2 => ?_
    exact nx h2 I2
  refine zm_if (fun _ => ?_) (fun _ => ?_)
  · rw [zm_e (rd1 h I.2.2.2)]
    refine zl_c I (zl_q (zc_Qp (K := fun _ => True) (zc_C8_find I.1 zc_h8 (rX _)))) fun v1 h1 I1 => ?_
    dsimp only
    rw [zm_e (rd1 h1 I1.2.2.2)]
    refine zl_r I1 (zm_find I1.2.1 _ _) fun v2 h2 I2 => ?_
    exact nx h2 I2
  refine zm_if (fun _ => ?_) (fun _ => ?_)
  · refine zl_c I (zl_q (zc_Qp (K := fun _ => True) (zc_C8_first I.1 zc_h8 ))) fun v1 h1 I1 => ?_
    dsimp only
    refine zl_r I1 (zm_first I1.2.1 _ ) fun v2 h2 I2 => ?_
    exact nx h2 I2
  refine zm_if (fun _ => ?_) (fun _ => ?_)
  · rw [zm_e (rd1 h I.2.2.2)]
    refine zl_c I (zl_q (zc_Qp (K := fun _ => True) (zc_C8_twin I.1 zc_h8 (rX _)))) fun v1 h1 I1 => ?_
    dsimp only
    rw [zm_e (rd1 h1 I1.2.2.2)]
    refine zl_r I1 (zm_twin I1.2.1 _ _) fun v2 h2 I2 => ?_
    exact nx h2 I2
  refine zm_if (fun _ => ?_) (fun _ => ?_)
  · rw [zm_e (rd1 h I.2.2.2)]
    refine zl_c I (zl_q (zc_Qp (K := fun _ => True) (zc_C8_back I.1 zc_h8 (rX _)))) fun v1 h1 I1 => ?_
    dsimp only
    rw [zm_e (rd1 h1 I1.2.2.2)]
    refine zl_r I1 (zm_back I1.2.1 _ _) fun v2 h2 I2 => ?_
    exact nx h2 I2
  exact nx h I
end
