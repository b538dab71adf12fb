/-! ===== the law's own loop, the claim ===== -/
section
variable {L : Nat} {X : Nat → Int}
theorem zl_loop (d : Nat) : ∀ (n m : Nat) (i : Int) (h : zv_H), i = 6 * (m : Int) → (L + 1 - i).toNat ≤ n → zl_J L X m h → zm_R (LL_law_18 (d + 40) 2000000 1 347 i h) (fun o => o.1 = some (zv_i 1) ∧ zl_I L X o.2) := by
  intro n
  induction n with
  | zero =>
    intro m i h h0 hn J
    have I := J.1
    have e1 : zv_L h = L := congrArg Prod.fst I.2.2.2.1
    have hL := I.2.2.2.2.2.1
    rw [qLL_law_18, zm_e (show zv_al h 2000000 = some (zv_L h : Int) from if_pos rfl), e1, zm_w (by omega), if_neg (by omega)]
    exact ⟨_, rfl, rfl, I⟩
  | succ n ih =>
  intro m i h h0 hn J
  have I := J.1
  have e1 : zv_L h = L := congrArg Prod.fst I.2.2.2.1
  have hL := I.2.2.2.2.2.1
  have rX := I.2.2.2.2.2.2
  rw [qLL_law_18, zm_e (show zv_al h 2000000 = some (zv_L h : Int) from if_pos rfl), e1, zm_w (show -2147483648 ≤ (L : Int) - 6 ∧ (L : Int) - 6 < 2147483648 by omega)]
  refine zm_if (fun ci => ?_) (fun _ => ⟨_, rfl, rfl, I⟩)
  have hm : m ≤ 600 := by omega
  have i0 : 0 ≤ i := by omega
  have nx : ∀ h', zl_J L X (m + 1) h' → zm_R (LL_law_18 (d + 40) 2000000 1 347 (zv_w (i + 6)) h') (fun o => o.1 = some (zv_i 1) ∧ zl_I L X o.2) := fun h' J' => by
    rw [zm_w (by omega)]
    exact ih (m + 1) _ h' (by omega) (by omega) J'
  have rd1 : ∀ g, zl_S L X g → zv_aI g 2000000 (zv_w (i + 1)) = some (X (i + 1).toNat) := fun g S => by
    rw [zm_w (by omega)]
    exact zl_rd S (by omega) (by omega)
  have rd2 : ∀ g, zl_S L X g → zv_aI g 2000000 (zv_w (i + 2)) = some (X (i + 2).toNat) := fun g S => by
    rw [zm_w (by omega)]
    exact zl_rd S (by omega) (by omega)
  have rd3 : ∀ g, zl_S L X g → zv_aI g 2000000 (zv_w (i + 3)) = some (X (i + 3).toNat) := fun g S => by
    rw [zm_w (by omega)]
    exact zl_rd S (by omega) (by omega)
  have rd4 : ∀ g, zl_S L X g → zv_aI g 2000000 (zv_w (i + 4)) = some (X (i + 4).toNat) := fun g S => by
    rw [zm_w (by omega)]
    exact zl_rd S (by omega) (by omega)
  have rd5 : ∀ g, zl_S L X g → zv_aI g 2000000 (zv_w (i + 5)) = some (X (i + 5).toNat) := fun g S => by
    rw [zm_w (by omega)]
    exact zl_rd S (by omega) (by omega)
  rw [zm_e (zl_rd I.2.2.2 i0 (show i < (L : Int) by omega))]
  refine zm_if (fun _ => ?_) (fun _ => ?_)
  · obtain ⟨v1, h1, v2, h2, e1, e2, S1, J2⟩ := zq_status J (d + 12)
    rw [zm_e e1]
    dsimp only
    rw [zm_e e2]
    exact nx h2 (zl_J_m J2 (Nat.le_succ m))
  refine zm_if (fun _ => ?_) (fun _ => ?_)
  · rw [zm_e (rd1 h I.2.2.2)]
    rw [zm_e (rd2 h I.2.2.2)]
    rw [zm_e (rd3 h I.2.2.2)]
    rw [zm_e (rd4 h I.2.2.2)]
    rw [zm_e (rd5 h I.2.2.2)]
    obtain ⟨v, h1, h2, e1, e2, S1, J2⟩ := zq_feed J (d + 12) (X (i + 1).toNat) (X (i + 2).toNat) (X (i + 3).toNat) (X (i + 4).toNat) (X (i + 5).toNat)
    rw [zm_e e1]
    dsimp only
    rw [zm_e (rd1 h1 S1)]
    rw [zm_e (rd2 h1 S1)]
    rw [zm_e (rd3 h1 S1)]
    rw [zm_e (rd4 h1 S1)]
    rw [zm_e (rd5 h1 S1)]
    rw [zm_e e2]
    exact nx h2 (zl_J_m J2 (Nat.le_succ m))
  refine zm_if (fun _ => ?_) (fun _ => ?_)
  · rw [zm_e (rd1 h I.2.2.2)]
    obtain ⟨v, h1, h2, e1, e2, S1, J2⟩ := zq_load J (d + 12) (rX (i + 1).toNat)
    rw [zm_e e1]
    dsimp only
    rw [zm_e (rd1 h1 S1)]
    rw [zm_e e2]
    exact nx h2 (zl_J_m J2 (Nat.le_succ m))
  refine zm_if (fun _ => ?_) (fun _ => ?_)
  · rw [zm_e (rd1 h I.2.2.2)]
    obtain ⟨v1, h1, v2, h2, e1, e2, S1, J2⟩ := zq_fault J (d + 12) (rX (i + 1).toNat)
    rw [zm_e e1]
    dsimp only
    rw [zm_e (rd1 h1 S1)]
    rw [zm_e e2]
    exact nx h2 (zl_J_m J2 (Nat.le_succ m))
  refine zm_if (fun _ => ?_) (fun _ => ?_)
  · rw [zm_e (rd1 h I.2.2.2)]
    rw [zm_e (rd2 h I.2.2.2)]
    obtain ⟨v, h1, h2, e1, e2, S1, J2⟩ := zq_type J (d + 12) (X (i + 1).toNat) (X (i + 2).toNat)
    rw [zm_e e1]
    dsimp only
    rw [zm_e (rd1 h1 S1)]
    rw [zm_e (rd2 h1 S1)]
    rw [zm_e e2]
    exact nx h2 (zl_J_m J2 (Nat.le_succ m))
  refine zm_if (fun _ => ?_) (fun _ => ?_)
  · rw [zm_e (rd1 h I.2.2.2)]
    obtain ⟨v1, h1, v2, h2, e1, e2, S1, J2⟩ := zq_many J (d + 12) (rX (i + 1).toNat)
    rw [zm_e e1]
    dsimp only
    rw [zm_e (rd1 h1 S1)]
    rw [zm_e e2]
    exact nx h2 (zl_J_m J2 (Nat.le_succ m))
  refine zm_if (fun _ => ?_) (fun _ => ?_)
  · rw [zm_e (rd1 h I.2.2.2)]
    rw [zm_e (rd2 h I.2.2.2)]
    obtain ⟨v1, h1, v2, h2, e1, e2, S1, J2⟩ := zq_letter J (d + 12) (rX (i + 1).toNat) (rX (i + 2).toNat)
    rw [zm_e e1]
    dsimp only
    rw [zm_e (rd1 h1 S1)]
    rw [zm_e (rd2 h1 S1)]
    rw [zm_e e2]
    exact nx h2 (zl_J_m J2 (Nat.le_succ m))
  refine zm_if (fun _ => ?_) (fun _ => ?_)
  · rw [zm_e (rd1 h I.2.2.2)]
    rw [zm_e (rd2 h I.2.2.2)]
    obtain ⟨v1, h1, v2, h2, e1, e2, S1, J2⟩ := zq_state J (d + 12) (rX (i + 1).toNat) (rX (i + 2).toNat)
    rw [zm_e e1]
    dsimp only
    rw [zm_e (rd1 h1 S1)]
    rw [zm_e (rd2 h1 S1)]
    rw [zm_e e2]
    exact nx h2 (zl_J_m J2 (Nat.le_succ m))
  refine zm_if (fun _ => ?_) (fun _ => ?_)
  · rw [zm_e (rd1 h I.2.2.2)]
    rw [zm_e (rd2 h I.2.2.2)]
    obtain ⟨v1, h1, v2, h2, e1, e2, S1, J2⟩ := zq_child J (d + 12) (rX (i + 1).toNat) (rX (i + 2).toNat)
    rw [zm_e e1]
    dsimp only
    rw [zm_e (rd1 h1 S1)]
    rw [zm_e (rd2 h1 S1)]
    rw [zm_e e2]
    exact nx h2 (zl_J_m J2 (Nat.le_succ m))
  refine zm_if (fun _ => ?_) (fun _ => ?_)
  · rw [zm_e (rd1 h I.2.2.2)]
    rw [zm_e (rd2 h I.2.2.2)]
    obtain ⟨v1, h1, v2, h2, e1, e2, S1, J2⟩ := zq_force J (d + 12) (rX (i + 1).toNat) (rX (i + 2).toNat)
    rw [zm_e e1]
    dsimp only
    rw [zm_e (rd1 h1 S1)]
    rw [zm_e (rd2 h1 S1)]
    rw [zm_e e2]
    exact nx h2 (zl_J_m J2 (Nat.le_succ m))
  refine zm_if (fun _ => ?_) (fun _ => ?_)
  · rw [zm_e (rd1 h I.2.2.2)]
    rw [zm_e (rd2 h I.2.2.2)]
    obtain ⟨v1, h1, v2, h2, e1, e2, S1, J2⟩ := zq_blame J (d + 12) (rX (i + 1).toNat) (rX (i + 2).toNat)
    rw [zm_e e1]
    dsimp only
    rw [zm_e (rd1 h1 S1)]
    rw [zm_e (rd2 h1 S1)]
    rw [zm_e e2]
    exact nx h2 (zl_J_m J2 (Nat.le_succ m))
  refine zm_if (fun _ => ?_) (fun _ => ?_)
  · rw [zm_e (rd1 h I.2.2.2)]
    rw [zm_e (rd2 h I.2.2.2)]
    obtain ⟨v, h1, h2, e1, e2, S1, J2⟩ := zx_row J (d + 12) (rX (i + 1).toNat) (rX (i + 2).toNat)
    rw [zm_e e1]
    dsimp only
    rw [zm_e (rd1 h1 S1)]
    rw [zm_e (rd2 h1 S1)]
    rw [zm_e e2]
    dsimp only
    rw [if_pos rfl]
    exact nx h2 (zl_J_m J2 (Nat.le_succ m))
  refine zm_if (fun _ => ?_) (fun _ => ?_)
  · rw [zm_e (rd1 h I.2.2.2)]
    rw [zm_e (rd2 h I.2.2.2)]
    obtain ⟨v1, h1, v2, h2, e1, e2, S1, J2⟩ := zq_visit J (d + 12) (rX (i + 1).toNat) (rX (i + 2).toNat)
    rw [zm_e e1]
    dsimp only
    rw [zm_e (rd1 h1 S1)]
    rw [zm_e (rd2 h1 S1)]
    rw [zm_e e2]
    exact nx h2 (zl_J_m J2 (Nat.le_succ m))
  refine zm_if (fun _ => ?_) (fun _ => ?_)
  · obtain ⟨v1, h1, v2, h2, e1, e2, S1, J2⟩ := zq_named J (d + 12)
    rw [zm_e e1]
    dsimp only
    rw [zm_e e2]
    exact nx h2 (zl_J_m J2 (Nat.le_succ m))
  refine zm_if (fun _ => ?_) (fun _ => ?_)
  · rw [zm_e (rd1 h I.2.2.2)]
    rw [zm_e (rd2 h I.2.2.2)]
    obtain ⟨v1, h1, v2, h2, e1, e2, S1, J2⟩ := zq_leans J (d + 12) (rX (i + 1).toNat) (rX (i + 2).toNat)
    rw [zm_e e1]
    dsimp only
    rw [zm_e (rd1 h1 S1)]
    rw [zm_e (rd2 h1 S1)]
    rw [zm_e e2]
    exact nx h2 (zl_J_m J2 (Nat.le_succ m))
  refine zm_if (fun _ => ?_) (fun _ => ?_)
  · rw [zm_e (rd1 h I.2.2.2)]
    obtain ⟨v, h1, h2, e1, e2, S1, J2⟩ := zq_put J hm (d + 12) (rX (i + 1).toNat)
    rw [zm_e e1]
    dsimp only
    rw [zm_e (rd1 h1 S1)]
    rw [zm_e e2]
    exact nx h2 J2
  refine zm_if (fun _ => ?_) (fun _ => ?_)
  · rw [zm_e (rd1 h I.2.2.2)]
    rw [zm_e (rd2 h I.2.2.2)]
    obtain ⟨v, h1, h2, e1, e2, S1, J2⟩ := zq_cut J hm (d + 12) (rX (i + 1).toNat) (rX (i + 2).toNat)
    rw [zm_e e1]
    dsimp only
    rw [zm_e (rd1 h1 S1)]
    rw [zm_e (rd2 h1 S1)]
    rw [zm_e e2]
    exact nx h2 J2
  refine zm_if (fun _ => ?_) (fun _ => ?_)
  · rw [zm_e (rd1 h I.2.2.2)]
    obtain ⟨v, h1, h2, e1, e2, S1, J2⟩ := zq_wait J hm (d + 12) (rX (i + 1).toNat)
    rw [zm_e e1]
    dsimp only
    rw [zm_e (rd1 h1 S1)]
    rw [zm_e e2]
    exact nx h2 J2
  refine zm_if (fun _ => ?_) (fun _ => ?_)
  · obtain ⟨v, h1, h2, e1, e2, S1, J2⟩ := zq_undo J hm (d + 12)
    rw [zm_e e1]
    dsimp only
    rw [zm_e e2]
    exact nx h2 J2
  refine zm_if (fun _ => ?_) (fun _ => ?_)
  · obtain ⟨v, h1, h2, e1, e2, S1, J2⟩ := zq_redo J hm (d + 12)
    rw [zm_e e1]
    dsimp only
    rw [zm_e e2]
    exact nx h2 J2
  refine zm_if (fun _ => ?_) (fun _ => ?_)
  · rw [zm_e (rd1 h I.2.2.2)]
    obtain ⟨v, h1, h2, e1, e2, S1, J2⟩ := zq_go J hm (d + 12) (rX (i + 1).toNat)
    rw [zm_e e1]
    dsimp only
    rw [zm_e (rd1 h1 S1)]
    rw [zm_e e2]
    exact nx h2 J2
  refine zm_if (fun _ => ?_) (fun _ => ?_)
  · obtain ⟨v, h1, h2, e1, e2, S1, J2⟩ := zq_name J hm (d + 12)
    rw [zm_e e1]
    dsimp only
    rw [zm_e e2]
    exact nx h2 J2
  refine zm_if (fun _ => ?_) (fun _ => ?_)
  · obtain ⟨v, h1, h2, e1, e2, S1, J2⟩ := zq_unname J hm (d + 12)
    rw [zm_e e1]
    dsimp only
    rw [zm_e e2]
    exact nx h2 J2
  refine zm_if (fun _ => ?_) (fun _ => ?_)
  · rw [zm_e (rd1 h I.2.2.2)]
    obtain ⟨v, h1, h2, e1, e2, S1, J2⟩ := zq_withdraw J hm (d + 12) (rX (i + 1).toNat)
    rw [zm_e e1]
    dsimp only
    rw [zm_e (rd1 h1 S1)]
    rw [zm_e e2]
    exact nx h2 J2
  refine zm_if (fun _ => ?_) (fun _ => ?_)
  · rw [zm_e (rd1 h I.2.2.2)]
    obtain ⟨v, h1, h2, e1, e2, S1, J2⟩ := zq_restore J hm (d + 12) (rX (i + 1).toNat)
    rw [zm_e e1]
    dsimp only
    rw [zm_e (rd1 h1 S1)]
    rw [zm_e e2]
    exact nx h2 J2
  refine zm_if (fun _ => ?_) (fun _ => ?_)
  · rw [zm_e (rd1 h I.2.2.2)]
    obtain ⟨v, h1, h2, e1, e2, S1, J2⟩ := zq_carry J hm (d + 12) (rX (i + 1).toNat)
    rw [zm_e e1]
    dsimp only
    rw [zm_e (rd1 h1 S1)]
    rw [zm_e e2]
    exact nx h2 J2
  refine zm_if (fun _ => ?_) (fun _ => ?_)
  · rw [zm_e (rd1 h I.2.2.2)]
    obtain ⟨v, h1, h2, e1, e2, S1, J2⟩ := zq_merge J hm (d + 12) (rX (i + 1).toNat)
    rw [zm_e e1]
    dsimp only
    rw [zm_e (rd1 h1 S1)]
    rw [zm_e e2]
    exact nx h2 J2
  refine zm_if (fun _ => ?_) (fun _ => ?_)
  · rw [zm_e (rd1 h I.2.2.2)]
    obtain ⟨v, h1, h2, e1, e2, S1, J2⟩ := zq_prune J hm (d + 12) (rX (i + 1).toNat)
    rw [zm_e e1]
    dsimp only
    rw [zm_e (rd1 h1 S1)]
    rw [zm_e e2]
    exact nx h2 J2
  refine zm_if (fun _ => ?_) (fun _ => ?_)
  · rw [zm_e (rd1 h I.2.2.2)]
    rw [zm_e (rd2 h I.2.2.2)]
    obtain ⟨v1, h1, v2, h2, e1, e2, S1, J2⟩ := zq_common J (d + 12) (rX (i + 1).toNat) (rX (i + 2).toNat)
    rw [zm_e e1]
    dsimp only
    rw [zm_e (rd1 h1 S1)]
    rw [zm_e (rd2 h1 S1)]
    rw [zm_e e2]
    exact nx h2 (zl_J_m J2 (Nat.le_succ m))
  refine zm_if (fun _ => ?_) (fun _ => ?_)
  · rw [zm_e (rd1 h I.2.2.2)]
    rw [zm_e (rd2 h I.2.2.2)]
    rw [zm_e (rd3 h I.2.2.2)]
    obtain ⟨v1, h1, v2, h2, e1, e2, S1, J2⟩ := zq_way J (d + 12) (rX (i + 1).toNat) (rX (i + 2).toNat) (rX (i + 3).toNat)
    rw [zm_e e1]
    dsimp only
    rw [zm_e (rd1 h1 S1)]
    rw [zm_e (rd2 h1 S1)]
    rw [zm_e (rd3 h1 S1)]
    rw [zm_e e2]
    exact nx h2 (zl_J_m J2 (Nat.le_succ m))
  refine zm_if (fun _ => ?_) (fun _ => ?_)
  · rw [zm_e (rd1 h I.2.2.2)]
    rw [zm_e (rd2 h I.2.2.2)]
    rw [zm_e (rd3 h I.2.2.2)]
    obtain ⟨v1, h1, v2, h2, e1, e2, S1, J2⟩ := zq_between J (d + 12) (rX (i + 1).toNat) (rX (i + 2).toNat) (rX (i + 3).toNat)
    rw [zm_e e1]
    dsimp only
    rw [zm_e (rd1 h1 S1)]
    rw [zm_e (rd2 h1 S1)]
    rw [zm_e (rd3 h1 S1)]
    rw [zm_e e2]
    exact nx h2 (zl_J_m J2 (Nat.le_succ m))
  refine zm_if (fun _ => ?_) (fun _ => ?_)
  · rw [zm_e (rd1 h I.2.2.2)]
    rw [zm_e (rd2 h I.2.2.2)]
    obtain ⟨v1, h1, v2, h2, e1, e2, S1, J2⟩ := zq_least J (d + 12) (rX (i + 1).toNat) (rX (i + 2).toNat)
    rw [zm_e e1]
    dsimp only
    rw [zm_e (rd1 h1 S1)]
    rw [zm_e (rd2 h1 S1)]
    rw [zm_e e2]
    exact nx h2 (zl_J_m J2 (Nat.le_succ m))
  refine zm_if (fun _ => ?_) (fun _ => ?_)
  · rw [zm_e (rd1 h I.2.2.2)]
    rw [zm_e (rd2 h I.2.2.2)]
    obtain ⟨v, h1, h2, e1, e2, S1, J2⟩ := zq_merges J hm (d + 12) (rX (i + 1).toNat) (rX (i + 2).toNat)
    rw [zm_e e1]
    dsimp only
    rw [zm_e (rd1 h1 S1)]
    rw [zm_e (rd2 h1 S1)]
    rw [zm_e e2]
    exact nx h2 J2
  refine zm_if (fun _ => ?_) (fun _ => ?_)
  · rw [zm_e (rd1 h I.2.2.2)]
    obtain ⟨v1, h1, v2, h2, e1, e2, S1, J2⟩ := zq_tell J (d + 12) (rX (i + 1).toNat)
    rw [zm_e e1]
    dsimp only
    rw [zm_e (rd1 h1 S1)]
    rw [zm_e e2]
    exact nx h2 (zl_J_m J2 (Nat.le_succ m))
  refine zm_if (fun _ => ?_) (fun _ => ?_)
  · rw [zm_e (rd1 h I.2.2.2)]
    obtain ⟨v1, h1, v2, h2, e1, e2, S1, J2⟩ := zq_out J (d + 12) (rX (i + 1).toNat)
    rw [zm_e e1]
    dsimp only
    rw [zm_e (rd1 h1 S1)]
    rw [zm_e e2]
    exact nx h2 (zl_J_m J2 (Nat.le_succ m))
  refine zm_if (fun _ => ?_) (fun _ => ?_)
  · rw [zm_e (rd1 h I.2.2.2)]
    rw [zm_e (rd2 h I.2.2.2)]
    obtain ⟨v1, h1, v2, h2, e1, e2, S1, J2⟩ := zq_leaning J (d + 12) (rX (i + 1).toNat) (rX (i + 2).toNat)
    rw [zm_e e1]
    dsimp only
    rw [zm_e (rd1 h1 S1)]
    rw [zm_e (rd2 h1 S1)]
    rw [zm_e e2]
    exact nx h2 (zl_J_m J2 (Nat.le_succ m))
  refine zm_if (fun _ => ?_) (fun _ => ?_)
  · rw [zm_e (rd1 h I.2.2.2)]
    obtain ⟨v1, h1, v2, h2, e1, e2, S1, J2⟩ := zq_find J (d + 12) (rX (i + 1).toNat)
    rw [zm_e e1]
    dsimp only
    rw [zm_e (rd1 h1 S1)]
    rw [zm_e e2]
    exact nx h2 (zl_J_m J2 (Nat.le_succ m))
  refine zm_if (fun _ => ?_) (fun _ => ?_)
  · obtain ⟨v1, h1, v2, h2, e1, e2, S1, J2⟩ := zq_first J (d + 12)
    rw [zm_e e1]
    dsimp only
    rw [zm_e e2]
    exact nx h2 (zl_J_m J2 (Nat.le_succ m))
  refine zm_if (fun _ => ?_) (fun _ => ?_)
  · rw [zm_e (rd1 h I.2.2.2)]
    obtain ⟨v1, h1, v2, h2, e1, e2, S1, J2⟩ := zq_twin J (d + 12) (rX (i + 1).toNat)
    rw [zm_e e1]
    dsimp only
    rw [zm_e (rd1 h1 S1)]
    rw [zm_e e2]
    exact nx h2 (zl_J_m J2 (Nat.le_succ m))
  refine zm_if (fun _ => ?_) (fun _ => ?_)
  · rw [zm_e (rd1 h I.2.2.2)]
    obtain ⟨v1, h1, v2, h2, e1, e2, S1, J2⟩ := zq_back J (d + 12) (rX (i + 1).toNat)
    rw [zm_e e1]
    dsimp only
    rw [zm_e (rd1 h1 S1)]
    rw [zm_e e2]
    exact nx h2 (zl_J_m J2 (Nat.le_succ m))
  exact nx h (zl_J_m J (Nat.le_succ m))
end
