/-! ===== the tie: leaning, by others too ===== -/
/-- x is y, or leans on it, straight or by others -/
def zt_tc (c : Nat → Int) (x y : Int) : Prop := ∀ P : Int → Prop, P y → (∀ z o, zt_ln c z o → P o → P z) → P x
theorem zt_tc_r (c : Nat → Int) (x : Int) : zt_tc c x x := fun _ h _ => h
theorem zt_tc_l {c : Nat → Int} {x o y : Int} (h : zt_ln c x o) (t : zt_tc c o y) : zt_tc c x y := fun P p q => q x o h (t P p q)
theorem zt_tc_a {c : Nat → Int} {x o y : Int} (t : zt_tc c x o) (h : zt_ln c o y) : zt_tc c x y := t (fun z => zt_tc c z y) (zt_tc_l h (zt_tc_r c y)) (fun _ _ h2 p => zt_tc_l h2 p)
/-- by the first step -/
theorem zt_tc_h {c : Nat → Int} {x y : Int} (t : zt_tc c x y) : x = y ∨ ∃ o, zt_ln c x o ∧ zt_tc c o y := t (fun z => z = y ∨ ∃ o, zt_ln c z o ∧ zt_tc c o y) (Or.inl rfl) (fun z o h p => Or.inr ⟨o, h, by
  rcases p with p | ⟨u, p1, p2⟩
  · rw [p]; exact zt_tc_r c y
  · exact zt_tc_l p1 p2⟩)
/-- by the last step -/
theorem zt_tc_e {c : Nat → Int} {x y : Int} (t : zt_tc c x y) : x = y ∨ ∃ o, zt_tc c x o ∧ zt_ln c o y := t (fun z => z = y ∨ ∃ o, zt_tc c z o ∧ zt_ln c o y) (Or.inl rfl) (fun z o h p => by
  rcases p with p | ⟨u, p1, p2⟩
  · rw [p] at h
    exact Or.inr ⟨z, zt_tc_r c z, h⟩
  · exact Or.inr ⟨u, zt_tc_l h p1, p2⟩)
/-- along the way from x on -/
theorem zt_tc_i {c : Nat → Int} {x y : Int} (t : zt_tc c x y) {Q : Int → Prop} (q : Q x) (st : ∀ o z, Q o → zt_ln c o z → Q z) : Q y := t (fun z => Q z → Q y) (fun h => h) (fun _ _ h p hq => p (st _ _ hq h)) q
/-- one that leans is a put or a cut of some number -/
theorem zt_ln_ed {c : Nat → Int} (W : zm_W c) {t o : Int} (h : zt_ln c t o) : zm_ed c t ∧ 1 ≤ t := by
  have e : zm_ed c t := by
    rcases h with q | q
    · exact Or.inl q.1
    · exact Or.inr q.1
  refine ⟨e, ?_⟩
  by_cases z : t ≤ 0
  · exfalso
    have e0 : zm_o c t 2 = zm_o c 0 2 := by
      unfold zm_o
      rw [show t.toNat = 0 by omega]
      rfl
    have h0 := W.1.2.1.2.2.1
    rcases e with q | q
    · rw [e0, h0] at q; omega
    · rw [e0, h0] at q; omega
  · omega
/-- on what one leans lies ahead of it in its line -/
theorem zt_ln_in {c : Nat → Int} (W : zm_W c) {t o : Int} {q : List Int} (ht : zm_st c t) (cw : zt_cw c t) (hl : zm_Ln c (t :: q) t) (h : zt_ln c t o) (o0 : 0 ≤ o) : o ∈ q ∧ (o ≠ 0 → zm_o c o 2 = 0) := by
  obtain ⟨ok, g0, gt, W1⟩ := zt_line_u W ht hl
  have t1 := (zt_ln_ed W h).2
  have hq : q ≠ [] := by
    intro e
    rw [e] at ok
    have := ok.2.1
    have e2 : t = 0 := Option.some.inj this
    omega
  have key : ∀ p : Int × Int, p ∈ zm_row c q → p.1 ∈ q ∧ (p.1 ≠ 0 → zm_o c p.1 2 = 0) := fun p hp => by
    refine ⟨(zm_row_mem hp).1, fun z => zt_row_ed hp ?_ z⟩
    have := ok.2.1
    cases q with
    | nil => exact absurd rfl hq
    | cons y q =>
      rw [List.getLast?_cons_cons] at this
      exact this
  rcases h with ⟨h1, h2⟩ | ⟨h1, p, hp, h2⟩
  · have := key _ (zt_cw_an cw q hl h1 (by omega))
    rw [← h2]
    exact this
  · have := key p (W1.2.2.2.2.1 h1 p hp)
    rw [← h2]
    exact this
theorem zt_tc_in {c : Nat → Int} (W : zm_W c) (cw : ∀ t, zm_st c t → zt_cw c t) {x y : Int} (y1 : 1 ≤ y) (t : zt_tc c x y) : ∀ {q : List Int}, zm_st c x → zm_Ln c (x :: q) x → y ∈ x :: q := by
  refine (t (fun z => zt_tc c z y ∧ ∀ q : List Int, zm_st c z → zm_Ln c (z :: q) z → y ∈ z :: q) ⟨zt_tc_r c y, fun _ _ _ => List.mem_cons_self⟩ (fun z o h p => ⟨zt_tc_l h p.1, ?_⟩)).2 _
  intro q hz hl
  by_cases o0 : 0 ≤ o
  · obtain ⟨m, _⟩ := zt_ln_in W hz (cw z hz) hl h o0
    have ok := (zt_line_u W hz hl).1
    have ho := ok.2.2.1 o (List.mem_cons_of_mem _ m)
    obtain ⟨pr, b, e, hb⟩ := zm_Ln_s hl o (List.mem_cons_of_mem _ m)
    have := p.2 b ho hb
    rw [e]
    exact List.mem_append_right _ this
  · exfalso
    rcases zt_tc_h p.1 with e | ⟨v, e, _⟩
    · omega
    · have := (zt_ln_ed W e).2
      omega
/-- who leans is a number, from 1 on -/
theorem zt_tc_1 {c : Nat → Int} (W : zm_W c) {x y : Int} (y1 : 1 ≤ y) (t : zt_tc c x y) : 1 ≤ x := by
  rcases zt_tc_h t with e | ⟨v, e, _⟩
  · omega
  · exact (zt_ln_ed W e).2
/-! bits of an int -/
def zt_ib (w : Int) (k : Nat) : Bool := (BitVec.ofInt 32 w).getLsbD k
theorem zt_b24 : ∀ k : Nat, k < 24 → (Int32.ofInt (k : Int) &&& 31).toBitVec.toNat = k := by decide +kernel
theorem zt_and_shr (w : Int) {k : Nat} (hk : k < 24) : zv_and (zv_shr w (k : Int)) 1 = 1 ↔ zt_ib w k = true := by
  have e1 : (Int32.ofInt (zv_shr w (k : Int)) &&& Int32.ofInt 1).toBitVec = (BitVec.ofInt 32 w).sshiftRight k &&& 1#32 := by
    unfold zv_shr
    rw [Int32.ofInt_toInt, Int32.toBitVec_and]
    have e2 : (Int32.ofInt w >>> (Int32.ofInt (k : Int) &&& 31)).toBitVec = (BitVec.ofInt 32 w).sshiftRight k := by
      rw [Int32.toBitVec_shiftRight]
      have e3 : ((Int32.ofInt (k : Int) &&& 31).toBitVec.smod 32).toNat = k := by
        have key : ∀ k : Nat, k < 24 → ((Int32.ofInt (k : Int) &&& 31).toBitVec.smod 32).toNat = k := by decide +kernel
        exact key k hk
      rw [BitVec.sshiftRight_eq', e3]
      rfl
    rw [e2]
    rfl
  have b : ((Int32.ofInt (zv_shr w (k : Int)) &&& Int32.ofInt 1).toBitVec).toNat = if zt_ib w k = true then 1 else 0 := by
    rw [e1, BitVec.toNat_and, show (1#32).toNat = 2 ^ 1 - 1 from rfl, Nat.and_two_pow_sub_one_eq_mod]
    have e4 : ((BitVec.ofInt 32 w).sshiftRight k).getLsbD 0 = zt_ib w k := by
      rw [BitVec.getLsbD_sshiftRight]
      unfold zt_ib
      rw [decide_eq_false (show ¬ 32 ≤ 0 by decide), Nat.add_zero, if_pos (by omega)]
      rfl
    have e5 : ((BitVec.ofInt 32 w).sshiftRight k).getLsbD 0 = decide (((BitVec.ofInt 32 w).sshiftRight k).toNat % 2 = 1) := by
      rw [BitVec.getLsbD, Nat.testBit_zero]
    rw [show (2 : Nat) ^ 1 = 2 from rfl]
    rw [e4] at e5
    by_cases z : ((BitVec.ofInt 32 w).sshiftRight k).toNat % 2 = 1
    · rw [decide_eq_true z] at e5
      rw [z, e5, if_pos rfl]
    · rw [decide_eq_false z] at e5
      rw [e5, if_neg (by decide)]
      omega
  have t := zc_toInt _ b (by split <;> decide)
  have t2 : zv_and (zv_shr w (k : Int)) 1 = ((if zt_ib w k = true then 1 else 0 : Nat) : Int) := t
  rw [t2]
  by_cases z : zt_ib w k = true
  · rw [if_pos z]
    exact ⟨fun _ => z, fun _ => rfl⟩
  · rw [if_neg z]
    exact ⟨fun q => absurd q (by decide), fun q => absurd q z⟩
theorem zt_or_shl (w : Int) {k : Nat} (hk : k < 24) (j : Nat) (hj : j < 32) : zt_ib (zv_or w (zv_shl 1 (k : Int))) j = (zt_ib w j || decide (j = k)) := by
  have key : ∀ k : Nat, k < 24 → ∀ j : Nat, j < 32 → (BitVec.ofInt 32 (zv_shl 1 (k : Int))).getLsbD j = decide (j = k) := by decide +kernel
  unfold zt_ib
  have e : BitVec.ofInt 32 (zv_or w (zv_shl 1 (k : Int))) = BitVec.ofInt 32 w ||| BitVec.ofInt 32 (zv_shl 1 (k : Int)) := by
    unfold zv_or
    show (Int32.ofInt (Int32.ofInt w ||| Int32.ofInt (zv_shl 1 (k : Int))).toInt).toBitVec = _
    rw [Int32.ofInt_toInt, Int32.toBitVec_or]
    rfl
  rw [e, BitVec.getLsbD_or, key k hk j hj]
/-- a name's bit, by the two ints -/
theorem zt_nm_b {c : Nat → Int} {s t : Int} (t0 : 0 ≤ t) (t1 : t < 48) : zm_nm c s t ↔ zt_ib (zm_o c s (if t < 24 then 10 else 11)) (t.toNat % 24) = true := by
  have e : t.tmod 24 = ((t.toNat % 24 : Nat) : Int) := by
    rw [Int.tmod_eq_emod_of_nonneg t0]
    omega
  show zv_and (zv_shr (zm_o c s (if t < 24 then 10 else 11)) (t.tmod 24)) 1 = 1 ↔ _
  rw [e]
  exact zt_and_shr _ (by omega)
