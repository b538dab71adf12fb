/-! ===== the class: its public calls ===== -/
theorem zc_toInt {n : Nat} (b : BitVec 32) (e : b.toNat = n) (hn : n < 2147483648) : b.toInt = (n : Int) := by
  rw [BitVec.toInt_eq_toNat_cond, e, if_pos (by omega)]
theorem zc_and31 (x : Int) : 0 ≤ zv_and x 31 ∧ zv_and x 31 ≤ 31 := by
  have n : ((Int32.ofInt x &&& Int32.ofInt 31).toBitVec).toNat ≤ 31 := by
    rw [Int32.toBitVec_and, BitVec.toNat_and]
    exact Nat.and_le_right
  have e : zv_and x 31 = (((Int32.ofInt x &&& Int32.ofInt 31).toBitVec).toNat : Int) := zc_toInt _ rfl (by omega)
  rw [e]
  omega
theorem zc_ushr5 {x : Int} (h0 : 0 ≤ x) (h1 : x < 2147483648) : zv_ushr x 5 = x / 32 := by
  have e5 : ((Int32.ofInt 5).toUInt32 &&& Int32.toUInt32 31) = (5 : UInt32) := by decide
  have eu : ((Int32.ofInt x).toUInt32 >>> (5 : UInt32)).toNat = x.toNat / 32 := by
    rw [UInt32.toNat_shiftRight]
    have e1 : (Int32.ofInt x).toUInt32.toNat = x.toNat := by
      show (BitVec.ofInt 32 x).toNat = x.toNat
      rw [BitVec.toNat_ofInt]
      omega
    rw [e1]
    show x.toNat >>> 5 = _
    rw [Nat.shiftRight_eq_div_pow]
  unfold zv_ushr
  rw [e5]
  have e := zc_toInt ((Int32.ofInt x).toUInt32 >>> (5 : UInt32)).toInt32.toBitVec (n := x.toNat / 32) eu (by omega)
  refine Eq.trans e ?_
  omega
theorem zc_h8 : zv_lay 1 = (1, 8) := rfl
theorem zc_h3 : zv_lay 5 = (1, 3) := rfl
def zc_pX (h : zv_H) (q : Int × zv_H) : Prop := zc_X h q.2 ∧ zv_rg q.1
theorem zc_Qp {h : zv_H} {o : Option (Int × zv_H)} {K : Int → Prop} (e : zm_R o (fun q => zc_Q h q.2 ∧ zv_rg q.1 ∧ K q.1)) : zm_R o (zc_pX h) := zm_mono e (fun _ q => ⟨zc_QX q.1, q.2.1⟩)
theorem zc_ans {d : Nat} {h : zv_H} {o : Option (Int × zv_H)} (e : zm_R o (zc_pX h)) : zm_R (o.bind fun q => (C8_answered (d + 2) 1 q.1 q.2).bind fun q4 => some (some (zv_i q4.1), q4.2)) (zm_I fun v h' => zc_pX h (v, h')) := by
  obtain ⟨q, rfl, X, r⟩ := e
  refine zc_cI (K := fun _ => True) (zc_Q_r X.2) (zc_C8_answered X.2 zc_h8 r) fun v h' F rv _ => ?_
  exact zm_iI ⟨zc_X_t X (zc_QX F), rv⟩
theorem zc_Op {a : Nat} {h : zv_H} {o : Option (Int × zv_H)} (e : zm_R o (zc_O a h)) : zm_R o (zc_pX h) := zm_mono e (fun _ q => ⟨q.1, q.2.1⟩)
theorem zc_Yp {h : zv_H} {o : Option (Int × zv_H)} (e : zm_R o (zc_yI h)) : zm_R o (zc_pX h) := zm_mono e (fun _ q => ⟨q.1.1, q.2⟩)
section
variable {d : Nat} {h : zv_H} (hA : zc_A h)
theorem zc_C8_put (hA : zc_A h) {x : Int} (rx : zv_rg x) : zm_R (C8_put (d + 4) 1 x h) (zc_pX h) := by
  refine zm_cI (P := fun v h' => zc_pX h (v, h')) (fun e => lC8_put (zc_ob hA zc_h8) e) ?_
  have F := zc_Q_r hA
  rw [qE8_put]
  refine zc_rRo F zc_h8 ?_
  refine zc_rF F 2 zc_h8 ?_
  exact zc_ans (zc_Op (zc_C0_putWord hA (zc_xH F).1 (zc_y8_1 zc_h8).1 rx))
theorem zc_C8_cut (hA : zc_A h) {x y : Int} (rx : zv_rg x) (ry : zv_rg y) : zm_R (C8_cut (d + 4) 1 x y h) (zc_pX h) := by
  refine zm_cI (P := fun v h' => zc_pX h (v, h')) (fun e => lC8_cut (zc_ob hA zc_h8) e) ?_
  have F := zc_Q_r hA
  rw [qE8_cut]
  refine zc_rRo F zc_h8 ?_
  exact zc_ans (zc_Op (zc_C0_cutOut hA (zc_xH F).1 rx ry))
theorem zc_C8_undo (hA : zc_A h) : zm_R (C8_undo (d + 4) 1 h) (zc_pX h) := by
  refine zm_cI (P := fun v h' => zc_pX h (v, h')) (fun e => lC8_undo (zc_ob hA zc_h8) e) ?_
  have F := zc_Q_r hA
  rw [qE8_undo]
  refine zc_rRo F zc_h8 ?_
  exact zc_ans (zc_Yp (zc_C0_stepBack hA (zc_xH F).1))
theorem zc_C8_redo (hA : zc_A h) : zm_R (C8_redo (d + 5) 1 h) (zc_pX h) := by
  refine zm_cI (P := fun v h' => zc_pX h (v, h')) (fun e => lC8_redo (zc_ob hA zc_h8) e) ?_
  have F := zc_Q_r hA
  rw [qE8_redo]
  refine zc_rRo F zc_h8 ?_
  exact zc_ans (zc_Yp (zc_C0_stepOn hA (zc_xH F).1))
theorem zc_C8_go (hA : zc_A h) {x : Int} (rx : zv_rg x) : zm_R (C8_go (d + 5) 1 x h) (zc_pX h) := by
  refine zm_cI (P := fun v h' => zc_pX h (v, h')) (fun e => lC8_go (zc_ob hA zc_h8) e) ?_
  have F := zc_Q_r hA
  rw [qE8_go]
  refine zc_rRo F zc_h8 ?_
  exact zc_ans (zc_Yp (zc_C0_goTo hA (zc_xH F).1 rx))
theorem zc_C8_withdraw (hA : zc_A h) {x : Int} (rx : zv_rg x) : zm_R (C8_withdraw (d + 5) 1 x h) (zc_pX h) := by
  refine zm_cI (P := fun v h' => zc_pX h (v, h')) (fun e => lC8_withdraw (zc_ob hA zc_h8) e) ?_
  have F := zc_Q_r hA
  rw [qE8_withdraw]
  refine zc_rRo F zc_h8 ?_
  exact zc_ans (zc_Op (zc_C0_takeBack hA (zc_xH F).1 rx))
theorem zc_C8_restore (hA : zc_A h) {x : Int} (rx : zv_rg x) : zm_R (C8_restore (d + 5) 1 x h) (zc_pX h) := by
  refine zm_cI (P := fun v h' => zc_pX h (v, h')) (fun e => lC8_restore (zc_ob hA zc_h8) e) ?_
  have F := zc_Q_r hA
  rw [qE8_restore]
  refine zc_rRo F zc_h8 ?_
  exact zc_ans (zc_Op (zc_C0_giveBack hA (zc_xH F).1 rx))
theorem zc_C8_carry (hA : zc_A h) {x : Int} (rx : zv_rg x) : zm_R (C8_carry (d + 7) 1 x h) (zc_pX h) := by
  refine zm_cI (P := fun v h' => zc_pX h (v, h')) (fun e => lC8_carry (zc_ob hA zc_h8) e) ?_
  have F := zc_Q_r hA
  rw [qE8_carry]
  refine zc_rRo F zc_h8 ?_
  exact zc_ans (zc_Op (zc_C0_carryOver hA (zc_xH F).1 rx))
theorem zc_C8_merge (hA : zc_A h) {x : Int} (rx : zv_rg x) : zm_R (C8_merge (d + 7) 1 x h) (zc_pX h) := by
  refine zm_cI (P := fun v h' => zc_pX h (v, h')) (fun e => lC8_merge (zc_ob hA zc_h8) e) ?_
  have F := zc_Q_r hA
  rw [qE8_merge]
  refine zc_rRo F zc_h8 ?_
  exact zc_ans (zm_mono (zc_C0_mergeIn hA (zc_xH F).1 rx) (fun _ q => ⟨q.1.1, q.2.1⟩))
theorem zc_C8_prune (hA : zc_A h) {x : Int} (rx : zv_rg x) : zm_R (C8_prune (d + 4) 1 x h) (zc_pX h) := by
  refine zm_cI (P := fun v h' => zc_pX h (v, h')) (fun e => lC8_prune (zc_ob hA zc_h8) e) ?_
  have F := zc_Q_r hA
  rw [qE8_prune]
  refine zc_rRo F zc_h8 ?_
  exact zc_ans (zc_C0_pruneTo hA (zc_xH F).1 rx)
theorem zc_C8_merges (hA : zc_A h) {x y : Int} (rx : zv_rg x) (ry : zv_rg y) : zm_R (C8_merges (d + 8) 1 x y h) (zc_pX h) := by
  refine zm_cI (P := fun v h' => zc_pX h (v, h')) (fun e => lC8_merges (zc_ob hA zc_h8) e) ?_
  have F := zc_Q_r hA
  rw [qE8_merges]
  refine zc_pI (K := fun v => (v = 0 ∨ v = 1)) (zc_C8_within hA ry (by unfold zv_rg; omega) (by unfold zv_rg; omega)) fun v1 r1 _ => ?_
  dsimp only
  refine zm_if (fun c => ?_) (fun c => ?_)
  · refine zc_cI (K := fun _ => True) F (zc_C8_refused hA zc_h8 (by unfold zv_rg; omega)) fun v2 h2 F2 r2 _ => ?_
    exact zm_iI ⟨zc_QX F2, r2⟩
  · refine zc_rRo F zc_h8 ?_
    exact zc_ans (zc_C0_mergeOnPaper hA (zc_xH F).1 rx)
theorem zc_C8_tellNames (hA : zc_A h) : zm_R (C8_tellNames (d + 4) 1 h) (fun q => zc_Q h q) := by
  refine zm_cV (fun e => lC8_tellNames (zc_ob hA zc_h8) e) ?_
  have F0 := zc_Q_r hA
  have hN := (zc_y0_6 (zc_xH F0).1).1
  have loop : ∀ (n : Nat) (g : zv_H) (i : Int), zc_Q h g → 0 ≤ i → (2147483647 - i).toNat = n → zv_rg i → zm_R (L8_tellNames_10 (d + 3) 1 (zv_R h 1 3 + 14) i g) (zm_V fun h' => zc_Q h h') := by
    intro n
    induction n using Nat.strongRecOn with
    | _ n ih =>
      intro g i F h0 hn ri
      rw [qL8_tellNames_10]
      refine zc_rI F hN fun v1 e1 r1 => ?_
      refine zm_if (fun c => ?_) (fun c => zm_iV F)
      have inner : ∀ (m : Nat) (g : zv_H) (k : Int), zc_Q h g → zv_rg k → k.toNat ≤ m → zm_R (L8_tellNames_34 (d + 3) 1 (zv_R h 1 3 + 14) i k g) (zm_V fun h' => zc_Q h h') := by
        intro m
        have stop : ∀ (g : zv_H) (k : Int), zc_Q h g → k ≤ 0 → zm_R (L8_tellNames_34 (d + 3) 1 (zv_R h 1 3 + 14) i k g) (zm_V fun h' => zc_Q h h') := fun g k F hk => by
          rw [qL8_tellNames_34, if_pos hk]
          refine zc_cV F (zc_C8_tellByte F.2 zc_h8 (by unfold zv_rg; omega)) fun g1 F => ?_
          refine zc_pI (K := fun _ => True) (zc_C2_ownerAt F.2 hN ri) fun v2 r2 _ => ?_
          dsimp only
          refine zc_cV F (zc_C8_tellNumber F.2 zc_h8 r2) fun g3 F => ?_
          exact ih _ (by rw [← hn]; exact zc_up ri r1 c) g3 _ F (by rw [zc_up1 ri r1 c]; omega) rfl (zc_w _)
        induction m with
        | zero => intro g k F rk hk; exact stop g k F (by omega)
        | succ m ihm =>
          intro g k F rk hk
          by_cases c0 : k ≤ 0
          · exact stop g k F c0
          · rw [qL8_tellNames_34, if_neg c0]
            refine zc_cV F (zc_C8_tellByte F.2 zc_h8 (zc_w _)) fun g1 F => ?_
            refine ihm g1 _ F (zc_ushr _ _) ?_
            unfold zv_rg at rk
            rw [zc_ushr5 (by omega) (by omega)]
            omega
      have L28 : ∀ g, zc_Q h g → zm_R (L8_tellNames_28 (d + 3) 1 (zv_R h 1 3 + 14) i g) (zm_V fun h' => zc_Q h h') := fun g F => by
        rw [qL8_tellNames_28]
        refine zc_pI (K := fun _ => True) (zc_C2_keyAt F.2 hN ri) fun v2 r2 _ => ?_
        exact inner _ g v2 F r2 (Nat.le_refl _)
      refine zm_if (fun c => L28 g F) (fun c => ?_)
      refine zc_cV F (zc_C8_tellByte F.2 zc_h8 (by unfold zv_rg; omega)) fun g1 F => ?_
      exact L28 g1 F
  rw [qE8_tellNames]
  refine zc_rRo F0 zc_h8 ?_
  refine zc_rF F0 14 (zc_xH F0).1 ?_
  exact loop _ h 0 F0 (by omega) rfl (by unfold zv_rg; omega)
theorem zc_C8_tell (hA : zc_A h) {x : Int} (rx : zv_rg x) : zm_R (C8_tell (d + 6) 1 x h) (zc_pX h) := by
  refine zm_cI (P := fun v h' => zc_pX h (v, h')) (fun e => lC8_tell (zc_ob hA zc_h8) e) ?_
  have F := zc_Q_r hA
  have fin : ∀ g, zc_Q h g → zm_R (L8_tell_47 (d + 5) 1 g) (zm_I fun v h' => zc_pX h (v, h')) := fun g F => by
    rw [qL8_tell_47]
    refine zc_rI F zc_h8 fun v1 e1 r1 => ?_
    refine zc_cI (K := fun _ => True) F (zc_C8_given F.2 zc_h8 r1) fun v2 h2 F2 r2 _ => ?_
    exact zm_iI ⟨zc_QX F2, r2⟩
  rw [qE8_tell]
  refine zc_pI (K := fun v => (v = 0 ∨ v = 1)) (zc_C8_within hA rx (by unfold zv_rg; omega) (by unfold zv_rg; omega)) fun v1 r1 _ => ?_
  dsimp only
  refine zm_if (fun c => ?_) (fun c => ?_)
  · refine zc_cI (K := fun _ => True) F (zc_C8_refused hA zc_h8 (by unfold zv_rg; omega)) fun v2 h2 F2 r2 _ => ?_
    exact zm_iI ⟨zc_QX F2, r2⟩
  · refine zc_wO F zc_h8 (zc_frO zc_h8 (by decide) (by decide) rfl (by decide)) (by unfold zv_rg; omega) fun g3 F => ?_
    refine zm_if (fun c => ?_) (fun c => ?_)
    · exact zc_cV F (zc_C8_tellDocument F.2 zc_h8) fun g4 F => fin g4 F
    · refine zm_if (fun c => ?_) (fun c => ?_)
      · exact zc_cV F (zc_C8_tellLine F.2 zc_h8) fun g4 F => fin g4 F
      · exact zc_cV F (zc_C8_tellNames F.2) fun g4 F => fin g4 F
theorem zc_tlk : ∀ k : Nat, k < 12 → ((k : Int)).tmod 6 = if (k : Int) < 6 then (k : Int) else (k : Int) - 6 := by decide
theorem zc_letter (a b : Int) {k : Nat} (hk : k < 12) : C8_typedLetter (d + 1) a b k h = some (zm_tl a b k, h) := by
  refine lC8_typedLetter ?_
  rw [qE8_typedLetter]
  unfold zm_tl
  rw [zc_tlk k hk]
  by_cases c : (k : Int) < 6
  · rw [if_pos c, if_pos c, if_pos c]
  · rw [if_neg c, if_neg c, if_neg c, zm_w (show -2147483648 ≤ (k : Int) - 6 ∧ (k : Int) - 6 < 2147483648 by omega)]
theorem zc_type36 (a b : Int) (k : Nat) (hk : k ≤ 12) (hA : zc_A h) : zm_R (L8_type_36 (d + 2) 1 a b k h) (zm_I fun v h' => zc_Q h h' ∧ v = (k : Int)) := by
  have F := zc_Q_r hA
  rw [qL8_type_36]
  refine zc_rF F 2 zc_h8 ?_
  refine zc_cV F (zc_C7_clear hA (zc_y8_1 zc_h8).1) fun g2 F => ?_
  have loop : ∀ (n i : Nat) (g : zv_H), i + n = k → zc_Q h g → zm_R (L8_type_46 (d + 2) 1 a b k i g) (zm_I fun v h' => zc_Q h h' ∧ v = (k : Int)) := by
    intro n
    induction n with
    | zero =>
      intro i g hi F
      rw [qL8_type_46, if_neg (by omega)]
      exact zm_iI ⟨F, rfl⟩
    | succ n ih =>
      intro i g hi F
      rw [qL8_type_46, if_pos (by omega)]
      refine zc_rF F 2 zc_h8 ?_
      rw [zm_e (zc_letter a b (show i < 12 by omega))]
      dsimp only
      refine zc_cV F (zc_C7_add F.2 (zc_y8_1 zc_h8).1 (zc_w _)) fun g3 F => ?_
      rw [zm_w (by omega)]
      exact ih (i + 1) g3 (by omega) F
  exact loop k 0 g2 (by omega) F
theorem zc_type2 (a b : Int) (hA : zc_A h) : ∀ (m k : Nat), k + m = 12 → zm_R (L8_type_2 (d + 2) 1 a b k h) (zm_I fun v h' => zc_Q h h' ∧ v = zm_ty a b m k) := by
  intro m
  induction m with
  | zero =>
    intro k hk
    rw [qL8_type_2, if_neg (by omega)]
    exact zc_type36 a b k (by omega) hA
  | succ m ih =>
    intro k hk
    have t := zc_and31 (zv_ushr (if (k : Int) < 6 then a else b) (zv_w (5 * ((k : Int).tmod 6))))
    have e1 : zm_ty a b (m + 1) k = if zm_tl a b k ≤ 26 then (if zm_tl a b k ≤ 0 then (k : Int) else zm_ty a b m (k + 1)) else -1 := rfl
    have t' : 0 ≤ zm_tl a b k ∧ zm_tl a b k ≤ 31 := t
    rw [qL8_type_2, if_pos (by omega), zm_e (zc_letter a b (show k < 12 by omega)), e1]
    dsimp only
    by_cases c : zm_tl a b k = 0
    · rw [if_pos c, if_pos (by omega), if_pos (by omega)]
      exact zc_type36 a b k (by omega) hA
    · rw [if_neg c, zm_e (zc_letter a b (show k < 12 by omega))]
      dsimp only
      by_cases c1 : zm_tl a b k ≤ 26
      · rw [if_pos c1, if_pos c1, if_neg (by omega), zm_w (by omega)]
        exact ih (k + 1) (by omega)
      · rw [if_neg c1, if_neg c1]
        exact zm_iI ⟨zc_Q_r hA, rfl⟩
theorem zc_C8_type (hA : zc_A h) (a b : Int) : zm_R (C8_type (d + 3) 1 a b h) (fun q => zc_Q h q.2 ∧ q.1 = zm_ty a b 12 0) := by
  refine zm_cI (P := fun v h' => zc_Q h h' ∧ v = zm_ty a b 12 0) (fun e => lC8_type (zc_ob hA zc_h8) e) ?_
  rw [qE8_type]
  exact zc_type2 a b hA 12 0 rfl
end
