/-! ===== the reference: TOKENS ===== -/
theorem zm_sgI (h : zv_H) (k k' : Nat) (v : Int) : zv_I (zv_sI h 347 k v) 347 k' = if k' = k then v else zv_I h 347 k' := by
  rw [zm_ss]
  rfl
/-- the TOKEN that is looked at -/
def zm_RI (h : zv_H) : Prop := (0 ≤ zv_I h 347 36 ∧ zv_I h 347 36 ≤ 700) ∧ (0 ≤ zv_I h 347 32 ∧ zv_I h 347 32 < zv_I h 347 33 ∧ zv_I h 347 33 ≤ 701) ∧ (zv_I h 347 34 ≠ 0 → zv_I h 347 33 ≤ zv_I h 347 36) ∧ (0 ≤ zv_I h 347 35 ∧ zv_I h 347 35 ≤ 999) ∧ (zv_I h 347 34 = 1 → zv_I h 347 33 = zv_I h 347 32 + 1 → zv_J h 347 38 ≠ 423 ∧ zv_J h 347 38 ≠ 1111 ∧ zv_J h 347 38 ≠ 10631)
theorem zm_isOf {h : zv_H} (hM : zm_M h) (d : Nat) {k : Int} (hk : 0 ≤ k) (he : zv_I h 347 36 ≤ 700) (a b : Int) : C9_isOf (d + 2) 347 k a b h = some (if k < zv_I h 347 36 ∧ a ≤ zv_I h 366 k.toNat ∧ zv_I h 366 k.toNat ≤ b then 1 else 0, h) := by
  refine lC9_isOf (zm_ob hM) ?_
  rw [qE9_isOf, zm_e (zm_gI hM 36)]
  by_cases c1 : k < zv_I h 347 36
  · rw [if_pos c1, zm_e (zm_f26 hM), zm_e (zm_aB hM zm_l366 (Or.inr rfl) rfl hk (by omega)), zm_e (zm_isIn _ _ _ _)]
    dsimp only
    by_cases c2 : a ≤ zv_I h 366 k.toNat ∧ zv_I h 366 k.toNat ≤ b
    · rw [if_pos c2, if_neg (by decide), if_pos ⟨c1, c2⟩]
    · rw [if_neg c2, if_pos rfl, if_neg (fun q => c2 q.2)]
  · rw [if_neg c1, if_neg (fun q => c1 q.1)]
theorem zm_key1 : ∀ n : Nat, n ≤ 25 → ((27 : Int64) * Int64.ofNat 0 + zv_i2l (97 + (n : Int)) - 96 ≠ 423) ∧ ((27 : Int64) * Int64.ofNat 0 + zv_i2l (97 + (n : Int)) - 96 ≠ 1111) ∧ ((27 : Int64) * Int64.ofNat 0 + zv_i2l (97 + (n : Int)) - 96 ≠ 10631) := by decide +kernel
theorem zm_sJJ (h : zv_H) (v : Int64) : zv_J (zv_sJ h 347 38 v) 347 38 = v := by
  show zv_up h.2.2.1 347 38 v 347 38 = v
  unfold zv_up
  rw [if_pos ⟨rfl, rfl⟩]
/-- what reading a TOKEN changes -/
def zm_rF (h h' : zv_H) : Prop := zm_F [] [32, 33, 34, 35, 38] h h'
theorem zm_rF_t {a b c : zv_H} (f : zm_rF a b) (g : zm_rF b c) : zm_rF a c := zm_F_t f g
theorem zm_rF_f {h h1 : zv_H} (f : zm_rF h h1) {k : Nat} (hk : k = 32 ∨ k = 33 ∨ k = 34 ∨ k = 35) (v : Int) : zm_rF h (zv_sI h1 347 k v) := by
  rcases hk with q | q | q | q
  all_goals subst q; exact zm_F_f f rfl v
theorem zm_reads146 (d : Nat) {e a : Int} (he : 0 ≤ e ∧ e ≤ 700) (ha : 0 ≤ a) : ∀ (m : Nat) (h : zv_H) (x : Int), zm_M h → zv_I h 347 36 = e → zv_I h 347 32 = a → zv_I h 347 33 = x → e - x ≤ m → a ≤ x → x ≤ e → zv_I h 347 34 = 1 → (x = a → zv_J h 347 38 = Int64.ofNat 0 ∧ (a < e ∧ 97 ≤ zv_I h 366 a.toNat ∧ zv_I h 366 a.toNat ≤ 122)) → (x = a + 1 → zv_J h 347 38 ≠ 423 ∧ zv_J h 347 38 ≠ 1111 ∧ zv_J h 347 38 ≠ 10631) → (0 ≤ zv_I h 347 35 ∧ zv_I h 347 35 ≤ 999) → ∃ h', L9_reads_146 (d + 2) 347 h = some (none, h') ∧ zm_rF h h' ∧ zm_RI h' ∧ zv_I h' 347 32 = a ∧ zv_I h' 347 34 = 1
  | m, h, x, hM, e36, e32, e33, hm, hx0, hx1, e34, hk0, hk1, hn => by
    rw [qL9_reads_146, zm_e (zm_gI hM 33), e33, zm_e (zm_isOf hM d (by omega) (by rw [e36]; omega) 97 122), e36]
    dsimp only
    by_cases c1 : x < e ∧ 97 ≤ zv_I h 366 x.toNat ∧ zv_I h 366 x.toNat ≤ 122
    · rw [if_pos c1, if_neg (by decide), zm_e (zm_gI hM 33), e33, zm_e (zm_gI hM 32), e32]
      cases m with
      | zero => exact absurd hm (by omega)
      | succ m =>
        have nx : ∀ h1 : zv_H, zm_rF h h1 → zv_I h1 347 36 = e → zv_I h1 347 32 = a → zv_I h1 347 33 = x + 1 → zv_I h1 347 34 = 1 → (x + 1 = a + 1 → zv_J h1 347 38 ≠ 423 ∧ zv_J h1 347 38 ≠ 1111 ∧ zv_J h1 347 38 ≠ 10631) → (0 ≤ zv_I h1 347 35 ∧ zv_I h1 347 35 ≤ 999) → ∃ h', L9_reads_146 (d + 2) 347 h1 = some (none, h') ∧ zm_rF h h' ∧ zm_RI h' ∧ zv_I h' 347 32 = a ∧ zv_I h' 347 34 = 1 := by
          intro h1 f e36' e32' e33' e34' hk hn'
          obtain ⟨h', i1, i2, i3⟩ := zm_reads146 d he ha m h1 (x + 1) (zm_F_M f hM) e36' e32' e33' (by omega) (by omega) (by omega) e34' (fun q => by omega) hk hn'
          exact ⟨h', i1, zm_rF_t f i2, i3⟩
        by_cases c2 : zv_w (x - a) < 9
        · rw [if_pos c2, zm_e (zm_gJ hM 38), zm_e (zm_f26 hM), zm_e (zm_gI hM 33), e33, zm_e (zm_aB hM zm_l366 (Or.inr rfl) rfl (by omega) (by omega)), zm_e (zm_pJ hM 38 _)]
          have f1 : zm_rF h (zv_sJ h 347 38 ((27 : Int64) * zv_J h 347 38 + zv_i2l (zv_I h 366 x.toNat) - 96)) := zm_F_k (zm_F_r _ _ h) rfl _
          have ek : zv_J (zv_sJ h 347 38 ((27 : Int64) * zv_J h 347 38 + zv_i2l (zv_I h 366 x.toNat) - 96)) 347 38 = (27 : Int64) * zv_J h 347 38 + zv_i2l (zv_I h 366 x.toNat) - 96 := zm_sJJ _ _
          have eI : ∀ k, zv_I (zv_sJ h 347 38 ((27 : Int64) * zv_J h 347 38 + zv_i2l (zv_I h 366 x.toNat) - 96)) 347 k = zv_I h 347 k := fun k => rfl
          generalize zv_sJ h 347 38 ((27 : Int64) * zv_J h 347 38 + zv_i2l (zv_I h 366 x.toNat) - 96) = h1 at f1 ek eI
          have hM1 := zm_F_M f1 hM
          rw [zm_e (zm_gI hM1 33), eI, e33, zm_e (zm_pI hM1 33 _), zm_w (by omega)]
          have ek2 : zv_J (zv_sI h1 347 33 (x + 1)) 347 38 = zv_J h1 347 38 := rfl
          refine nx _ (zm_rF_f f1 (Or.inr (Or.inl rfl)) _) ?_ ?_ ?_ ?_ (fun q => ?_) ?_
          · rw [zm_sgI, if_neg (by decide), eI]
            exact e36
          · rw [zm_sgI, if_neg (by decide), eI]
            exact e32
          · rw [zm_sgI, if_pos rfl]
          · rw [zm_sgI, if_neg (by decide), eI]
            exact e34
          · have hxa : x = a := by omega
            obtain ⟨k0, k1⟩ := hk0 hxa
            rw [ek2, ek, k0, hxa]
            have := zm_key1 (zv_I h 366 a.toNat - 97).toNat (by omega)
            rw [show 97 + (((zv_I h 366 a.toNat - 97).toNat : Nat) : Int) = zv_I h 366 a.toNat by omega] at this
            exact this
          · rw [zm_sgI, if_neg (by decide), eI]
            exact hn
        · rw [if_neg c2, zm_e (zm_gJ hM 38), zm_e (zm_pJ hM 38 _)]
          have f1 : zm_rF h (zv_sJ h 347 38 (zv_J h 347 38)) := zm_F_k (zm_F_r _ _ h) rfl _
          have eI : ∀ k, zv_I (zv_sJ h 347 38 (zv_J h 347 38)) 347 k = zv_I h 347 k := fun k => rfl
          generalize zv_sJ h 347 38 (zv_J h 347 38) = h1 at f1 eI
          have hM1 := zm_F_M f1 hM
          have hxa : ¬ x = a := by
            intro q
            rw [zm_w (by omega)] at c2
            omega
          rw [zm_e (zm_gI hM1 33), eI, e33, zm_e (zm_pI hM1 33 _), zm_w (by omega)]
          refine nx _ (zm_rF_f f1 (Or.inr (Or.inl rfl)) _) ?_ ?_ ?_ ?_ (fun q => absurd (by omega) hxa) ?_
          · rw [zm_sgI, if_neg (by decide), eI]
            exact e36
          · rw [zm_sgI, if_neg (by decide), eI]
            exact e32
          · rw [zm_sgI, if_pos rfl]
          · rw [zm_sgI, if_neg (by decide), eI]
            exact e34
          · rw [zm_sgI, if_neg (by decide), eI]
            exact hn
    · rw [if_neg c1, if_pos rfl]
      have hxa : ¬ x = a := by
        intro q
        obtain ⟨_, k1⟩ := hk0 q
        rw [← q] at k1
        exact c1 k1
      refine ⟨h, rfl, zm_F_r _ _ h, ⟨by rw [e36]; exact he, ⟨by rw [e32]; exact ha, by rw [e32, e33]; omega, by rw [e33]; omega⟩, fun _ => by rw [e33, e36]; exact hx1, hn, fun _ q => hk1 (by rw [e33, e32] at q; exact q)⟩, e32, e34⟩
