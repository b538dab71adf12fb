/-! ===== the tie: TOKENS, the class: numbers, any TOKEN ===== -/
/-- the number that so many digits give -/
def zt_nv (T : Nat → Int) (f : Nat) : Nat → Int
  | 0 => 0
  | j + 1 => zt_nv T f j * 10 + T (f + j) - 48
def zt_nb : Nat → Int
  | 0 => 0
  | j + 1 => 10 * zt_nb j + 9
theorem zt_nv_b {T : Nat → Int} {f : Nat} : ∀ (j : Nat), (∀ i : Nat, f ≤ i → i < f + j → zt_dg (T i)) → 0 ≤ zt_nv T f j ∧ zt_nv T f j ≤ zt_nb j
  | 0, _ => ⟨Int.le_refl _, Int.le_refl _⟩
  | j + 1, h => by
    have ih := zt_nv_b j (fun i h1 h2 => h i h1 (Nat.lt_succ_of_lt h2))
    have hd := h (f + j) (Nat.le_add_right _ _) (Nat.lt_succ_self _)
    unfold zt_dg at hd
    show 0 ≤ zt_nv T f j * 10 + T (f + j) - 48 ∧ zt_nv T f j * 10 + T (f + j) - 48 ≤ 10 * zt_nb j + 9
    generalize zt_nv T f j = v at *
    generalize T (f + j) = t at *
    generalize zt_nb j = b at *
    omega
theorem zt_nb3 : ∀ j : Nat, j ≤ 3 → zt_nb j ≤ 999
  | 0, _ => by decide
  | 1, _ => by decide
  | 2, _ => by decide
  | 3, _ => by decide
  | j + 4, h => absurd h (by omega)
theorem zt_up_ex (P : Int → Prop) (T : Nat → Int) (n : Nat) : ∀ (m e : Nat), e + m = n → ∃ f, zt_up P T n e f := by
  intro m
  induction m with
  | zero =>
    intro e he
    have en : e = n := he
    exact ⟨e, zt_up_0 (Nat.le_of_eq en) (fun q => absurd q (by rw [en]; exact Nat.lt_irrefl _))⟩
  | succ m ih =>
    intro e he
    by_cases c : P (T e)
    · obtain ⟨f, hf⟩ := ih (e + 1) (by omega)
      exact ⟨f, zt_up_s c hf⟩
    · exact ⟨e, zt_up_0 (by omega) (fun _ => c)⟩
/-- behind some that are so: the rest -/
theorem zt_up_j {P : Int → Prop} {T : Nat → Int} {n f : Nat} : ∀ (j E : Nat), (∀ i : Nat, f ≤ i → i < f + j → P (T i)) → zt_up P T n (f + j) E → zt_up P T n f E := fun j E h u => ⟨Nat.le_trans (Nat.le_add_right _ _) u.1, u.2.1, fun i h1 h2 => by
  by_cases c : i < f + j
  · exact h i h1 c
  · exact u.2.2.1 i (Nat.not_lt.mp c) h2, u.2.2.2⟩
theorem zt_nw1 {v t : Int} (h0 : 0 ≤ v) (h1 : v ≤ 999) (h2 : zt_dg t) : zv_w (zv_w (zv_w (v * 10) + t) - 48) = v * 10 + t - 48 := by
  unfold zt_dg at h2
  rw [zm_w (x := v * 10) (by omega), zm_w (x := v * 10 + t) (by omega), zm_w (by omega)]
theorem zt_nw2 {f j : Nat} (h : j ≤ 4) (hf : f + j ≤ 700) : zv_w (((f + j : Nat) : Int) - (f : Int)) = (j : Int) := by
  rw [zm_w (by omega)]
  omega
section
variable {T : Nat → Int} {n : Nat}
theorem zt_fail {d : Nat} {g : zv_H} (gL : zt_L g) (w : Int) : C3_fail (d + 1) 5 w g = some (0, zv_sI (zv_sI g 5 8 w) 5 9 (zv_I g 5 5)) := by
  refine lC3_fail (zl_ob gL zt_lay5) ?_
  rw [qE3_fail, zm_e (zl_pI gL zt_lay5 8 w), zm_e (zl_gI (g := zv_sI g 5 8 w) gL zt_lay5 5), zy_In _ _ (fun q => absurd q.2 (by decide)), zm_e (zl_pI (g := zv_sI g 5 8 w) gL zt_lay5 9 _)]
theorem zt_rf_fail (g : zv_H) (w : Int) : zt_rf g (zv_sI (zv_sI g 5 8 w) 5 9 (zv_I g 5 5)) := zt_rf_s (zt_rf_s (zt_rf_r g) (by decide) _) (by decide) _
/-- behind the digits -/
theorem zt_next242 {d : Nat} {g : zv_H} {f j : Nat} (gL : zt_L g) (h5 : zv_I g 5 5 = f) (h6 : zv_I g 5 6 = ((f + j : Nat) : Int)) (j4 : j ≤ 4) (fj : f + j ≤ 700) : L3_next_242 (d + 1) 5 g = if j ≤ 3 then some (some (zv_i 1), g) else some (some (zv_i 0), zv_sI (zv_sI g 5 8 1) 5 9 (zv_I g 5 5)) := by
  rw [qL3_next_242, zm_e (zl_gI gL zt_lay5 6), h6, zm_e (zl_gI gL zt_lay5 5), h5, zt_nw2 j4 fj]
  by_cases c : j ≤ 3
  · rw [if_pos (show (j : Int) ≤ 3 from Int.ofNat_le.mpr c), if_pos c]
  · rw [if_neg (show ¬ (j : Int) ≤ 3 from fun q => c (Int.ofNat_le.mp q)), if_neg c, zm_e (zt_fail gL 1), h5]
    rfl
theorem zt_next168 {d : Nat} {f : Nat} : ∀ (m j : Nat) (g : zv_H), f + j + m = n → j ≤ 4 → zt_tx T n g → zv_I g 5 5 = f → zv_I g 5 6 = ((f + j : Nat) : Int) → zv_I g 5 7 = zt_nv T f j → (∀ i : Nat, f ≤ i → i < f + j → zt_dg (T i)) → ∃ (E : Nat) (g' : zv_H), zt_up zt_dg T n f E ∧ zt_rf g g' ∧ zv_I g' 5 4 = zv_I g 5 4 ∧ zv_I g' 5 5 = f ∧ ((E ≤ f + 3 ∧ L3_next_168 (d + 1) 5 g = some (some (zv_i 1), g') ∧ zv_I g' 5 6 = E ∧ zv_I g' 5 7 = zt_nv T f (E - f) ∧ zv_I g' 5 8 = zv_I g 5 8 ∧ zv_I g' 5 9 = zv_I g 5 9) ∨ (f + 3 < E ∧ L3_next_168 (d + 1) 5 g = some (some (zv_i 0), g') ∧ zv_I g' 5 8 = 1 ∧ zv_I g' 5 9 = f)) := by
  intro m
  induction m with
  | zero =>
    intro j g he j4 X h5 h6 h7 hd
    have en : f + j = n := he
    have gL := zt_tx_L X
    have n7 := zt_tx_n X
    have u : zt_up zt_dg T n f (f + j) := zt_up_j j _ hd (zt_up_0 (Nat.le_of_eq en) (fun q => absurd q (by rw [en]; exact Nat.lt_irrefl _)))
    have go : L3_next_168 (d + 1) 5 g = L3_next_242 (d + 1) 5 g := by
      rw [qL3_next_168, zm_e (zl_gI gL zt_lay5 6), h6, zm_e (zl_gI gL zt_lay5 3), zt_tx_l X, en, if_neg (Int.lt_irrefl _)]
    rw [go, zt_next242 gL h5 h6 j4 (by omega)]
    by_cases c : j ≤ 3
    · rw [if_pos c]
      exact ⟨f + j, g, u, zt_rf_r g, rfl, h5, Or.inl ⟨Nat.add_le_add_left c f, rfl, h6, by rw [Nat.add_sub_cancel_left]; exact h7, rfl, rfl⟩⟩
    · rw [if_neg c]
      refine ⟨f + j, _, u, zt_rf_fail g 1, ?_, ?_, Or.inr ⟨Nat.add_lt_add_left (Nat.not_le.mp c) f, rfl, ?_, ?_⟩⟩
      · rw [zy_In _ _ (fun q => absurd q.2 (by decide)), zy_In _ _ (fun q => absurd q.2 (by decide))]
      · rw [zy_In _ _ (fun q => absurd q.2 (by decide)), zy_In _ _ (fun q => absurd q.2 (by decide))]; exact h5
      · rw [zy_In _ _ (fun q => absurd q.2 (by decide)), zy_I]
      · rw [zy_I]; exact h5
  | succ m ih =>
    intro j g he j4 X h5 h6 h7 hd
    have gL := zt_tx_L X
    have n7 := zt_tx_n X
    have en : f + j < n := by omega
    have e7 : f + j ≤ 700 := by omega
    have stop : ∀ E : Nat, zt_up zt_dg T n f E → (j ≤ 3 → E = f + j) → (¬ j ≤ 3 → f + 3 < E) → L3_next_168 (d + 1) 5 g = L3_next_242 (d + 1) 5 g → ∃ (E : Nat) (g' : zv_H), zt_up zt_dg T n f E ∧ zt_rf g g' ∧ zv_I g' 5 4 = zv_I g 5 4 ∧ zv_I g' 5 5 = f ∧ ((E ≤ f + 3 ∧ L3_next_168 (d + 1) 5 g = some (some (zv_i 1), g') ∧ zv_I g' 5 6 = E ∧ zv_I g' 5 7 = zt_nv T f (E - f) ∧ zv_I g' 5 8 = zv_I g 5 8 ∧ zv_I g' 5 9 = zv_I g 5 9) ∨ (f + 3 < E ∧ L3_next_168 (d + 1) 5 g = some (some (zv_i 0), g') ∧ zv_I g' 5 8 = 1 ∧ zv_I g' 5 9 = f)) := fun E u u3 u4 go => by
      rw [go, zt_next242 gL h5 h6 j4 e7]
      by_cases c : j ≤ 3
      · rw [if_pos c]
        have eE := u3 c
        subst eE
        exact ⟨f + j, g, u, zt_rf_r g, rfl, h5, Or.inl ⟨Nat.add_le_add_left c f, rfl, h6, by rw [Nat.add_sub_cancel_left]; exact h7, rfl, rfl⟩⟩
      · rw [if_neg c]
        refine ⟨E, _, u, zt_rf_fail g 1, ?_, ?_, Or.inr ⟨u4 c, rfl, ?_, ?_⟩⟩
        · rw [zy_In _ _ (fun q => absurd q.2 (by decide)), zy_In _ _ (fun q => absurd q.2 (by decide))]
        · rw [zy_In _ _ (fun q => absurd q.2 (by decide)), zy_In _ _ (fun q => absurd q.2 (by decide))]; exact h5
        · rw [zy_In _ _ (fun q => absurd q.2 (by decide)), zy_I]
        · rw [zy_I]; exact h5
    have ba := zt_byteAt (d := d) X (f + j) e7
    have eb : zt_at8 T n (f + j) = T (f + j) := if_pos en
    rw [eb] at ba
    have dg := zt_isDigit (d := d) (g := g) (T (f + j))
    by_cases c3 : j ≤ 3
    · by_cases c : zt_dg (T (f + j))
      · rw [if_pos c] at dg
        have vb := zt_nv_b j hd
        have wv := zt_nw1 vb.1 (Int.le_trans vb.2 (zt_nb3 j c3)) c
        have st : zt_rf g (zv_sI (zv_sI g 5 7 (zt_nv T f j * 10 + T (f + j) - 48)) 5 6 ((f + j + 1 : Nat) : Int)) := zt_rf_s (zt_rf_s (zt_rf_r g) (by decide) _) (by decide) _
        have ne : ∀ k, k ≠ 6 → k ≠ 7 → zv_I (zv_sI (zv_sI g 5 7 (zt_nv T f j * 10 + T (f + j) - 48)) 5 6 ((f + j + 1 : Nat) : Int)) 5 k = zv_I g 5 k := fun k k6 k7 => by
          rw [zy_In _ _ (fun q => k6 q.2), zy_In _ _ (fun q => k7 q.2)]
        obtain ⟨E, g', y1, y2, y3, y4, y5⟩ := ih (j + 1) _ (by omega) (Nat.succ_le_succ c3) (zt_tx_r X st) ((ne 5 (by decide) (by decide)).trans h5) (zy_I _ _ _ _) (by rw [zy_In _ _ (fun q => absurd q.2 (by decide)), zy_I]; rfl) (fun i h1 h2 => by
          by_cases z : i = f + j
          · rw [z]; exact c
          · exact hd i h1 (by omega))
        have go : L3_next_168 (d + 1) 5 g = L3_next_168 (d + 1) 5 (zv_sI (zv_sI g 5 7 (zt_nv T f j * 10 + T (f + j) - 48)) 5 6 ((f + j + 1 : Nat) : Int)) := by
          rw [qL3_next_168, zm_e (zl_gI gL zt_lay5 6), h6, zm_e (zl_gI gL zt_lay5 3), zt_tx_l X, if_pos (Int.ofNat_lt.mpr en), zm_e (zl_gI gL zt_lay5 6), h6, zm_e (zl_gI gL zt_lay5 5), h5, zt_nw2 j4 e7, if_pos (show (j : Int) ≤ 3 from Int.ofNat_le.mpr c3), zm_e (zl_gI gL zt_lay5 6), h6, zm_e ba]
          dsimp only
          rw [zm_e dg]
          dsimp only
          rw [if_neg (by decide), zm_e (zl_gI gL zt_lay5 7), h7, zm_e (zl_gI gL zt_lay5 6), h6, zm_e ba]
          dsimp only
          rw [wv, zm_e (zl_pI gL zt_lay5 7 _), zm_e (zl_gI (g := zv_sI g 5 7 (zt_nv T f j * 10 + T (f + j) - 48)) gL zt_lay5 6), zy_In _ _ (fun q => absurd q.2 (by decide)), h6, zt_tkw e7, zm_e (zl_pI (g := zv_sI g 5 7 (zt_nv T f j * 10 + T (f + j) - 48)) gL zt_lay5 6 _)]
        rw [go]
        refine ⟨E, g', y1, zt_rf_t st y2, y3.trans (ne 4 (by decide) (by decide)), y4, ?_⟩
        rcases y5 with ⟨z1, z2, z3, z4, z5, z6⟩ | z
        · exact Or.inl ⟨z1, z2, z3, z4, z5.trans (ne 8 (by decide) (by decide)), z6.trans (ne 9 (by decide) (by decide))⟩
        · exact Or.inr z
      · rw [if_neg c] at dg
        refine stop (f + j) (zt_up_j j _ hd (zt_up_0 (Nat.le_of_lt en) (fun _ => c))) (fun _ => rfl) (fun q => absurd c3 q) ?_
        rw [qL3_next_168, zm_e (zl_gI gL zt_lay5 6), h6, zm_e (zl_gI gL zt_lay5 3), zt_tx_l X, if_pos (Int.ofNat_lt.mpr en), zm_e (zl_gI gL zt_lay5 6), h6, zm_e (zl_gI gL zt_lay5 5), h5, zt_nw2 j4 e7, if_pos (show (j : Int) ≤ 3 from Int.ofNat_le.mpr c3), zm_e (zl_gI gL zt_lay5 6), h6, zm_e ba]
        dsimp only
        rw [zm_e dg]
        dsimp only
        rw [if_pos rfl]
    · obtain ⟨E, hE⟩ := zt_up_ex zt_dg T n (m + 1) (f + j) he
      refine stop E (zt_up_j j _ hd hE) (fun q => absurd q c3) (fun _ => Nat.lt_of_lt_of_le (Nat.add_lt_add_left (Nat.not_le.mp c3) f) hE.1) ?_
      rw [qL3_next_168, zm_e (zl_gI gL zt_lay5 6), h6, zm_e (zl_gI gL zt_lay5 3), zt_tx_l X, if_pos (Int.ofNat_lt.mpr en), zm_e (zl_gI gL zt_lay5 6), h6, zm_e (zl_gI gL zt_lay5 5), h5, zt_nw2 j4 e7, if_neg (show ¬ (j : Int) ≤ 3 from fun q => c3 (Int.ofNat_le.mp q))]
end
