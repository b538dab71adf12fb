/-! ===== the tie: which word it is, the reference ===== -/
theorem zt_lcmp_r (x : Int64) : zv_lcmp x x = 0 := by
  unfold zv_lcmp
  exact if_pos rfl
/-- the word that is looked at is W -/
def zt_isC (T : Nat → Int) (f t E : Nat) (W : List Int) : Prop := t = 1 ∧ E ≤ f + 8 ∧ zt_rl8 T f (E - f) = W
section
variable {T : Nat → Int} {n : Nat} {g k : zv_H} {f t E : Nat}
theorem zt_which_l {d r L : Nat} (G : zt_gd T n g k f t E) (hl : zv_lay r = (5, L)) (hr : Nat.ble r 372 = true) (hL : L ≤ 100) {W : Nat → List Int} (hW : ∀ j : Nat, j < L → zv_J k r j = Int64.ofInt (zt_v27 (W j)) ∧ (∀ x ∈ W j, 1 ≤ x ∧ x ≤ 26) ∧ (W j).length ≤ 8) : ∀ m i : Nat, i + m = L → ∃ v : Int, L9_which_2 d 347 r i k = some (some (zv_i v), k) ∧ ((v = -1 ∧ ∀ j : Nat, i ≤ j → j < L → ¬ zt_isC T f t E (W j)) ∨ ∃ j : Nat, v = (j : Int) ∧ i ≤ j ∧ j < L ∧ zt_isC T f t E (W j) ∧ ∀ j' : Nat, i ≤ j' → j' < j → ¬ zt_isC T f t E (W j')) := by
  have hM := zt_ty_M (zt_gd_Y G)
  have n7 := zt_tx_n (zt_gd_X G)
  have r' := zt_gd_r G
  obtain ⟨e0, hk⟩ := zt_gd_k G
  have En := zt_tkn_E hk
  intro m
  induction m with
  | zero =>
    intro i hi
    have e : i = L := hi
    subst e
    refine ⟨-1, ?_, Or.inl ⟨rfl, fun j h1 h2 => absurd h2 (Nat.not_lt.mpr h1)⟩⟩
    rw [qL9_which_2, zm_e (zm_al hM hl rfl hr), if_neg (Int.lt_irrefl _)]
  | succ m ih =>
    intro i hi
    have iL : i < L := by omega
    have iI : (i : Int) < (L : Int) := Int.ofNat_lt.mpr iL
    have w1 : zv_w ((i : Int) + 1) = ((i + 1 : Nat) : Int) := zt_tkw (by omega)
    obtain ⟨v, e, q⟩ := ih (i + 1) (by omega)
    have skip : ¬ zt_isC T f t E (W i) → L9_which_2 d 347 r i k = L9_which_2 d 347 r ((i + 1 : Nat) : Int) k → ∃ v : Int, L9_which_2 d 347 r i k = some (some (zv_i v), k) ∧ ((v = -1 ∧ ∀ j : Nat, i ≤ j → j < L → ¬ zt_isC T f t E (W j)) ∨ ∃ j : Nat, v = (j : Int) ∧ i ≤ j ∧ j < L ∧ zt_isC T f t E (W j) ∧ ∀ j' : Nat, i ≤ j' → j' < j → ¬ zt_isC T f t E (W j')) := fun no go => by
      have ext : ∀ j : Nat, i ≤ j → (i + 1 ≤ j → ¬ zt_isC T f t E (W j)) → ¬ zt_isC T f t E (W j) := fun j h1 h2 => by
        by_cases z : j = i
        · rw [z]; exact no
        · exact h2 (Nat.lt_of_le_of_ne h1 (fun w => z w.symm))
      refine ⟨v, go.trans e, ?_⟩
      rcases q with ⟨q1, q2⟩ | ⟨j, q1, q2, q3, q4, q5⟩
      · exact Or.inl ⟨q1, fun j h1 h2 => ext j h1 (fun h => q2 j h h2)⟩
      · exact Or.inr ⟨j, q1, Nat.le_of_succ_le q2, q3, q4, fun j' h1 h2 => ext j' h1 (fun h => q5 j' h h2)⟩
    by_cases c1 : t = 1
    · have k1 : (t : Int) = 1 := by rw [c1]; rfl
      have up : zt_up zt_sm T n f E := by
        rcases hk.2 with ⟨a1, _⟩ | ⟨an, ⟨a1, a2, a3⟩ | ⟨a1, _⟩ | ⟨a1, _⟩ | ⟨a1, _⟩⟩
        · rw [c1] at a1; exact absurd a1 (by decide)
        · exact a3
        · rw [c1] at a1; exact absurd a1 (by decide)
        · rw [c1] at a1; exact absurd a1 (by decide)
        · rw [c1] at a1; exact absurd a1 (by decide)
      have wd := zt_tkd up.1 (Nat.le_trans En (Nat.le_succ_of_le n7))
      obtain ⟨w, wok, w8⟩ := hW i iL
      have hJ := r'.2.2.2.2 c1
      have e33 := r'.2.2.1 (by rw [c1]; decide)
      have top : L9_which_2 d 347 r i k = if zv_lcmp (Int64.ofInt (zt_v27 (W i))) (zt_cdw T f (min (E - f) 9)) = 0 then (if ((E - f : Nat) : Int) ≤ 8 then (some (some (zv_i (i : Int)), k) : zv_O) else L9_which_2 d 347 r ((i + 1 : Nat) : Int) k) else L9_which_2 d 347 r ((i + 1 : Nat) : Int) k := by
        rw [qL9_which_2, zm_e (zm_al hM hl rfl hr), if_pos iI, zm_e (zm_gI hM 34), r'.2.1, if_pos k1, zm_e (zm_gI hM 30), zt_gd_f2 G, if_pos rfl, zm_e (zm_aJ hM hl hr (Int.natCast_nonneg _) iI), Int.toNat_natCast, w, zm_e (zm_gJ hM 38), hJ, w1, zm_e (zm_gI hM 33), e33, zm_e (zm_gI hM 32), r'.1, wd]
      by_cases c8 : E - f ≤ 8
      · have fE8 : E ≤ f + 8 := Nat.sub_le_iff_le_add'.mp c8
        rw [Nat.min_eq_left (Nat.le_succ_of_le c8), if_pos (show ((E - f : Nat) : Int) ≤ 8 from Int.ofNat_le.mpr c8)] at top
        have iff := zt_cdw_eq (T := T) (f := f) (j := E - f) (fun x h1 h2 => up.2.2.1 x h1 (by rw [Nat.add_sub_cancel' up.1] at h2; exact h2)) (Nat.le_succ_of_le c8) wok (Nat.le_succ_of_le w8)
        by_cases c : zt_rl8 T f (E - f) = W i
        · rw [iff.mpr c, if_pos (zt_lcmp_r _)] at top
          exact ⟨i, top, Or.inr ⟨i, rfl, Nat.le_refl _, iL, ⟨c1, fE8, c⟩, fun j' h1 h2 => absurd h2 (Nat.not_lt.mpr h1)⟩⟩
        · rw [if_neg (fun z => c (iff.mp (zm_lcmp0 z).symm))] at top
          exact skip (fun z => c z.2.2) top
      · have n8 : ¬ ((E - f : Nat) : Int) ≤ 8 := fun z => c8 (Int.ofNat_le.mp z)
        rw [if_neg n8] at top
        refine skip (fun z => c8 (Nat.sub_le_iff_le_add'.mpr z.2.1)) (top.trans ?_)
        split <;> rfl
    · have k1 : ¬ (t : Int) = 1 := fun q => c1 (Int.ofNat.inj q)
      refine ⟨-1, ?_, Or.inl ⟨rfl, fun j _ _ z => c1 z.1⟩⟩
      rw [qL9_which_2, zm_e (zm_al hM hl rfl hr), if_pos iI, zm_e (zm_gI hM 34), r'.2.1, if_neg k1]
end
