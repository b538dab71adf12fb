/-! ===== the tie: is it that word, the class ===== -/
def zt_isw (T : Nat → Int) (f t E : Nat) (l : List Int) : Prop := t = 1 ∧ E = f + l.length ∧ ∀ i : Nat, i < l.length → T (f + i) = l.getD i 0
section
variable {T : Nat → Int} {n : Nat} {g k : zv_H} {f t E : Nat}
theorem zt_is28 {d r : Nat} (hr : 1000000 ≤ r ∧ r < 1000024) (X : zt_tx T n g) (h5 : zv_I g 5 5 = f) {l : List Int} (hl : l = zm_tx r) (fE : f + l.length ≤ n) : ∀ (m j : Nat), j + m = l.length → (∀ i : Nat, i < j → T (f + i) = l.getD i 0) → ∃ b : Int, L3_is_28 (d + 3) 5 r (j : Int) g = some (some (zv_i b), g) ∧ ((b = 1 ∧ ∀ i : Nat, i < l.length → T (f + i) = l.getD i 0) ∨ (b = 0 ∧ ¬ ∀ i : Nat, i < l.length → T (f + i) = l.getD i 0)) := by
  have gL := zt_tx_L X
  have n7 := zt_tx_n X
  have es := zm_slen g (d + 1) hr
  have ec : ∀ {i : Int}, 0 ≤ i → i < (l.length : Int) → C13_charAt (d + 3) r i g = some (l.getD i.toNat 0, g) := fun {i} h0 h1 => by
    rw [hl] at h1 ⊢
    exact zm_charAt g d hr h0 h1
  rw [← hl] at es
  clear hr hl
  intro m
  induction m with
  | zero =>
    intro j hj hs
    have e : j = l.length := hj
    refine ⟨1, ?_, Or.inl ⟨rfl, by rw [← e]; exact hs⟩⟩
    rw [qL3_is_28, zm_e es]
    dsimp only
    rw [e, if_neg (Int.lt_irrefl _)]
  | succ m ih =>
    intro j hj hs
    have jl : j < l.length := by omega
    have fj : f + j < n := by omega
    have x7 : f + j ≤ 700 := by omega
    have j7 : j ≤ 700 := by omega
    have jI : (j : Int) < (l.length : Int) := Int.ofNat_lt.mpr jl
    have wf : zv_w ((f : Int) + (j : Int)) = ((f + j : Nat) : Int) := by
      rw [zm_w (by omega)]
      rfl
    have ba := zt_byteAt (d := d + 2) X (f + j) x7
    have eb : zt_at8 T n (f + j) = T (f + j) := if_pos fj
    rw [eb] at ba
    have ch := ec (Int.natCast_nonneg j) jI
    rw [Int.toNat_natCast] at ch
    have top : ∀ {R : zv_O}, (if T (f + j) = l.getD j 0 then L3_is_28 (d + 3) 5 r ((j + 1 : Nat) : Int) g else some (some (zv_i 0), g)) = R → L3_is_28 (d + 3) 5 r (j : Int) g = R := fun {R} hR => by
      rw [qL3_is_28, zm_e es]
      dsimp only
      rw [if_pos jI, zm_e (zl_gI gL zt_lay5 5), h5, wf, zm_e ba]
      dsimp only
      rw [zm_e ch, zt_tkw j7]
      exact hR
    by_cases c : T (f + j) = l.getD j 0
    · rw [if_pos c] at top
      obtain ⟨b, y1, y2⟩ := ih (j + 1) (by clear c; omega) (fun i hi => by
        by_cases z : i = j
        · rw [z]; exact c
        · exact hs i (Nat.lt_of_le_of_ne (Nat.le_of_lt_succ hi) z))
      exact ⟨b, top y1, y2⟩
    · rw [if_neg c] at top
      exact ⟨0, top rfl, Or.inr ⟨rfl, fun q => c (q j jl)⟩⟩
theorem zt_is {d r : Nat} (G : zt_gd T n g k f t E) (hr : 1000000 ≤ r ∧ r < 1000024) : ∃ b : Int, C3_is (d + 4) 5 r g = some (b, g) ∧ ((b = 1 ∧ zt_isw T f t E (zm_tx r)) ∨ (b = 0 ∧ ¬ zt_isw T f t E (zm_tx r))) := by
  have X := zt_gd_X G
  have gL := zt_tx_L X
  have n7 := zt_tx_n X
  obtain ⟨e0, hk⟩ := zt_gd_k G
  have En := zt_tkn_E hk
  have c5 := zt_gd_c5 G
  have c4 := zt_gd_c4 G
  have c6 := zt_gd_c6 G
  have es := zm_slen g (d + 1) hr
  obtain ⟨l, hl⟩ : ∃ l, l = zm_tx r := ⟨_, rfl⟩
  have loop := fun h => zt_is28 (d := d) hr X c5 hl h l.length 0 (Nat.zero_add _) (fun i hi => absurd hi (Nat.not_lt_zero _))
  rw [← hl] at es ⊢
  unfold zt_isw
  clear hr hl
  by_cases h1 : t = 1
  · have k1 : (t : Int) = 1 := by rw [h1]; rfl
    have fE : f ≤ E := by
      rcases hk.2 with ⟨a1, _⟩ | ⟨an, ⟨a1, a2, a3⟩ | ⟨a1, _⟩ | ⟨a1, _⟩ | ⟨a1, _⟩⟩
      · rw [h1] at a1; exact absurd a1 (by decide)
      · exact a3.1
      · rw [h1] at a1; exact absurd a1 (by decide)
      · rw [h1] at a1; exact absurd a1 (by decide)
      · rw [h1] at a1; exact absurd a1 (by decide)
    have wd := zt_tkd fE (Nat.le_trans En (Nat.le_succ_of_le n7))
    by_cases c : E = f + l.length
    · have ef : E - f = l.length := by rw [c]; exact Nat.add_sub_cancel_left _ _
      obtain ⟨b, y1, y2⟩ := loop (by rw [← c]; exact En)
      refine ⟨b, lC3_is (zl_ob gL zt_lay5) ?_, ?_⟩
      · rw [qE3_is, zm_e (zl_gI gL zt_lay5 4), c4, if_pos k1, zm_e (zl_gI gL zt_lay5 6), c6, zm_e (zl_gI gL zt_lay5 5), c5, zm_e es]
        dsimp only
        rw [wd, ef, if_pos rfl]
        exact y1
      · rcases y2 with ⟨q1, q2⟩ | ⟨q1, q2⟩
        · exact Or.inl ⟨q1, h1, c, q2⟩
        · exact Or.inr ⟨q1, fun q => q2 q.2.2⟩
    · refine ⟨0, lC3_is (zl_ob gL zt_lay5) ?_, Or.inr ⟨rfl, fun q => c q.2.1⟩⟩
      have ne : ¬ ((E - f : Nat) : Int) = (l.length : Int) := fun q => c (by
        have := Int.ofNat.inj q
        rw [← this]
        exact (Nat.add_sub_cancel' fE).symm)
      rw [qE3_is, zm_e (zl_gI gL zt_lay5 4), c4, if_pos k1, zm_e (zl_gI gL zt_lay5 6), c6, zm_e (zl_gI gL zt_lay5 5), c5, zm_e es]
      dsimp only
      rw [wd, if_neg ne]
  · refine ⟨0, lC3_is (zl_ob gL zt_lay5) ?_, Or.inr ⟨rfl, fun q => h1 q.1⟩⟩
    rw [qE3_is, zm_e (zl_gI gL zt_lay5 4), c4, if_neg (show ¬ (t : Int) = 1 from fun q => h1 (Int.ofNat.inj q))]
end
