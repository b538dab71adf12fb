/-! ===== the tie: a word typed ===== -/
theorem zm_tl_r (a b : Int) (k : Nat) : 0 ≤ zm_tl a b k ∧ zm_tl a b k ≤ 31 := zc_and31 (zv_ushr (if (k : Int) < 6 then a else b) (zv_w (5 * ((k : Int).tmod 6))))
/-- its letters -/
def zu_w (a b : Int) (i : Nat) : Int := zm_tl a b i - 1
/-- how many letters are told, or that one is none -/
theorem zu_n (a b : Int) : ∀ (m k : Nat), zm_ty a b m k = -1 ∨ ∃ n : Nat, zm_ty a b m k = n ∧ k ≤ n ∧ n ≤ k + m ∧ ∀ i, k ≤ i → i < n → 1 ≤ zm_tl a b i ∧ zm_tl a b i ≤ 26
  | 0, k => Or.inr ⟨k, rfl, Nat.le_refl _, Nat.le_refl _, fun i h1 h2 => by omega⟩
  | m + 1, k => by
    have e : zm_ty a b (m + 1) k = if zm_tl a b k ≤ 26 then (if zm_tl a b k ≤ 0 then (k : Int) else zm_ty a b m (k + 1)) else -1 := rfl
    rw [e]
    by_cases c1 : zm_tl a b k ≤ 26
    · rw [if_pos c1]
      by_cases c2 : zm_tl a b k ≤ 0
      · rw [if_pos c2]
        exact Or.inr ⟨k, rfl, Nat.le_refl _, by omega, fun i h1 h2 => by omega⟩
      · rw [if_neg c2]
        rcases zu_n a b m (k + 1) with h | ⟨n, h1, h2, h3, h4⟩
        · exact Or.inl h
        · refine Or.inr ⟨n, h1, by omega, by omega, fun i h5 h6 => ?_⟩
          by_cases c3 : i = k
          · rw [c3]
            omega
          · exact h4 i (by omega) h6
    · rw [if_neg c1]
      exact Or.inl rfl
/-- the class: but for the typed word -/
def zt_w34 (g g' : zv_H) : Prop := g'.1 = g.1 ∧ g'.2.2 = g.2.2 ∧ ∀ r i, ¬ (r = 3 ∧ i = 1) → r ≠ 4 → zv_I g' r i = zv_I g r i
section
variable {d : Nat} {g : zv_H}
theorem zt_lay3 : zv_lay 3 = (1, 7) := rfl
theorem zt_lay4 : zv_lay 4 = (2, 40) := rfl
theorem zt_type46 (a b : Int) {n : Nat} (hn : n ≤ 12) : ∀ (m i : Nat) (g : zv_H), i + m = n → zt_L g → zv_I g 3 1 = i → (∀ j, j < i → zv_I g 4 j = zu_w a b j) → ∃ g', L8_type_46 (d + 1) 1 a b n i g = some (some (zv_i n), g') ∧ zt_w34 g g' ∧ zv_I g' 3 1 = n ∧ ∀ j, j < n → zv_I g' 4 j = zu_w a b j
  | 0, i, g, hi, gL, h1, h2 => by
    have e : i = n := by omega
    subst e
    exact ⟨g, by rw [qL8_type_46, if_neg (by omega)], ⟨rfl, rfl, fun _ _ _ _ => rfl⟩, h1, h2⟩
  | m + 1, i, g, hi, gL, h1, h2 => by
    have e3 : zv_gR g 1 8 1 = some 3 := zl_gF gL (show zv_lay 1 = (1, 8) from rfl) 1 2
    have tr := zm_tl_r a b i
    rw [qL8_type_46, if_pos (by omega), zm_e e3, zm_e (zc_letter a b (show i < 12 by omega))]
    dsimp only
    rw [zm_w (show -2147483648 ≤ zm_tl a b i - 1 ∧ zm_tl a b i - 1 < 2147483648 by omega), zm_e (zt_C7_add (d := d) gL zt_lay3 zt_lay4 (i := i) (by omega) h1 (zm_tl a b i - 1)), zm_w (by omega)]
    have L2 : zt_L (zv_sI (zv_sI g (3 + 1) i (zm_tl a b i - 1)) 3 1 ((i + 1 : Nat) : Int)) := gL
    have f : zt_w34 g (zv_sI (zv_sI g (3 + 1) i (zm_tl a b i - 1)) 3 1 ((i + 1 : Nat) : Int)) := ⟨rfl, rfl, fun r j q1 q2 => (zy_In _ _ q1).trans (zy_In _ _ (fun q => q2 q.1))⟩
    have p1 : zv_I (zv_sI (zv_sI g (3 + 1) i (zm_tl a b i - 1)) 3 1 ((i + 1 : Nat) : Int)) 3 1 = ((i + 1 : Nat) : Int) := zy_I _ _ _ _
    have p2 : ∀ j, j < i + 1 → zv_I (zv_sI (zv_sI g (3 + 1) i (zm_tl a b i - 1)) 3 1 ((i + 1 : Nat) : Int)) 4 j = zu_w a b j := fun j hj => by
      rw [zy_In _ _ (fun q => absurd q.1 (by decide))]
      by_cases c : j = i
      · subst c
        exact zy_I _ _ _ _
      · rw [zy_In _ _ (fun q => c q.2)]
        exact h2 j (by omega)
    generalize zv_sI (zv_sI g (3 + 1) i (zm_tl a b i - 1)) 3 1 ((i + 1 : Nat) : Int) = g1 at L2 f p1 p2
    obtain ⟨g', y1, y2, y3, y4⟩ := zt_type46 a b hn m (i + 1) g1 (by omega) L2 p1 p2
    have ei : ((i : Int) + 1) = ((i + 1 : Nat) : Int) := by omega
    rw [ei]
    exact ⟨g', y1, ⟨y2.1.trans f.1, y2.2.1.trans f.2.1, fun r j q1 q2 => (y2.2.2 r j q1 q2).trans (f.2.2 r j q1 q2)⟩, y3, y4⟩
theorem zt_type36 (a b : Int) {n : Nat} (hn : n ≤ 12) (gL : zt_L g) : ∃ g', L8_type_36 (d + 1) 1 a b n g = some (some (zv_i n), g') ∧ zt_w34 g g' ∧ zv_I g' 3 1 = n ∧ ∀ j, j < n → zv_I g' 4 j = zu_w a b j := by
  have e3 : zv_gR g 1 8 1 = some 3 := zl_gF gL (show zv_lay 1 = (1, 8) from rfl) 1 2
  have L1 : zt_L (zv_sI g 3 1 0) := gL
  obtain ⟨g', y1, y2, y3, y4⟩ := zt_type46 (d := d) a b hn n 0 (zv_sI g 3 1 0) (Nat.zero_add _) L1 (zy_I _ _ _ _) (fun j hj => absurd hj (Nat.not_lt_zero j))
  refine ⟨g', ?_, ⟨y2.1, y2.2.1, fun r j q1 q2 => (y2.2.2 r j q1 q2).trans (zy_In _ _ q1)⟩, y3, y4⟩
  rw [qL8_type_36, zm_e e3, zm_e (zt_C7_clear (d := d) gL zt_lay3)]
  exact y1
theorem zt_type2 (a b : Int) (gL : zt_L g) : ∀ (m k : Nat), k + m = 12 → ∃ g', L8_type_2 (d + 1) 1 a b k g = some (some (zv_i (zm_ty a b m k)), g') ∧ ((zm_ty a b m k = -1 ∧ g' = g) ∨ ∃ n : Nat, zm_ty a b m k = n ∧ n ≤ 12 ∧ zt_w34 g g' ∧ zv_I g' 3 1 = n ∧ ∀ j, j < n → zv_I g' 4 j = zu_w a b j) := by
  intro m
  induction m with
  | zero =>
    intro k hk
    have ek : k = 12 := by omega
    subst ek
    obtain ⟨g', y1, y2, y3, y4⟩ := zt_type36 (d := d) a b (n := 12) (by decide) gL
    exact ⟨g', by rw [qL8_type_2, if_neg (by omega)]; exact y1, Or.inr ⟨12, rfl, by decide, y2, y3, y4⟩⟩
  | succ m ih =>
    intro k hk
    have e1 : zm_ty a b (m + 1) k = if zm_tl a b k ≤ 26 then (if zm_tl a b k ≤ 0 then (k : Int) else zm_ty a b m (k + 1)) else -1 := rfl
    have t' := zm_tl_r a b k
    rw [qL8_type_2, if_pos (by omega), zm_e (zc_letter a b (show k < 12 by omega)), e1]
    dsimp only
    by_cases c : zm_tl a b k = 0
    · rw [if_pos c, if_pos (by omega), if_pos (by omega)]
      obtain ⟨g', y1, y2, y3, y4⟩ := zt_type36 (d := d) a b (n := k) (by omega) gL
      exact ⟨g', y1, Or.inr ⟨k, rfl, by omega, y2, y3, y4⟩⟩
    · rw [if_neg c, zm_e (zc_letter a b (show k < 12 by omega))]
      dsimp only
      by_cases c1 : zm_tl a b k ≤ 26
      · rw [if_pos c1, if_pos c1, if_neg (by omega), zm_w (by omega)]
        exact ih (k + 1) (by omega)
      · rw [if_neg c1, if_neg c1]
        exact ⟨g, rfl, Or.inl ⟨rfl, rfl⟩⟩
end
/-! the reference -/
theorem zt_type103 (D : Nat) {n : Nat} (hn : n ≤ 12) : ∀ (m i : Nat) (k : zv_H), i + m = n → zm_M k → (∀ j, j < i → zv_I k 361 j = zv_I k 360 j) → ∃ k', L9_type_103 D 347 n i k = some (some (zv_i n), k') ∧ zm_F [361] [20] k k' ∧ zv_I k' 347 20 = n ∧ ∀ j, j < n → zv_I k' 361 j = zv_I k 360 j
  | 0, i, k, hi, hM, h => by
    have e : i = n := by omega
    subst e
    rw [qL9_type_103, if_neg (by omega), zm_e (zm_pI hM 20 _)]
    exact ⟨_, rfl, zm_F_f (zm_F_r _ _ k) rfl _, zy_I _ _ _ _, fun j hj => (zy_In _ _ (fun q => absurd q.1 (by decide))).trans (h j hj)⟩
  | m + 1, i, k, hi, hM, h => by
    rw [qL9_type_103, if_pos (by omega), zm_e (zm_f18 hM), zm_e (zm_f17 hM), zm_e (zm_aI hM zm_l360 rfl (by omega) (by omega)), zm_e (zm_wI hM zm_l361 rfl (by omega) (by omega) _), zm_w (by omega), Int.toNat_natCast]
    have f1 : zm_F [361] [20] k (zv_sI k 361 i (zv_I k 360 i)) := zm_F_I (zm_F_r _ _ k) rfl _ _
    have e360 : zv_I (zv_sI k 361 i (zv_I k 360 i)) 360 = zv_I k 360 := zm_F_a f1 360
    have hj : ∀ j, j < i + 1 → zv_I (zv_sI k 361 i (zv_I k 360 i)) 361 j = zv_I (zv_sI k 361 i (zv_I k 360 i)) 360 j := fun j hj => by
      rw [e360]
      by_cases c : j = i
      · subst c
        exact zy_I _ _ _ _
      · rw [zy_In _ _ (fun q => c q.2)]
        exact h j (by omega)
    generalize zv_sI k 361 i (zv_I k 360 i) = k1 at f1 e360 hj
    obtain ⟨k', y1, y2, y3, y4⟩ := zt_type103 D hn m (i + 1) k1 (by omega) (zm_F_M f1 hM) hj
    have ei : ((i : Int) + 1) = ((i + 1 : Nat) : Int) := by omega
    rw [ei]
    exact ⟨k', y1, zm_F_t f1 y2, y3, fun j hj => by rw [y4 j hj, e360]⟩
theorem zt_type13 (D : Nat) (a b : Int) : ∀ (m i : Nat) (k : zv_H), i + m = 12 → zm_M k → (∀ j, j < i → zv_I k 360 j = zu_w a b j) → ∃ k', L9_type_13 D 347 a b i 1 i k = some (some (zv_i (zm_ty a b m i)), k') ∧ zm_F [360, 361] [20] k k' ∧ ((zm_ty a b m i = -1 ∧ zm_F [360] [] k k') ∨ ∃ n : Nat, zm_ty a b m i = n ∧ n ≤ 12 ∧ zv_I k' 347 20 = n ∧ ∀ j, j < n → zv_I k' 361 j = zu_w a b j)
  | 0, i, k, hi, hM, h => by
    have ei : i = 12 := by omega
    subst ei
    obtain ⟨k', y1, y2, y3, y4⟩ := zt_type103 D (n := 12) (by decide) 12 0 k rfl hM (fun j hj => absurd hj (Nat.not_lt_zero j))
    rw [qL9_type_13, if_neg (by omega)]
    exact ⟨k', y1, zm_F_s y2 rfl rfl, Or.inr ⟨12, rfl, by decide, y3, fun j hj => (y4 j hj).trans (h j hj)⟩⟩
  | m + 1, i, k, hi, hM, h => by
    have w1 : zv_w ((i : Int) + 1) = ((i + 1 : Nat) : Int) := by
      rw [zm_w (by omega)]
      rfl
    have w0 : zv_w ((i : Int) + 0) = (i : Int) := by
      rw [zm_w (by omega), Int.add_zero]
    have t' := zm_tl_r a b i
    have l37 : ∀ e : Int, e = (if (i : Int) < 6 then a else b) → ∃ k', L9_type_37 D 347 a b i i e k = some (some (zv_i (zm_ty a b (m + 1) i)), k') ∧ zm_F [360, 361] [20] k k' ∧ ((zm_ty a b (m + 1) i = -1 ∧ zm_F [360] [] k k') ∨ ∃ n : Nat, zm_ty a b (m + 1) i = n ∧ n ≤ 12 ∧ zv_I k' 347 20 = n ∧ ∀ j, j < n → zv_I k' 361 j = zu_w a b j) := by
      intro e he
      have ev : zv_and (zv_ushr e (zv_w (5 * ((i : Int).tmod 6)))) 31 = zm_tl a b i := by
        rw [he]
        rfl
      have et : zm_ty a b (m + 1) i = if zm_tl a b i ≤ 26 then (if zm_tl a b i ≤ 0 then (i : Int) else zm_ty a b m (i + 1)) else -1 := rfl
      rw [qL9_type_37, ev, et]
      by_cases c1 : zm_tl a b i ≤ 26
      · rw [if_pos c1, if_pos c1]
        have f1 : zm_F [360] [] k (zv_sI k 360 i (zm_tl a b i - 1)) := zm_F_I (zm_F_r _ _ k) rfl _ _
        have M1 := zm_F_M f1 hM
        have lt : ∀ j, j < i + 1 → zv_I (zv_sI k 360 i (zm_tl a b i - 1)) 360 j = zu_w a b j := fun j hj => by
          by_cases c : j = i
          · subst c
            exact zy_I _ _ _ _
          · rw [zy_In _ _ (fun q => c q.2)]
            exact h j (by omega)
        by_cases c2 : zm_tl a b i ≤ 0
        · rw [if_pos c2, if_pos c2, qL9_type_69, zm_e (zm_f17 hM), zm_e (zm_wI hM zm_l360 rfl (by omega) (by omega) _), if_pos rfl, w0, w1, Int.toNat_natCast, zm_w (show -2147483648 ≤ zm_tl a b i - 1 ∧ zm_tl a b i - 1 < 2147483648 by omega)]
          generalize zv_sI k 360 i (zm_tl a b i - 1) = k1 at f1 M1 lt
          obtain ⟨k', y1, y2, y3, y4⟩ := zt_type103 D (n := i) (by omega) i 0 k1 (Nat.zero_add _) M1 (fun j hj => absurd hj (Nat.not_lt_zero j))
          refine ⟨k', ?_, zm_F_t (zm_F_s f1 rfl rfl) (zm_F_s y2 rfl rfl), Or.inr ⟨i, rfl, by omega, y3, fun j hj => (y4 j hj).trans (lt j (by omega))⟩⟩
          rw [qL9_type_13, if_pos rfl, ite_self]
          exact y1
        · rw [if_neg c2, if_neg c2, qL9_type_69, zm_e (zm_f17 hM), zm_e (zm_wI hM zm_l360 rfl (by omega) (by omega) _), if_neg (by decide), w1, Int.toNat_natCast, zm_w (show -2147483648 ≤ zm_tl a b i - 1 ∧ zm_tl a b i - 1 < 2147483648 by omega)]
          generalize zv_sI k 360 i (zm_tl a b i - 1) = k1 at f1 M1 lt
          obtain ⟨k', y1, y2, y3⟩ := zt_type13 D a b m (i + 1) k1 (by omega) M1 lt
          refine ⟨k', y1, zm_F_t (zm_F_s f1 rfl rfl) y2, ?_⟩
          rcases y3 with ⟨z1, z2⟩ | z
          · exact Or.inl ⟨z1, zm_F_t f1 z2⟩
          · exact Or.inr z
      · rw [if_neg c1, if_neg c1]
        exact ⟨k, rfl, zm_F_r _ _ k, Or.inl ⟨rfl, zm_F_r _ _ k⟩⟩
    rw [qL9_type_13, if_pos (by omega), if_neg (by decide)]
    by_cases c1 : (i : Int) < 6
    · rw [if_pos c1]
      exact l37 a (by rw [if_pos c1])
    · rw [if_neg c1]
      exact l37 b (by rw [if_neg c1])
section
variable {a b m : Nat} {g k : zv_H}
theorem zp_type {d D : Nat} (hA : zc_A g) (I : zm_MI k) (S : zt_GG m a b g k) (x y : Int) : ∃ v g' k', C8_type (d + 10) 1 x y g = some (v, g') ∧ C9_type (D + 10) 347 x y k = some (v, k') ∧ zt_GG m a b g' k' := by
  have gL := zt_L_A hA
  have hM := I.1
  have lab := zt_lab (zt_GG_ab S)
  obtain ⟨g', y1, y2⟩ := zt_type2 (d := d + 8) x y gL 12 0 rfl
  have f0 : zm_F [] [4] k (zv_sI k 347 4 0) := zm_F_f (zm_F_r _ _ k) rfl _
  obtain ⟨k', z1, z2, z3⟩ := zt_type13 (D + 9) x y 12 0 (zv_sI k 347 4 0) rfl (zm_F_M f0 hM) (fun j hj => absurd hj (Nat.not_lt_zero j))
  have eC : C8_type (d + 10) 1 x y g = some (zm_ty x y 12 0, g') := lC8_type (zl_ob gL (show zv_lay 1 = (1, 8) from rfl)) (by rw [qE8_type]; exact y1)
  have eR : C9_type (D + 10) 347 x y k = some (zm_ty x y 12 0, k') := lC9_type (zm_ob hM) (by rw [qE9_type, zm_e (zm_pI hM 4 0)]; exact z1)
  refine ⟨_, g', k', eC, eR, ?_⟩
  have tn := zu_n x y 12 0
  generalize zm_ty x y 12 0 = v at y2 z3 tn
  rcases z3 with ⟨e1, z4⟩ | ⟨n, e1, e2, e3, e4⟩
  · rcases y2 with ⟨_, w⟩ | ⟨n, w, _⟩
    · rw [w]
      exact zt_GG_F S (zm_F_t (zm_F_s f0 rfl rfl) (zm_F_s z4 rfl rfl) : zm_F [360] [4] k k')
    · omega
  · rcases y2 with ⟨w, _⟩ | ⟨n', w1, w2, w3, w4, w5⟩
    · omega
    · have en : n' = n := by omega
      subst en
      have F : zm_F [360, 361] [4, 20] k k' := zm_F_t (zm_F_s f0 rfl rfl) (zm_F_s z2 rfl rfl)
      have eR : ∀ r i, zv_R g' r i = zv_R g r i := fun r i => by unfold zv_R; rw [w3.2.1]
      have eJ : ∀ r i, zv_J g' r i = zv_J g r i := fun r i => by unfold zv_J; rw [w3.2.1]
      have eI : ∀ r i, r ≠ 3 → r ≠ 4 → zv_I g' r i = zv_I g r i := fun r i q1 q2 => w3.2.2 r i (fun q => q1 q.1) q2
      have lw : zt_lw n' (zu_w x y) := fun j hj => by
        rcases tn with q | ⟨n2, q1, q2, q3, q4⟩
        · omega
        · have := q4 j (Nat.zero_le _) (by omega)
          unfold zu_w
          omega
      refine ⟨(eR 1 3).trans (zt_GG_r S), (eR 1 4).trans (zt_GG_s S), zt_GG_ab S, ?_, fun i hi => ?_, fun i hi => ?_, ?_, ?_, ?_, ⟨n', e3, e2, ⟨zt_lay3, zt_lay4, by omega, w4, fun j hj => (w5 j hj).trans (e4 j hj).symm⟩, fun j hj => by rw [e4 j hj]; exact lw j hj⟩⟩
      · rw [zm_F_a F 348]
        exact zt_H_9 (zt_GG_H S) (fun r i hr => eI r i (by omega) (by omega)) (fun r i _ => eJ r i) (fun r i _ => eR r i)
      · have := zc_sttb (a := b) hi
        have := zc_lh lab.2.1
        exact (eI _ _ (by omega) (by omega)).trans (zt_GG_N S i hi)
      · rw [zm_F_g F 27] at hi
        rw [eI 6 i (by decide) (by decide), zm_F_a F 366]
        exact zt_GG_tp S i hi
      · rw [zm_F_a F 348]
        exact zt_GG_n1 S
      · rw [zm_F_a F 348]
        exact zt_GG_n2 S
      · rw [eI 1 7 (by decide) (by decide), eI 5 8 (by decide) (by decide), eI 5 9 (by decide) (by decide), zm_F_g F 28, zm_F_g F 29]
        exact zt_GG_fl S
/-- the fault of the latest load -/
theorem zp_fault {d D : Nat} (hA : zc_A g) (I : zm_MI k) (S : zt_GG m a b g k) (x : Int) : ∃ v k', C8_fault (d + 2) 1 x g = some (v, g) ∧ C9_fault (D + 2) 347 x k = some (v, k') ∧ zm_F [] [4] k k' := by
  have gL := zt_L_A hA
  have hM := I.1
  have l1 : zv_lay 1 = (1, 8) := rfl
  have e5 : zv_gR g 1 8 2 = some 5 := zl_gF gL l1 2 4
  have f0 : zm_F [] [4] k (zv_sI k 347 4 0) := zm_F_f (zm_F_r _ _ k) rfl _
  have M0 := zm_F_M f0 hM
  have g28 : zv_I (zv_sI k 347 4 0) 347 28 = zv_I k 347 28 := zm_F_g f0 28
  have g29 : zv_I (zv_sI k 347 4 0) 347 29 = zv_I k 347 29 := zm_F_g f0 29
  have qC := qE8_fault (d + 1) 1 x g
  rw [zm_e (zl_gI gL l1 7)] at qC
  have qR := qE9_fault (D + 1) 347 x k
  rw [zm_e (zm_pI hM 4 0)] at qR
  generalize zv_sI k 347 4 0 = k0 at f0 M0 g28 g29 qR
  rcases zt_GG_fl S with ⟨h7, h28, h29⟩ | ⟨h7, h28, h29⟩
  · rw [h7, if_pos rfl] at qC
    refine ⟨-1, k0, lC8_fault (zl_ob gL l1) qC, lC9_fault (zm_ob hM) ?_, f0⟩
    by_cases c0 : x = 0
    · rw [if_pos c0, zm_e (zm_gI M0 28), g28, h28] at qR
      exact qR
    · rw [if_neg c0] at qR
      by_cases c1 : x = 1
      · rw [if_pos c1, zm_e (zm_gI M0 29), g29, h29] at qR
        exact qR
      · rw [if_neg c1] at qR
        exact qR
  · rw [h7, if_neg (by decide), zm_e (zc_within (d := d) g x 0 1)] at qC
    dsimp only at qC
    by_cases c0 : x = 0
    · rw [if_pos (show 0 ≤ x ∧ x ≤ 1 by omega), if_neg (by decide), if_pos c0, zm_e e5, zm_e (zl_gI gL zt_lay5 8)] at qC
      rw [if_pos c0, zm_e (zm_gI M0 28), g28, ← h28] at qR
      exact ⟨_, k0, lC8_fault (zl_ob gL l1) qC, lC9_fault (zm_ob hM) qR, f0⟩
    · by_cases c1 : x = 1
      · rw [if_pos (show 0 ≤ x ∧ x ≤ 1 by omega), if_neg (by decide), if_neg c0, zm_e e5, zm_e (zl_gI gL zt_lay5 9)] at qC
        rw [if_neg c0, if_pos c1, zm_e (zm_gI M0 29), g29, ← h29] at qR
        exact ⟨_, k0, lC8_fault (zl_ob gL l1) qC, lC9_fault (zm_ob hM) qR, f0⟩
      · rw [if_neg (show ¬ (0 ≤ x ∧ x ≤ 1) by omega), if_pos rfl] at qC
        rw [if_neg c0, if_neg c1] at qR
        exact ⟨_, k0, lC8_fault (zl_ob gL l1) qC, lC9_fault (zm_ob hM) qR, f0⟩
end
