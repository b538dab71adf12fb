/-! ===== the tie: carrying, the class ===== -/
/-- whose letters stand for whose -/
def zt_sd (a : Nat) (sf : Nat → Int) (g : zv_H) (k : zv_H) : Prop := (∀ i : Nat, i < 48 → zv_I g (a + 6) i = sf i) ∧ (∀ i : Nat, i < 48 → zv_I k 362 i = sf i) ∧ (sf 0 = 0) ∧ (∀ i : Nat, 1 ≤ i → i < 48 → 1 ≤ sf i ∧ sf i ≤ 47)
theorem zt_sd_cl {a : Nat} {sf : Nat → Int} {g : zv_H} {k : zv_H} (t : zt_sd a sf g k) : ∀ i : Nat, i < 48 → zv_I g (a + 6) i = sf i := t.1
theorem zt_sd_rf {a : Nat} {sf : Nat → Int} {g : zv_H} {k : zv_H} (t : zt_sd a sf g k) : ∀ i : Nat, i < 48 → zv_I k 362 i = sf i := t.2.1
theorem zt_sd_z {a : Nat} {sf : Nat → Int} {g : zv_H} {k : zv_H} (t : zt_sd a sf g k) : sf 0 = 0 := t.2.2.1
theorem zt_sd_r {a : Nat} {sf : Nat → Int} {g : zv_H} {k : zv_H} (t : zt_sd a sf g k) : ∀ i : Nat, 1 ≤ i → i < 48 → 1 ≤ sf i ∧ sf i ≤ 47 := t.2.2.2
def zt_so (sf : Nat → Int) (p : Int × Int) : Int × Int := (sf p.1.toNat, p.2)
theorem zt_so_ok {a : Nat} {sf : Nat → Int} {g k : zv_H} (D : zt_sd a sf g k) {p : Int × Int} (h : zt_ok p) : zt_ok (zt_so sf p) := by
  rcases h with q | q
  · refine Or.inl ⟨?_, q.2⟩
    show sf p.1.toNat = 0
    rw [q.1]
    exact zt_sd_z D
  · have := zt_sd_r D p.1.toNat (by omega) (by omega)
    exact Or.inr ⟨this, q.2⟩
theorem zt_so_r {a : Nat} {sf : Nat → Int} {g k : zv_H} (D : zt_sd a sf g k) {i : Nat} (hi : i < 48) : 0 ≤ sf i ∧ sf i ≤ 47 := by
  by_cases e : i = 0
  · rw [e, zt_sd_z D]; decide
  · have := zt_sd_r D i (by omega) hi
    omega
theorem zt_sta_l {a : Nat} (ha : zv_lay a = (1, 0)) : zv_lay (a + 6) = (2, 48) ∧ zv_lay (a + 26) = (1, 7) ∧ zv_lay (a + 27) = (2, 40) := by cases zc_lh ha with
  | inl e => rw [e]; exact ⟨rfl, rfl, rfl⟩
  | inr e => rw [e]; exact ⟨rfl, rfl, rfl⟩
/-- taken by a cut, by what stands for what -/
def zt_tP (c : Nat → Int) (sf : Nat → Int) (s : Int) (x : Int × Int) : Prop := ∃ p ∈ zm_tk c s, zt_so sf p = x
section
variable {a : Nat} {c : Nat → Int} {g k : zv_H} {sf : Nat → Int}
theorem zt_standOf {d : Nat} (gL : zt_L g) (la : zv_lay a = (1, 0)) (D : zt_sd a sf g k) {p : Int × Int} (hp : zt_ok p) : C0_standOf (d + 2) a (zt_id p) g = some (zt_id (zt_so sf p), g) := by
  have l6 := (zt_sta_l la).1
  have ir := zt_id_r hp
  have p47 : 0 ≤ p.1 ∧ p.1 ≤ 47 := by rcases hp with q | q <;> omega
  have p40 : 0 ≤ p.2 ∧ p.2 < 40 := by rcases hp with q | q <;> omega
  refine lC0_standOf (zl_ob gL la) ?_
  rw [qE0_standOf, zm_e (zt_C4_putter hp)]
  dsimp only
  rw [if_neg (by omega), if_neg (by omega), if_pos (by omega), zm_e (zl_gF gL la 3 6), zm_e (zl_aI gL l6 p47.1 (by omega)), zt_sd_cl D _ (by omega), zm_e (zt_C4_order hp)]
  dsimp only
  rw [zm_e (zt_C4_id (zt_so_r D (show p.1.toNat < 48 by omega)) (by omega))]
  rfl
theorem zt_takes_l {d : Nat} (gL : zt_L g) (U : zt_U a c g) (D : zt_sd a sf g k) {s : Int} (hs : zm_st c s) (hk : zm_o c s 2 = 1) {m : Nat} (hm : zm_o c s 5 = m) (h12 : m ≤ 12) (hok : ∀ p ∈ zm_tk c s, zt_ok p) {x : Int × Int} (hx : zt_ok x) : ∀ (n i : Nat), i + n = m → ∃ v, L0_takes_2 (d + 2) a (zt_r a s) (zt_id x) i g = some (some (zv_i v), g) ∧ (v ≠ 0 ↔ ∃ j p, i ≤ j ∧ (zm_tk c s)[j]? = some p ∧ zt_so sf p = x) := by
  have la := zt_U_la U
  have lS := zt_r_l la hs.1
  have S := zt_U_st U s hs
  have tl : (zm_tk c s).length = m := by rw [zm_tk_len, hm]; rfl
  have ir := zt_id_r hx
  intro n
  induction n with
  | zero =>
    intro i hi
    refine ⟨0, ?_, fun q => absurd rfl q, fun q => ?_⟩
    · rw [qL0_takes_2, zm_e (zl_gI gL lS 9), zt_S_sz S, hm, if_neg (by omega)]
    · obtain ⟨j, p, j1, j2, _⟩ := q
      have := zm_lt_of_get j2
      omega
  | succ n ih =>
    intro i hi
    obtain ⟨v, ev, iv⟩ := ih (i + 1) (by omega)
    obtain ⟨p, hp⟩ : ∃ p, (zm_tk c s)[i]? = some p := ⟨_, List.getElem?_eq_getElem (by omega)⟩
    have pok := hok p (List.mem_of_getElem? hp)
    have et : C5_tookAt (d + 2) (zt_r a s) (i : Int) g = some (zt_id p, g) := by
      rw [zt_C5_tookAt gL lS, if_pos ⟨(zt_S_ac S).trans hk, by omega, by rw [zt_S_sz S, hm]; omega, by omega⟩, show ((i : Nat) : Int).toNat = i by omega, zt_S_tk S hk i p hp]
    have w1 : zv_w ((i : Int) + 1) = ((i + 1 : Nat) : Int) := by
      rw [zm_w (by omega)]
      rfl
    by_cases e : zt_so sf p = x
    · refine ⟨1, ?_, fun _ => ⟨i, p, Nat.le_refl _, hp, e⟩, fun _ => by decide⟩
      rw [qL0_takes_2, zm_e (zl_gI gL lS 9), zt_S_sz S, hm, if_pos (by omega), if_neg (by omega), zm_e et]
      dsimp only
      rw [zm_e (zt_standOf gL la D pok)]
      dsimp only
      rw [if_pos (by rw [e])]
    · refine ⟨v, ?_, fun q => ?_, fun q => ?_⟩
      · rw [qL0_takes_2, zm_e (zl_gI gL lS 9), zt_S_sz S, hm, if_pos (by omega), if_neg (by omega), zm_e et]
        dsimp only
        rw [zm_e (zt_standOf gL la D pok)]
        dsimp only
        rw [if_neg (fun q => e (zt_id_inj (zt_so_ok D pok) hx q)), w1]
        exact ev
      · obtain ⟨j, p', j1, j2, j3⟩ := iv.mp q
        exact ⟨j, p', by omega, j2, j3⟩
      · obtain ⟨j, p', j1, j2, j3⟩ := q
        refine iv.mpr ⟨j, p', ?_, j2, j3⟩
        by_cases z : j = i
        · rw [z, hp] at j2
          cases j2
          exact absurd j3 e
        · omega
theorem zt_takes {d : Nat} (gL : zt_L g) (U : zt_U a c g) (D : zt_sd a sf g k) {s : Int} (hs : zm_st c s) (hk : zm_o c s 2 = 1) (hok : ∀ p ∈ zm_tk c s, zt_ok p) {x : Int × Int} (hx : zt_ok x) : ∃ v, C0_takes (d + 3) a (zt_r a s) (zt_id x) g = some (v, g) ∧ (v ≠ 0 ↔ zt_tP c sf s x) := by
  have la := zt_U_la U
  have hm0 := zm_ed_m (zt_U_W U).1 hs (Or.inr hk)
  obtain ⟨v, ev, iv⟩ := zt_takes_l (d := d) gL U D hs hk (m := (zm_o c s 5).toNat) (by omega) (by omega) hok hx _ 0 (Nat.zero_add _)
  refine ⟨v, lC0_takes (zl_ob gL la) ?_, ?_⟩
  · rw [qE0_takes]
    exact ev
  · rw [iv]
    unfold zt_tP
    constructor
    · rintro ⟨j, p, _, j2, j3⟩
      exact ⟨p, List.mem_of_getElem? j2, j3⟩
    · rintro ⟨p, hp, e⟩
      obtain ⟨j, hj⟩ := List.mem_iff_getElem?.mp hp
      exact ⟨j, p, Nat.zero_le _, hj, e⟩
/-- side by side: from a place on, so many -/
def zt_blk (P : Int × Int → Prop) (E : List (Int × Int)) (f m : Nat) : Prop := 1 ≤ m ∧ f + m ≤ E.length ∧ ∀ (i : Nat) (x : Int × Int), E[i]? = some x → (P x ↔ f ≤ i ∧ i < f + m)
theorem zt_blk_u {P : Int × Int → Prop} {E : List (Int × Int)} {f m f' m' : Nat} (h : zt_blk P E f m) (h' : zt_blk P E f' m') : f = f' ∧ m = m' := by
  obtain ⟨a1, a2, a3⟩ := h
  obtain ⟨b1, b2, b3⟩ := h'
  have key : ∀ i, i < E.length → (f ≤ i ∧ i < f + m ↔ f' ≤ i ∧ i < f' + m') := fun i hi => by
    have hx := List.getElem?_eq_getElem hi
    rw [← a3 i _ hx, ← b3 i _ hx]
  have k1 := (key f (by omega)).mp ⟨by omega, by omega⟩
  have k2 := (key f' (by omega)).mpr ⟨by omega, by omega⟩
  have k3 := (key (f + m - 1) (by omega)).mp ⟨by omega, by omega⟩
  have k4 := (key (f' + m' - 1) (by omega)).mpr ⟨by omega, by omega⟩
  omega
/-- a gap: not side by side -/
theorem zt_blk_gap {P : Int × Int → Prop} {E : List (Int × Int)} {i j l : Nat} {x y z : Int × Int} (hi : E[i]? = some x) (hj : E[j]? = some y) (hl : E[l]? = some z) (h1 : i < j) (h2 : j < l) (px : P x) (py : ¬ P y) (pz : P z) (f m : Nat) : ¬ zt_blk P E f m := by
  rintro ⟨_, _, a3⟩
  have k1 := (a3 i x hi).mp px
  have k2 := (a3 l z hl).mp pz
  exact py ((a3 j y hj).mpr ⟨by omega, by omega⟩)
theorem zt_blk_no {P : Int × Int → Prop} {E : List (Int × Int)} (h : ∀ x ∈ E, ¬ P x) (f m : Nat) : ¬ zt_blk P E f m := by
  rintro ⟨a1, a2, a3⟩
  have hx := List.getElem?_eq_getElem (show f < E.length by omega)
  exact h _ (List.mem_of_getElem? hx) ((a3 f _ hx).mpr ⟨by omega, by omega⟩)
theorem zt_firstTaken {d : Nat} (gL : zt_L g) (U : zt_U a c g) {S : Nat} {E : List (Int × Int)} {P : Int × Int → Prop} (src : zt_src (zt_r a (c 0)) E g) (hok : ∀ x ∈ E, zt_ok x) (tk : ∀ x, zt_ok x → ∃ v, C0_takes (d + 3) a S (zt_id x) g = some (v, g) ∧ (v ≠ 0 ↔ P x)) : ∀ (n i : Nat), i + n = E.length → (∀ (j : Nat) (x : Int × Int), j < i → E[j]? = some x → ¬ P x) → ∃ v, L0_firstTaken_2 (d + 3) a S i g = some (some (zv_i v), g) ∧ ((v = -1 ∧ ∀ x ∈ E, ¬ P x) ∨ ∃ (f : Nat) (x : Int × Int), v = (f : Int) ∧ E[f]? = some x ∧ P x ∧ ∀ (j : Nat) (y : Int × Int), j < f → E[j]? = some y → ¬ P y) := by
  have la := zt_U_la U
  have lH := zt_src_lP src
  have n120 := zt_src_n120 src
  intro n
  induction n with
  | zero =>
    intro i hi no
    refine ⟨-1, ?_, Or.inl ⟨rfl, fun x hx => ?_⟩⟩
    · rw [qL0_firstTaken_2, zm_e (zl_gR gL la 10), zt_U_he U, zm_e (zl_gI gL lH 12), zt_src_n src, if_neg (by omega)]
    · obtain ⟨j, hj⟩ := List.mem_iff_getElem?.mp hx
      have := zm_lt_of_get hj
      exact no j x (by omega) hj
  | succ n ih =>
    intro i hi no
    obtain ⟨x, hx⟩ : ∃ x, E[i]? = some x := ⟨_, List.getElem?_eq_getElem (by omega)⟩
    obtain ⟨v, ev, iv⟩ := tk x (hok x (List.mem_of_getElem? hx))
    have w1 : zv_w ((i : Int) + 1) = ((i + 1 : Nat) : Int) := by
      rw [zm_w (by omega)]
      rfl
    rw [qL0_firstTaken_2, zm_e (zl_gR gL la 10), zt_U_he U, zm_e (zl_gI gL lH 12), zt_src_n src, if_pos (by omega), zm_e (zl_gR gL la 10), zt_U_he U, zm_e (zt_src_at gL src hx)]
    dsimp only
    rw [zm_e ev]
    dsimp only
    by_cases z : v = 0
    · rw [if_pos z, w1]
      refine ih (i + 1) (by omega) (fun j y hj hy => ?_)
      by_cases e : j = i
      · rw [e, hx] at hy
        cases hy
        exact fun q => iv.mpr q z
      · exact no j y (by omega) hy
    · rw [if_neg z]
      exact ⟨i, rfl, Or.inr ⟨i, x, rfl, hx, iv.mp z, no⟩⟩
theorem zt_takenFrom {d : Nat} (gL : zt_L g) (U : zt_U a c g) {S : Nat} {E : List (Int × Int)} {P : Int × Int → Prop} (src : zt_src (zt_r a (c 0)) E g) (hok : ∀ x ∈ E, zt_ok x) (tk : ∀ x, zt_ok x → ∃ v, C0_takes (d + 3) a S (zt_id x) g = some (v, g) ∧ (v ≠ 0 ↔ P x)) {f : Nat} (hPf : ∃ x, E[f]? = some x ∧ P x) : ∀ (n i m : Nat), i + n = E.length → f + m ≤ i → (i = f ∨ 1 ≤ m) → (∀ (j : Nat) (x : Int × Int), j < i → E[j]? = some x → (P x ↔ f ≤ j ∧ j < f + m)) → ∃ v, L0_takenFrom_9 (d + 3) a S f m i g = some (some (zv_i v), g) ∧ ((v = 0 ∧ ∀ f' m', ¬ zt_blk P E f' m') ∨ ∃ m' : Nat, v = (m' : Int) ∧ zt_blk P E f m') := by
  have la := zt_U_la U
  have lH := zt_src_lP src
  have n120 := zt_src_n120 src
  intro n
  induction n with
  | zero =>
    intro i m hi fm i1 b
    have go : L0_takenFrom_9 (d + 3) a S f m i g = some (some (zv_i m), g) := by
      rw [qL0_takenFrom_9, zm_e (zl_gR gL la 10), zt_U_he U, zm_e (zl_gI gL lH 12), zt_src_n src, if_neg (by omega)]
    refine ⟨m, go, ?_⟩
    by_cases m0 : m = 0
    · refine Or.inl ⟨by omega, fun f' m' => zt_blk_no (fun x hx => ?_) f' m'⟩
      obtain ⟨j, hj⟩ := List.mem_iff_getElem?.mp hx
      have := zm_lt_of_get hj
      rw [b j x (by omega) hj]
      omega
    · refine Or.inr ⟨m, rfl, by omega, by omega, fun j x hx => b j x ?_ hx⟩
      have := zm_lt_of_get hx
      omega
  | succ n ih =>
    intro i m hi fm i1 b
    obtain ⟨x, hx⟩ : ∃ x, E[i]? = some x := ⟨_, List.getElem?_eq_getElem (by omega)⟩
    obtain ⟨v, ev, iv⟩ := tk x (hok x (List.mem_of_getElem? hx))
    have w1 : zv_w ((i : Int) + 1) = ((i + 1 : Nat) : Int) := by
      rw [zm_w (by omega)]
      rfl
    have w2 : zv_w ((m : Int) + 1) = ((m + 1 : Nat) : Int) := by
      rw [zm_w (by omega)]
      rfl
    rw [qL0_takenFrom_9, zm_e (zl_gR gL la 10), zt_U_he U, zm_e (zl_gI gL lH 12), zt_src_n src, if_pos (by omega), zm_e (zl_gR gL la 10), zt_U_he U, zm_e (zt_src_at gL src hx)]
    dsimp only
    rw [zm_e ev]
    dsimp only
    by_cases z : v = 0
    · have np : ¬ P x := fun q => iv.mpr q z
      rw [if_pos z, w1]
      by_cases m1 : 1 ≤ m
      · exact ih (i + 1) m (by omega) (by omega) (Or.inr m1) (fun j y hj hy => by
          by_cases e : j = i
          · rw [e, hx] at hy
            cases hy
            exact ⟨fun q => absurd q np, fun q => by omega⟩
          · exact b j y (by omega) hy)
      · exfalso
        obtain ⟨y, y1, y2⟩ := hPf
        have e : i = f := by rcases i1 with q | q <;> omega
        rw [← e, hx] at y1
        cases y1
        exact np y2
    · have px := iv.mp z
      rw [if_neg z, zm_w (by omega)]
      by_cases e : (i : Int) = (f : Int) + m
      · rw [if_pos e, w1, w2]
        exact ih (i + 1) (m + 1) (by omega) (by omega) (Or.inr (by omega)) (fun j y hj hy => by
          by_cases e2 : j = i
          · rw [e2, hx] at hy
            cases hy
            exact ⟨fun _ => by omega, fun _ => px⟩
          · rw [b j y (by omega) hy]
            omega)
      · rw [if_neg e]
        refine ⟨0, rfl, Or.inl ⟨rfl, ?_⟩⟩
        have m1 : 1 ≤ m := by
          rcases i1 with q | q
          · omega
          · exact q
        have hf := List.getElem?_eq_getElem (show f < E.length by omega)
        have hj := List.getElem?_eq_getElem (show f + m < E.length by omega)
        exact zt_blk_gap hf hj hx (by omega) (by omega) ((b f _ (by omega) hf).mpr ⟨by omega, by omega⟩) (fun q => by have := (b (f + m) _ (by omega) hj).mp q; omega) px
theorem zt_takenNone {d : Nat} (gL : zt_L g) (U : zt_U a c g) {S : Nat} {E : List (Int × Int)} {P : Int × Int → Prop} (src : zt_src (zt_r a (c 0)) E g) (hok : ∀ x ∈ E, zt_ok x) (tk : ∀ x, zt_ok x → ∃ v, C0_takes (d + 3) a S (zt_id x) g = some (v, g) ∧ (v ≠ 0 ↔ P x)) (no : ∀ x ∈ E, ¬ P x) : ∀ (n i : Nat), i + n = E.length → L0_takenFrom_9 (d + 3) a S (-1) 0 i g = some (some (zv_i 0), g) := by
  have la := zt_U_la U
  have lH := zt_src_lP src
  have n120 := zt_src_n120 src
  intro n
  induction n with
  | zero =>
    intro i hi
    rw [qL0_takenFrom_9, zm_e (zl_gR gL la 10), zt_U_he U, zm_e (zl_gI gL lH 12), zt_src_n src, if_neg (by omega)]
  | succ n ih =>
    intro i hi
    obtain ⟨x, hx⟩ : ∃ x, E[i]? = some x := ⟨_, List.getElem?_eq_getElem (by omega)⟩
    have hm := List.mem_of_getElem? hx
    obtain ⟨v, ev, iv⟩ := tk x (hok x hm)
    have w1 : zv_w ((i : Int) + 1) = ((i + 1 : Nat) : Int) := by
      rw [zm_w (by omega)]
      rfl
    have z : v = 0 := Classical.byContradiction (fun q => no x hm (iv.mp q))
    rw [qL0_takenFrom_9, zm_e (zl_gR gL la 10), zt_U_he U, zm_e (zl_gI gL lH 12), zt_src_n src, if_pos (by omega), zm_e (zl_gR gL la 10), zt_U_he U, zm_e (zt_src_at gL src hx)]
    dsimp only
    rw [zm_e ev]
    dsimp only
    rw [if_pos z, w1]
    exact ih (i + 1) (by omega)
end
