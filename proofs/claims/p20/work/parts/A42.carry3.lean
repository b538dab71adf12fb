/-! ===== the tie: carrying, the reference's loops ===== -/
section
variable {c : Nat → Int} {sf : Nat → Int}
theorem zt_ok_47 {p : Int × Int} (h : zt_ok p) : 0 ≤ p.1 ∧ p.1 ≤ 47 := by rcases h with q | q <;> omega
theorem zt_isTaken_1 {h : zv_H} (hM : zm_M h) {d : Nat} {s : Int} {i m : Nat} (im : i < m) (h12 : m ≤ 12) {u w : Int} (o5 : C9_of d 347 s 5 h = some ((m : Int), h)) (ou : C9_of d 347 s (52 + 2 * (i : Int)) h = some (u, h)) (ow : C9_of d 347 s (52 + 2 * (i : Int) + 1) h = some (w, h)) (u0 : 0 ≤ u) (u47 : u ≤ 47) (rf : ∀ i : Nat, i < 48 → zv_I h 362 i = sf i) {r : Nat} (hr : r < 640) {x : Int × Int} (e1 : zv_I h 352 r = x.1) (e2 : zv_I h 353 r = x.2) : L9_isTaken_2 d 347 s r i h = if sf u.toNat = x.1 then (if w = x.2 then (some (some (zv_i 1), h) : zv_O) else L9_isTaken_2 d 347 s r ((i + 1 : Nat) : Int) h) else L9_isTaken_2 d 347 s r ((i + 1 : Nat) : Int) h := by
  have w1 : zv_w (52 + zv_w (2 * (i : Int))) = 52 + 2 * (i : Int) := by
    rw [zm_w (x := 2 * (i : Int)) (by omega), zm_w (by omega)]
  have w2 : zv_w ((i : Int) + 1) = ((i + 1 : Nat) : Int) := by
    rw [zm_w (by omega)]
    rfl
  have w3 : zv_w (52 + 2 * (i : Int) + 1) = 52 + 2 * (i : Int) + 1 := zm_w (by omega)
  have a362 : zv_aI h 362 u = some (sf u.toNat) := by
    rw [zm_aI hM zm_l362 rfl u0 (by omega), rf _ (by omega)]
  have a352 : zv_aI h 352 (r : Int) = some x.1 := by
    rw [zm_aI hM zm_l352 rfl (by omega) (by omega), show ((r : Nat) : Int).toNat = r by omega, e1]
  have a353 : zv_aI h 353 (r : Int) = some x.2 := by
    rw [zm_aI hM zm_l353 rfl (by omega) (by omega), show ((r : Nat) : Int).toNat = r by omega, e2]
  rw [qL9_isTaken_2, zm_e o5]
  dsimp only
  rw [if_pos (by omega), zm_e (zm_f21 hM), w1, zm_e ou]
  dsimp only
  rw [zm_e a362, zm_e (zm_f6 hM), zm_e a352, w3, w2, zm_e ow]
  dsimp only
  rw [zm_e (zm_f7 hM), zm_e a353]
theorem zt_isTaken_l {h : zv_H} (hM : zm_M h) (hc : zv_I h 348 = c) (d : Nat) {s : Int} (hs : zm_st c s) {m : Nat} (hm : zm_o c s 5 = m) (h12 : m ≤ 12) (hok : ∀ p ∈ zm_tk c s, zt_ok p) (rf : ∀ i : Nat, i < 48 → zv_I h 362 i = sf i) {r : Nat} (hr : r < 640) {x : Int × Int} (e1 : zv_I h 352 r = x.1) (e2 : zv_I h 353 r = x.2) : ∀ (n i : Nat), i + n = m → ∃ v : Int, L9_isTaken_2 (d + 1) 347 s r i h = some (some (zv_i v), h) ∧ (v ≠ 0 ↔ ∃ j p, i ≤ j ∧ (zm_tk c s)[j]? = some p ∧ zt_so sf p = x) := by
  subst hc
  have s48 := zm_st48 hs
  have tl : (zm_tk (zv_I h 348) s).length = m := by rw [zm_tk_len, hm]; rfl
  have tm : (zm_o (zv_I h 348) s 5).toNat = m := by rw [hm]; rfl
  have o5 : C9_of (d + 1) 347 s 5 h = some ((m : Int), h) := by rw [zm_of hM d s48 (by decide), hm]
  clear hs hm
  intro n
  induction n with
  | zero =>
    intro i hi
    refine ⟨0, ?_, fun q => absurd rfl q, fun q => ?_⟩
    · rw [qL9_isTaken_2, zm_e o5]
      dsimp only
      rw [if_neg (by omega)]
    · obtain ⟨j, p, j1, j2, _⟩ := q
      have := zm_lt_of_get j2
      omega
  | succ n ih =>
    intro i hi
    obtain ⟨v, ev, iv⟩ := ih (i + 1) (by omega)
    have im : i < m := by omega
    have hp := zm_tk_get (zv_I h 348) s (i := i) (by rw [tm]; exact im)
    have pok := hok _ (List.mem_of_getElem? hp)
    have p47 := zt_ok_47 pok
    have ou := zm_of hM d s48 (w := 52 + 2 * (i : Int)) (by clear p47 pok hp iv ev hi tl tm; omega)
    have ow := zm_of hM d s48 (w := 52 + 2 * (i : Int) + 1) (by clear p47 pok hp iv ev hi tl tm; omega)
    have go := zt_isTaken_1 (sf := sf) hM im h12 o5 ou ow p47.1 p47.2 rf hr e1 e2
    have skip : zt_so sf (zm_o (zv_I h 348) s (52 + 2 * (i : Int)), zm_o (zv_I h 348) s (52 + 2 * (i : Int) + 1)) ≠ x → (v ≠ 0 ↔ ∃ j p, i ≤ j ∧ (zm_tk (zv_I h 348) s)[j]? = some p ∧ zt_so sf p = x) := fun ne => by
      constructor
      · intro q
        obtain ⟨j, p', j1, j2, j3⟩ := iv.mp q
        exact ⟨j, p', Nat.le_of_succ_le j1, j2, j3⟩
      · rintro ⟨j, p', j1, j2, j3⟩
        refine iv.mpr ⟨j, p', ?_, j2, j3⟩
        by_cases z : j = i
        · rw [z, hp] at j2
          cases j2
          exact absurd j3 ne
        · exact Nat.lt_of_le_of_ne j1 (fun q => z q.symm)
    by_cases c1 : sf (zm_o (zv_I h 348) s (52 + 2 * (i : Int))).toNat = x.1
    · by_cases c2 : zm_o (zv_I h 348) s (52 + 2 * (i : Int) + 1) = x.2
      · refine ⟨1, go.trans (by rw [if_pos c1, if_pos c2]), fun _ => ⟨i, _, Nat.le_refl _, hp, Prod.ext c1 c2⟩, fun _ => by decide⟩
      · exact ⟨v, go.trans (by rw [if_pos c1, if_neg c2]; exact ev), skip (fun q => c2 (congrArg Prod.snd q))⟩
    · exact ⟨v, go.trans (by rw [if_neg c1]; exact ev), skip (fun q => c1 (congrArg Prod.fst q))⟩
theorem zt_isTaken {h : zv_H} (hM : zm_M h) (hc : zv_I h 348 = c) (W : zm_W c) (d : Nat) {s : Int} (hs : zm_st c s) (hk : zm_o c s 2 = 1) (hok : ∀ p ∈ zm_tk c s, zt_ok p) (rf : ∀ i : Nat, i < 48 → zv_I h 362 i = sf i) {r : Nat} (hr : r < 640) {x : Int × Int} (e1 : zv_I h 352 r = x.1) (e2 : zv_I h 353 r = x.2) : ∃ v : Int, C9_isTaken (d + 2) 347 s r h = some (v, h) ∧ (v ≠ 0 ↔ zt_tP c sf s x) := by
  have hm0 := zm_ed_m W.1 hs (Or.inr hk)
  obtain ⟨v, ev, iv⟩ := zt_isTaken_l hM hc d hs (m := (zm_o c s 5).toNat) (by omega) (by omega) hok rf hr e1 e2 _ 0 (Nat.zero_add _)
  refine ⟨v, lC9_isTaken (zm_ob hM) ?_, ?_⟩
  · rw [qE9_isTaken]
    exact ev
  · rw [iv]
    unfold zt_tP
    constructor
    · rintro ⟨j, p, _, j2, j3⟩
      exact ⟨p, List.mem_of_getElem? j2, j3⟩
    · rintro ⟨p, hp, e⟩
      obtain ⟨j, hj⟩ := List.mem_iff_getElem?.mp hp
      exact ⟨j, p, Nat.zero_le _, hj, e⟩
end
