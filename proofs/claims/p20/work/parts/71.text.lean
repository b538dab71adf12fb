/-! ===== texts ===== -/
theorem zm_tV {r : Nat} (hr : 1000000 ≤ r ∧ r < 1000024) : zv_tV r = some (r + 100) := if_pos hr
theorem zm_tC {r : Nat} (hr : 1000000 ≤ r ∧ r < 1000024) : zv_tC r = some 0 := if_pos hr
def zm_tx (r : Nat) : List Int := zv_txt.getD (r - 1000000) []
theorem zm_tx_all : (zv_txt.all fun l => Nat.ble l.length 12 && l.all fun x => decide (0 ≤ x ∧ x ≤ 127)) = true := by decide +kernel
theorem zm_tx_l {r : Nat} : (zm_tx r).length ≤ 12 ∧ ∀ x ∈ zm_tx r, 0 ≤ x ∧ x ≤ 127 := by
  unfold zm_tx
  rw [List.getD_eq_getElem?_getD]
  cases e : zv_txt[r - 1000000]? with
  | none => exact ⟨by decide, fun x hx => by cases hx⟩
  | some l =>
    have h1 := List.all_eq_true.mp zm_tx_all l (List.mem_of_getElem? e)
    rw [Bool.and_eq_true] at h1
    exact ⟨Nat.ble_eq.mp h1.1, fun x hx => of_decide_eq_true (List.all_eq_true.mp h1.2 x hx)⟩
theorem zm_tal {r : Nat} (h : zv_H) (hr : 1000000 ≤ r ∧ r < 1000024) : zv_al h (r + 100) = some ((zm_tx r).length : Int) := by
  unfold zv_al zm_tx
  rw [if_neg (by omega), if_pos (by omega), show r + 100 - 1000100 = r - 1000000 by omega]
theorem zm_taB {r : Nat} (h : zv_H) (hr : 1000000 ≤ r ∧ r < 1000024) {i : Int} (h0 : 0 ≤ i) (h1 : i < (zm_tx r).length) : zv_aB h (r + 100) i = some ((zm_tx r).getD i.toNat 0) := by
  have e : r + 100 - 1000100 = r - 1000000 := by omega
  unfold zm_tx at h1 ⊢
  unfold zv_aB
  rw [if_pos (by omega), e, if_pos ⟨h0, h1⟩]
theorem zm_coder {r : Nat} (h : zv_H) (d : Nat) (hr : 1000000 ≤ r ∧ r < 1000024) : C13_coder (d + 1) r h = some (0, h) := by
  refine lC13_coder hr ?_
  rw [qE13_coder, zm_e (zm_tC hr), if_pos (by decide)]
theorem zm_isLatin1 {r : Nat} (h : zv_H) (d : Nat) (hr : 1000000 ≤ r ∧ r < 1000024) : C13_isLatin1 (d + 1) r h = some (1, h) := by
  refine lC13_isLatin1 hr ?_
  rw [qE13_isLatin1, zm_e (zm_tC hr), if_pos rfl]
theorem zm_shr0 : ∀ n : Nat, n ≤ 12 → zv_shr (n : Int) 0 = n := by decide +kernel
theorem zm_slen {r : Nat} (h : zv_H) (d : Nat) (hr : 1000000 ≤ r ∧ r < 1000024) : C13_length (d + 2) r h = some (((zm_tx r).length : Int), h) := by
  refine lC13_length hr ?_
  rw [qE13_length, zm_e (zm_tV hr), zm_e (zm_tal h hr), zm_e (zm_coder h d hr)]
  dsimp only
  rw [zm_shr0 _ zm_tx_l.1]
theorem zm_i2c_b : ∀ n : Nat, n ≤ 127 → zv_i2c (zv_and (n : Int) 255) = n := by decide +kernel
theorem zm_ldd {l : List Int} (hl : ∀ x ∈ l, 0 ≤ x ∧ x ≤ 127) {i : Nat} (h : i < l.length) : ∃ n : Nat, n ≤ 127 ∧ l.getD i 0 = n := by
  have hx : 0 ≤ l.getD i 0 ∧ l.getD i 0 ≤ 127 := by
    rw [List.getD_eq_getElem?_getD, List.getElem?_eq_getElem h]
    exact hl _ (List.getElem_mem h)
  generalize l.getD i 0 = v at hx
  exact ⟨v.toNat, by omega, by omega⟩
theorem zm_txd {r : Nat} {i : Nat} (h : i < (zm_tx r).length) : ∃ n : Nat, n ≤ 127 ∧ (zm_tx r).getD i 0 = n := zm_ldd zm_tx_l.2 h
theorem zm_c64 (h : zv_H) {n : Nat} (hn : n ≤ 127) : (if 0 ≤ zv_i2c (zv_and (n : Int) 255) ∧ zv_i2c (zv_and (n : Int) 255) ≤ 65535 then (some (some (zv_i (zv_i2c (zv_and (n : Int) 255))), h) : zv_O) else none) = some (some (zv_i n), h) := by
  have e := zm_i2c_b n hn
  generalize zv_i2c (zv_and (n : Int) 255) = x at e
  rw [e]
  exact if_pos ⟨Int.natCast_nonneg n, by omega⟩
theorem zm_charAt14 {r : Nat} (h : zv_H) (d : Nat) (hr : 1000000 ≤ r ∧ r < 1000024) {i : Int} (h0 : 0 ≤ i) (h1 : i < (zm_tx r).length) : C14_charAt (d + 2) (r + 100) i h = some ((zm_tx r).getD i.toNat 0, h) := by
  obtain ⟨n, hn, en⟩ := zm_txd (r := r) (i := i.toNat) (by omega)
  refine lC14_charAt ?_
  rw [qE14_charAt, zm_e (zm_tal h hr), zm_e (lCJ_chk _ _ _ _ ⟨h0, h1⟩), zm_e (zm_taB h hr h0 h1), en]
  exact zm_c64 h hn
theorem zm_charAt {r : Nat} (h : zv_H) (d : Nat) (hr : 1000000 ≤ r ∧ r < 1000024) {i : Int} (h0 : 0 ≤ i) (h1 : i < (zm_tx r).length) : C13_charAt (d + 3) r i h = some ((zm_tx r).getD i.toNat 0, h) := by
  obtain ⟨n, hn, en⟩ := zm_txd (r := r) (i := i.toNat) (by omega)
  refine lC13_charAt hr ?_
  rw [qE13_charAt, zm_e (zm_isLatin1 h _ hr)]
  dsimp only
  rw [if_neg (by decide), zm_e (zm_tV hr), zm_e (zm_charAt14 h d hr h0 h1)]
  dsimp only
  rw [en]
  exact if_pos ⟨Int.natCast_nonneg n, by omega⟩
theorem zm_iox {r : Nat} (h : zv_H) (d : Nat) (hr : 1000000 ≤ r ∧ r < 1000024) {m : Nat} (hm : m ≤ (zm_tx r).length) (v : Int) : ∀ n i : Nat, i + n = m → ∃ u : Int, L14_indexOfChar_7 d (r + 100) m v i h = some (some (zv_i u), h)
  | 0, i, hi => ⟨-1, by rw [qL14_indexOfChar_7, if_neg (by omega)]⟩
  | n + 1, i, hi => by
    have h2 := (zm_tx_l (r := r)).1
    rw [qL14_indexOfChar_7, if_pos (by omega), zm_e (zm_taB h hr (by omega) (by omega))]
    by_cases c1 : (zm_tx r).getD ((i : Int)).toNat 0 = v
    · rw [if_pos c1]
      exact ⟨_, rfl⟩
    · rw [if_neg c1, zm_w (by omega)]
      exact zm_iox h d hr hm v n (i + 1) (by omega)
theorem zm_indexOf {r : Nat} (h : zv_H) (d : Nat) (hr : 1000000 ≤ r ∧ r < 1000024) (ch : Int) : ∃ u : Int, C13_indexOf (d + 4) r ch h = some (u, h) := by
  have h2 := (zm_tx_l (r := r)).1
  have e1 : ∃ u : Int, C14_indexOf (d + 2) (r + 100) ch 0 ((zm_tx r).length : Int) h = some (u, h) := by
    have main : ∃ u : Int, E14_indexOf (d + 1) (r + 100) ch 0 ((zm_tx r).length : Int) h = some (some (zv_i u), h) := by
      have can : ∃ b : Int, C14_canEncode (d + 1) ch h = some (b, h) := by
        have main : ∃ b : Int, E14_canEncode d ch h = some (some (zv_i b), h) := by
          rw [qE14_canEncode]
          by_cases c1 : ch < 0
          · rw [if_pos c1]
            exact ⟨_, rfl⟩
          · rw [if_neg c1]
            by_cases c2 : ch ≤ 255
            · rw [if_pos c2]
              exact ⟨_, rfl⟩
            · rw [if_neg c2]
              exact ⟨_, rfl⟩
        obtain ⟨b, e⟩ := main
        exact ⟨b, lC14_canEncode e⟩
      obtain ⟨b, eb⟩ := can
      rw [qE14_indexOf, zm_e eb]
      dsimp only
      by_cases c1 : b = 0
      · rw [if_pos c1]
        exact ⟨_, rfl⟩
      · rw [if_neg c1, zm_e (zm_tal h hr), Int.max_self, Int.min_self]
        by_cases c2 : (0 : Int) < (zm_tx r).length
        · obtain ⟨u, eu⟩ := zm_iox h d hr (m := (zm_tx r).length) (Nat.le_refl _) (zv_i2b ch) (zm_tx r).length 0 (Nat.zero_add _)
          have e3 : C14_indexOfChar (d + 1) (r + 100) ch 0 ((zm_tx r).length : Int) h = some (u, h) := by
            refine lC14_indexOfChar ?_
            rw [qE14_indexOfChar]
            exact eu
          rw [if_pos c2, zm_e e3]
          exact ⟨_, rfl⟩
        · rw [if_neg c2]
          exact ⟨_, rfl⟩
    obtain ⟨u, e⟩ := main
    exact ⟨u, lC14_indexOf e⟩
  obtain ⟨u, eu⟩ := e1
  refine ⟨u, lC13_indexOf hr ?_⟩
  have e2 : C13_indexOf2 (d + 3) r ch 0 h = some (u, h) := by
    refine lC13_indexOf2 hr ?_
    rw [qE13_indexOf2, zm_e (zm_isLatin1 h _ hr)]
    dsimp only
    rw [if_neg (by decide), zm_e (zm_tV hr), zm_e (zm_slen h d hr)]
    dsimp only
    rw [zm_e eu]
  rw [qE13_indexOf, zm_e e2]
