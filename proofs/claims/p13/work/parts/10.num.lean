/-! 10.num -/
section
/-! numbers of the small machine against the machine's -/
theorem zv_rg_toInt (x : Int32) : zv_rg x.toInt := ⟨by have := x.le_toInt; omega, by have := x.toInt_lt; omega⟩
theorem zv_rg_w (x : Int) : zv_rg (zv_w x) := by unfold zv_rg zv_w; omega
theorem zv_w_eq (x : Int) : zv_w x = (Int32.ofInt x).toInt := by
  rw [Int32.toInt_ofInt]
  unfold zv_w
  rw [show (Int32.size : Nat) = 4294967296 from rfl, Int.bmod_def]
  split <;> omega
theorem zv_of_w (x : Int) : Int32.ofInt (zv_w x) = Int32.ofInt x := by rw [zv_w_eq, Int32.ofInt_toInt]
theorem zv_toInt {x : Int} (h : zv_rg x) : (Int32.ofInt x).toInt = x := Int32.toInt_ofInt_of_le (by have := h.1; omega) (by have := h.2; omega)
theorem zv_w_id {x : Int} (h : zv_rg x) : zv_w x = x := by unfold zv_rg at h; unfold zv_w; omega
theorem zv_inj {x y : Int} (hx : zv_rg x) (hy : zv_rg y) : Int32.ofInt x = Int32.ofInt y ↔ x = y := by
  rw [← Int32.toInt_inj, zv_toInt hx, zv_toInt hy]
theorem zv_lt {x y : Int} (hx : zv_rg x) (hy : zv_rg y) : Int32.ofInt x < Int32.ofInt y ↔ x < y := by
  rw [Int32.lt_iff_toInt_lt, zv_toInt hx, zv_toInt hy]
theorem zv_le {x y : Int} (hx : zv_rg x) (hy : zv_rg y) : Int32.ofInt x ≤ Int32.ofInt y ↔ x ≤ y := by
  rw [Int32.le_iff_toInt_le, zv_toInt hx, zv_toInt hy]
theorem zv_rg0 : zv_rg 0 := by unfold zv_rg; omega
theorem zv_eq0 {x : Int} (hx : zv_rg x) : Int32.ofInt x = 0 ↔ x = 0 := by
  rw [show (0 : Int32) = Int32.ofInt 0 from rfl]; exact zv_inj hx zv_rg0
theorem zv_lt0 {x : Int} (hx : zv_rg x) : Int32.ofInt x < 0 ↔ x < 0 := by
  rw [show (0 : Int32) = Int32.ofInt 0 from rfl]; exact zv_lt hx zv_rg0
theorem zv_le0 {x : Int} (hx : zv_rg x) : Int32.ofInt x ≤ 0 ↔ x ≤ 0 := by
  rw [show (0 : Int32) = Int32.ofInt 0 from rfl]; exact zv_le hx zv_rg0
theorem zv_ge0 {x : Int} (hx : zv_rg x) : 0 ≤ Int32.ofInt x ↔ 0 ≤ x := by
  rw [show (0 : Int32) = Int32.ofInt 0 from rfl]; exact zv_le zv_rg0 hx
theorem zv_gt0 {x : Int} (hx : zv_rg x) : 0 < Int32.ofInt x ↔ 0 < x := by
  rw [show (0 : Int32) = Int32.ofInt 0 from rfl]; exact zv_lt zv_rg0 hx
theorem zv_add (x y : Int) : Int32.ofInt x + Int32.ofInt y = Int32.ofInt (zv_w (x + y)) := by rw [zv_of_w, Int32.ofInt_add]
theorem zv_sub (x y : Int) : Int32.ofInt x - Int32.ofInt y = Int32.ofInt (zv_w (x - y)) := by rw [zv_of_w, Int32.ofInt_sub]
theorem zv_mul (x y : Int) : Int32.ofInt x * Int32.ofInt y = Int32.ofInt (zv_w (x * y)) := by rw [zv_of_w, Int32.ofInt_mul]
theorem zv_neg (x : Int) : -Int32.ofInt x = Int32.ofInt (zv_w (-x)) := by rw [zv_of_w, Int32.ofInt_neg]
theorem zv_div {x y : Int} (hx : zv_rg x) (hy : zv_rg y) : Int32.ofInt x / Int32.ofInt y = Int32.ofInt (zv_w (x.tdiv y)) := by
  rw [zv_of_w]
  apply Int32.toInt_inj.mp
  rw [Int32.toInt_div, zv_toInt hx, zv_toInt hy, Int32.toInt_ofInt]
theorem zv_tmod_le {x : Int} (h : 0 ≤ x) (y : Int) : x.tmod y ≤ x := by
  obtain ⟨n, rfl⟩ := Int.eq_ofNat_of_zero_le h
  rw [Int.tmod_eq_emod_of_nonneg h]
  rcases Int.natAbs_eq y with e | e
  · rw [e]
    exact Int.ofNat_le.mpr (Nat.mod_le n y.natAbs)
  · rw [e, Int.emod_neg]
    exact Int.ofNat_le.mpr (Nat.mod_le n y.natAbs)
theorem zv_rg_tmod {x y : Int} (hx : zv_rg x) : zv_rg (x.tmod y) := by
  unfold zv_rg at *
  rcases Int.le_total 0 x with h | h
  · have h1 := Int.tmod_nonneg y h
    have h2 := zv_tmod_le h y
    omega
  · have h1 := zv_tmod_le (show 0 ≤ -x by omega) y
    have h2 := Int.tmod_nonneg y (show 0 ≤ -x by omega)
    rw [Int.neg_tmod] at h1 h2
    omega
theorem zv_rem {x y : Int} (hx : zv_rg x) (hy : zv_rg y) : Int32.ofInt x - Int32.ofInt x / Int32.ofInt y * Int32.ofInt y = Int32.ofInt (x.tmod y) := by
  apply Int32.toInt_inj.mp
  rw [rem_toInt, zv_toInt hx, zv_toInt hy, zv_toInt (zv_rg_tmod hx)]
theorem zv_byte {n : Int} (h1 : -128 ≤ n) (h2 : n ≤ 127) : (Int8.ofInt n).toInt32 = Int32.ofInt n := Int8.toInt32_ofInt h1 h2
theorem zv_short {n : Int} (h1 : -32768 ≤ n) (h2 : n ≤ 32767) : (Int16.ofInt n).toInt32 = Int32.ofInt n := Int16.toInt32_ofInt h1 h2
theorem zv_ofto (x : Int32) : Int32.ofInt x.toInt = x := Int32.ofInt_toInt x
theorem zv_lcmp_eq (x y : Int64) : lg_cmp x y = Int32.ofInt (zv_lcmp x y) := by
  unfold lg_cmp zv_lcmp
  by_cases h : x = y
  · subst h
    rw [if_neg (fun q => Int64.lt_irrefl q), if_pos rfl, if_pos rfl]
    rfl
  · rw [if_neg h, if_neg h]
    by_cases h2 : y < x
    · rw [if_pos h2, if_pos h2]; rfl
    · rw [if_neg h2, if_neg h2]; rfl
theorem zv_rg_lcmp (x y : Int64) : zv_rg (zv_lcmp x y) := by
  unfold zv_lcmp zv_rg
  split
  · omega
  · split <;> omega
theorem zv_clamp {x : Int} (hx : zv_rg x) (h : 0 ≤ x) : (Int32.ofInt x).toNatClampNeg = x.toNat := by
  show (Int32.ofInt x).toInt.toNat = _
  rw [zv_toInt hx]
theorem zv_in {x : Int} {n : Nat} (hx : zv_rg x) (h0 : 0 ≤ x) (hn : x < n) : vp_in (Int32.ofInt x) n := by
  unfold vp_in
  rw [zv_lt0 hx, zv_clamp hx h0]
  omega
theorem zv_rg_i2b (x : Int) : zv_rg (zv_i2b x) := zv_rg_toInt _
theorem zv_rg_nz (x : Int) : zv_rg (zv_nz x) := by unfold zv_rg zv_nz; omega
theorem zv_nar_b (x : Int) : vp_nar .byte (Int32.ofInt x) = Int32.ofInt (zv_i2b x) := by
  unfold zv_i2b
  rw [zv_ofto, vp_nar_byte]
end
/-! 11.rel -/
section
/-! how the small machine's values, locals and cells stand for the machine's -/
def zv_ad (ba : Nat) (ak : Nat → Nat) (r : Nat) : Option Nat := if r = 0 then none else some (if r < 1000000 then ba + r else ak r)
def zv_cv (ba : Nat) (ak : Nat → Nat) (v : zv_V) : Value := match v with
  | Sum.inl x => .int (Int32.ofInt x)
  | Sum.inr (Sum.inl x) => .long x
  | Sum.inr (Sum.inr r) => va_rf (zv_ad ba ak r)
def zv_vg (v : zv_V) : Prop := match v with
  | Sum.inl x => zv_rg x
  | _ => True
def zv_RL (ba : Nat) (ak : Nat → Nat) (lsR : Array Slot) (ls : zv_Ls) : Prop := lsR.size = ls.length ∧ lv_wf lsR ∧ ∀ i v, zv_ld ls i = some v → lsR[i]? = some (.val (zv_cv ba ak v)) ∧ zv_vg v
theorem zv_st_len : ∀ (l : zv_Ls) (n : Nat) (v : Option zv_V), (zv_st l n v).length = l.length
  | [], _, _ => rfl
  | _ :: _, 0, _ => rfl
  | _ :: l, n + 1, v => congrArg (· + 1) (zv_st_len l n v)
theorem zv_ld_st : ∀ (l : zv_Ls) (n : Nat) (v : Option zv_V) (k : Nat), zv_ld (zv_st l n v) k = if k = n ∧ n < l.length then v else zv_ld l k
  | [], n, v, k => by simp [zv_st, zv_ld]
  | a :: l, 0, v, 0 => by simp [zv_st, zv_ld]
  | a :: l, 0, v, k + 1 => by simp [zv_st, zv_ld]
  | a :: l, n + 1, v, 0 => by simp [zv_st, zv_ld]
  | a :: l, n + 1, v, k + 1 => by
    rw [zv_st, zv_ld, zv_ld_st l n v k, zv_ld]
    simp
theorem zv_ld_lt : ∀ (l : zv_Ls) (n : Nat) (v : zv_V), zv_ld l n = some v → n < l.length
  | [], n, v, h => by simp [zv_ld] at h
  | a :: l, 0, v, h => by simp
  | a :: l, n + 1, v, h => by
    have := zv_ld_lt l n v h
    simp
    omega
theorem zv_cr_len (l : zv_Ls) (n : Nat) : (zv_cr l n).length = l.length := by
  unfold zv_cr
  cases n with
  | zero => rfl
  | succ k =>
    dsimp only
    split
    · exact zv_st_len _ _ _
    · rfl
theorem zv_ld_cr {l : zv_Ls} {n k : Nat} {w : zv_V} (h : zv_ld (zv_cr l n) k = some w) : zv_ld l k = some w ∧ ¬ (k + 1 = n ∧ zv_two (some w) = true) := by
  unfold zv_cr at h
  cases n with
  | zero => exact ⟨h, by omega⟩
  | succ n =>
    dsimp only at h
    split at h
    · rename_i ht
      rw [zv_ld_st] at h
      split at h
      · cases h
      · rename_i hn
        refine ⟨h, fun q => ?_⟩
        have hkn : k = n := by omega
        subst hkn
        exact hn ⟨rfl, zv_ld_lt _ _ _ h⟩
    · rename_i ht
      refine ⟨h, fun q => ?_⟩
      have hkn : k = n := by omega
      subst hkn
      rw [h] at ht
      exact ht q.2
theorem zv_s1_len (l : zv_Ls) (n : Nat) (v : zv_V) : (zv_s1 l n v).length = l.length := by
  unfold zv_s1
  rw [zv_st_len, zv_cr_len]
theorem zv_s2_len (l : zv_Ls) (n : Nat) (v : Int64) : (zv_s2 l n v).length = l.length := by
  unfold zv_s2
  rw [zv_st_len, zv_st_len, zv_cr_len]
theorem zv_ld_s1 {l : zv_Ls} {n k : Nat} {v w : zv_V} (h : zv_ld (zv_s1 l n v) k = some w) : (k = n ∧ w = v) ∨ (¬ k = n ∧ zv_ld l k = some w ∧ ¬ (k + 1 = n ∧ zv_two (some w) = true)) := by
  have hl := zv_ld_lt _ _ _ h
  rw [zv_s1_len] at hl
  unfold zv_s1 at h
  rw [zv_ld_st, zv_cr_len] at h
  split at h
  · rename_i q
    exact Or.inl ⟨q.1, (Option.some.inj h).symm⟩
  · rename_i q
    have hkn : ¬ k = n := fun e => q ⟨e, by omega⟩
    exact Or.inr ⟨hkn, zv_ld_cr h⟩
theorem zv_ld_s2 {l : zv_Ls} {n k : Nat} {v : Int64} {w : zv_V} (h : zv_ld (zv_s2 l n v) k = some w) : (k = n ∧ w = zv_j v) ∨ (¬ k = n ∧ ¬ k = n + 1 ∧ zv_ld l k = some w ∧ ¬ (k + 1 = n ∧ zv_two (some w) = true)) := by
  have hl := zv_ld_lt _ _ _ h
  rw [zv_s2_len] at hl
  unfold zv_s2 at h
  rw [zv_ld_st, zv_st_len, zv_cr_len] at h
  split at h
  · cases h
  · rename_i q0
    have hk1 : ¬ k = n + 1 := fun e => q0 ⟨e, by omega⟩
    rw [zv_ld_st, zv_cr_len] at h
    split at h
    · rename_i q
      exact Or.inl ⟨q.1, (Option.some.inj h).symm⟩
    · rename_i q
      have hkn : ¬ k = n := fun e => q ⟨e, by omega⟩
      exact Or.inr ⟨hkn, hk1, zv_ld_cr h⟩
/-- the locals as a list of places and values -/
def zv_lst (ba : Nat) (ak : Nat → Nat) : Nat → zv_Ls → List (Nat × Value)
  | _, [] => []
  | k, none :: t => zv_lst ba ak (k + 1) t
  | k, some v :: t => (k, zv_cv ba ak v) :: zv_lst ba ak (k + 1) t
theorem zv_lst_of (ba : Nat) (ak : Nat → Nat) : ∀ (ls : zv_Ls) (k i : Nat) (v : zv_V), zv_ld ls i = some v → (k + i, zv_cv ba ak v) ∈ zv_lst ba ak k ls
  | [], k, i, v, h => by simp [zv_ld] at h
  | none :: t, k, 0, v, h => by simp [zv_ld] at h
  | some w :: t, k, 0, v, h => by
    simp only [zv_ld, Option.some.injEq] at h
    subst h
    exact List.mem_cons_self
  | none :: t, k, i + 1, v, h => by
    have := zv_lst_of ba ak t (k + 1) i v h
    rw [show k + (i + 1) = k + 1 + i by omega]
    exact this
  | some w :: t, k, i + 1, v, h => by
    have := zv_lst_of ba ak t (k + 1) i v h
    rw [show k + (i + 1) = k + 1 + i by omega]
    exact List.mem_cons_of_mem _ this
theorem zv_lst_to (ba : Nat) (ak : Nat → Nat) : ∀ (ls : zv_Ls) (k : Nat) (q : Nat × Value), q ∈ zv_lst ba ak k ls → ∃ i v, q = (k + i, zv_cv ba ak v) ∧ zv_ld ls i = some v
  | [], k, q, h => by cases h
  | none :: t, k, q, h => by
    obtain ⟨i, v, h1, h2⟩ := zv_lst_to ba ak t (k + 1) q h
    exact ⟨i + 1, v, by rw [h1]; congr 1; omega, h2⟩
  | some w :: t, k, q, h => by
    rcases List.mem_cons.mp h with h | h
    · exact ⟨0, w, h, rfl⟩
    · obtain ⟨i, v, h1, h2⟩ := zv_lst_to ba ak t (k + 1) q h
      exact ⟨i + 1, v, by rw [h1]; congr 1; omega, h2⟩
theorem zv_RL.has {ba : Nat} {ak : Nat → Nat} {lsR : Array Slot} {ls : zv_Ls} (h : zv_RL ba ak lsR ls) : lv_has lsR ls.length (zv_lst ba ak 0 ls) := by
  refine ⟨h.1, h.2.1, fun q hq => ?_⟩
  obtain ⟨i, v, rfl, h2⟩ := zv_lst_to ba ak ls 0 q hq
  rw [Nat.zero_add]
  exact (h.2.2 i v h2).1
theorem zv_cat (ba : Nat) (ak : Nat → Nat) (w : zv_V) : (zv_cv ba ak w).category = 2 ↔ zv_two (some w) = true := by
  rcases w with x | x | r
  · simp [zv_cv, zv_two, Value.category]
  · simp [zv_cv, zv_two, Value.category]
  · simp only [zv_cv, zv_two]
    unfold va_rf
    split <;> simp [Value.category]
theorem zv_RL.s1 {ba : Nat} {ak : Nat → Nat} {lsR lsR' : Array Slot} {ls : zv_Ls} {i : Nat} {v : zv_V} (h : zv_RL ba ak lsR ls) (hv : zv_vg v) (h' : lv_has lsR' ls.length ((i, zv_cv ba ak v) :: (zv_lst ba ak 0 ls).filter (fun q => !(q.1 == i) && !(q.1 + 1 == i && q.2.category == 2)))) : zv_RL ba ak lsR' (zv_s1 ls i v) := by
  refine ⟨by rw [h'.1, zv_s1_len], h'.2.1, fun k w hk => ?_⟩
  rcases zv_ld_s1 hk with ⟨rfl, rfl⟩ | ⟨h1, h2, h3⟩
  · exact ⟨h'.2.2 (k, _) List.mem_cons_self, hv⟩
  · refine ⟨h'.2.2 (k, zv_cv ba ak w) (List.mem_cons_of_mem _ (List.mem_filter.mpr ⟨?_, ?_⟩)), (h.2.2 k w h2).2⟩
    · have := zv_lst_of ba ak ls 0 k w h2
      rwa [Nat.zero_add] at this
    · have h4 : ¬ (k + 1 = i ∧ (zv_cv ba ak w).category = 2) := fun q => h3 ⟨q.1, (zv_cat ba ak w).mp q.2⟩
      simp only [Bool.and_eq_true, Bool.not_eq_true', beq_eq_false_iff_ne, ne_eq, Bool.and_eq_false_iff]
      refine ⟨h1, ?_⟩
      by_cases q : k + 1 = i
      · exact Or.inr fun z => h4 ⟨q, z⟩
      · exact Or.inl q
theorem zv_RL.s2 {ba : Nat} {ak : Nat → Nat} {lsR lsR' : Array Slot} {ls : zv_Ls} {i : Nat} {v : Int64} (h : zv_RL ba ak lsR ls) (h' : lv_has lsR' ls.length ((i, Value.long v) :: (zv_lst ba ak 0 ls).filter (fun q => !(q.1 == i) && (!(q.1 == i + 1) && !(q.1 + 1 == i && q.2.category == 2))))) : zv_RL ba ak lsR' (zv_s2 ls i v) := by
  refine ⟨by rw [h'.1, zv_s2_len], h'.2.1, fun k w hk => ?_⟩
  rcases zv_ld_s2 hk with ⟨rfl, rfl⟩ | ⟨h1, h0, h2, h3⟩
  · exact ⟨h'.2.2 (k, _) List.mem_cons_self, trivial⟩
  · refine ⟨h'.2.2 (k, zv_cv ba ak w) (List.mem_cons_of_mem _ (List.mem_filter.mpr ⟨?_, ?_⟩)), (h.2.2 k w h2).2⟩
    · have := zv_lst_of ba ak ls 0 k w h2
      rwa [Nat.zero_add] at this
    · have h4 : ¬ (k + 1 = i ∧ (zv_cv ba ak w).category = 2) := fun q => h3 ⟨q.1, (zv_cat ba ak w).mp q.2⟩
      simp only [Bool.and_eq_true, Bool.not_eq_true', beq_eq_false_iff_ne, ne_eq, Bool.and_eq_false_iff]
      refine ⟨h1, h0, ?_⟩
      by_cases q : k + 1 = i
      · exact Or.inr fun z => h4 ⟨q, z⟩
      · exact Or.inl q
theorem zv_msk_ld : ∀ (b : List Bool) (l : zv_Ls) (k : Nat) (w : zv_V), zv_ld (zv_msk b l) k = some w → zv_ld l k = some w
  | [], l, k, w, h => by
    cases l <;> exact h
  | true :: b, [], k, w, h => h
  | false :: b, [], k, w, h => h
  | true :: b, a :: l, 0, w, h => h
  | false :: b, a :: l, 0, w, h => by simp [zv_msk, zv_ld] at h
  | true :: b, a :: l, k + 1, w, h => zv_msk_ld b l k w h
  | false :: b, a :: l, k + 1, w, h => zv_msk_ld b l k w h
theorem zv_msk_len : ∀ (b : List Bool) (l : zv_Ls), (zv_msk b l).length = l.length
  | [], l => by cases l <;> rfl
  | true :: b, [] => rfl
  | false :: b, [] => rfl
  | true :: b, a :: l => congrArg (· + 1) (zv_msk_len b l)
  | false :: b, a :: l => congrArg (· + 1) (zv_msk_len b l)
theorem zv_RL.msk {ba : Nat} {ak : Nat → Nat} {lsR : Array Slot} {ls : zv_Ls} (h : zv_RL ba ak lsR ls) (b : List Bool) : zv_RL ba ak lsR (zv_msk b ls) :=
  ⟨by rw [h.1, zv_msk_len], h.2.1, fun k w hk => h.2.2 k w (zv_msk_ld b ls k w hk)⟩
end
/-! 12.op -/
section
/-! the instructions on locals and stack alone -/
section ZOP
variable {p : Program} {l : Launch} {e : Env} {R : Room} {s : State} {m : MethodId} {args : Array Value} {below : List Frame} {meth : Method} {c : Code} {H : Heap} {locs : List Loc} {cells slots : Nat} {Q : State → Prop}
variable {cc : ByteArray} {pc : Nat} {ba : Nat} {ak : Nat → Nat}
theorem zv_ad_cases (ba : Nat) (ak : Nat → Nat) (r : Nat) : (r = 0 ∧ va_rf (zv_ad ba ak r) = .null) ∨ ∃ a, va_rf (zv_ad ba ak r) = .ref a := by
  unfold zv_ad
  by_cases h : r = 0
  · exact Or.inl ⟨h, by rw [if_pos h]; rfl⟩
  · exact Or.inr ⟨_, by rw [if_neg h]; rfl⟩
theorem zv_cat1 (ba : Nat) (ak : Nat → Nat) (r : Nat) : (va_rf (zv_ad ba ak r)).category = 1 := by
  rcases zv_ad_cases ba ak r with ⟨-, h⟩ | ⟨a, h⟩ <;> rw [h] <;> rfl
/-- loading a reference -/
theorem zv_aload_n (hx : p.tables.exec = Jvm.exec) (hb : c.code = cc) {k : Fin 4} {r : Nat} {ls : Array Slot} {rest : List Value} (hdg : decode cc pc = .ok (.aload_n k, 1)) (hl : ls[k.val]? = some (.val (va_rf (zv_ad ba ak r))))
    (kk : W p l e R s m args below meth c H locs cells slots Q (F0 m (pc + 1) ls (va_rf (zv_ad ba ak r) :: rest))) : W p l e R s m args below meth c H locs cells slots Q (F0 m pc ls rest) := by
  rcases zv_ad_cases ba ak r with ⟨-, h⟩ | ⟨a, h⟩
  · rw [h] at hl kk
    exact lv_aload_nN hx hb hdg rfl hl kk
  · rw [h] at hl kk
    exact lv_aload_n hx hb hdg rfl hl kk
theorem zv_aload (hx : p.tables.exec = Jvm.exec) (hb : c.code = cc) {k : Nat} {r : Nat} {ls : Array Slot} {rest : List Value} (hdg : decode cc pc = .ok (.aload k, 2)) (hl : ls[k]? = some (.val (va_rf (zv_ad ba ak r))))
    (kk : W p l e R s m args below meth c H locs cells slots Q (F0 m (pc + 2) ls (va_rf (zv_ad ba ak r) :: rest))) : W p l e R s m args below meth c H locs cells slots Q (F0 m pc ls rest) := by
  rcases zv_ad_cases ba ak r with ⟨-, h⟩ | ⟨a, h⟩
  · rw [h] at hl kk
    exact lv_aloadN hx hb hdg hl kk
  · rw [h] at hl kk
    exact lv_aload hx hb hdg hl kk
theorem zv_astore_n (hx : p.tables.exec = Jvm.exec) (hb : c.code = cc) {k : Fin 4} {nL r : Nat} {lv : List (Nat × Value)} {ls : Array Slot} {rest : List Value} (hdg : decode cc pc = .ok (.astore_n k, 1)) (h : lv_has ls nL lv) (hn : k.val < nL)
    (kk : ∀ ls' : Array Slot, lv_has ls' nL ((k.val, va_rf (zv_ad ba ak r)) :: lv.filter (fun q => !(q.1 == k.val) && !(q.1 + 1 == k.val && q.2.category == 2))) → W p l e R s m args below meth c H locs cells slots Q (F0 m (pc + 1) ls' rest)) : W p l e R s m args below meth c H locs cells slots Q (F0 m pc ls (va_rf (zv_ad ba ak r) :: rest)) := by
  rcases zv_ad_cases ba ak r with ⟨-, q⟩ | ⟨a, q⟩
  · rw [q] at kk ⊢
    exact lv_astore_nN hx hb hdg rfl h hn rfl kk
  · rw [q] at kk ⊢
    exact lv_astore_n hx hb hdg rfl h hn rfl kk
theorem zv_astore (hx : p.tables.exec = Jvm.exec) (hb : c.code = cc) {k : Nat} {nL r : Nat} {lv : List (Nat × Value)} {ls : Array Slot} {rest : List Value} (hdg : decode cc pc = .ok (.astore k, 2)) (h : lv_has ls nL lv) (hn : k < nL)
    (kk : ∀ ls' : Array Slot, lv_has ls' nL ((k, va_rf (zv_ad ba ak r)) :: lv.filter (fun q => !(q.1 == k) && !(q.1 + 1 == k && q.2.category == 2))) → W p l e R s m args below meth c H locs cells slots Q (F0 m (pc + 2) ls' rest)) : W p l e R s m args below meth c H locs cells slots Q (F0 m pc ls (va_rf (zv_ad ba ak r) :: rest)) := by
  rcases zv_ad_cases ba ak r with ⟨-, q⟩ | ⟨a, q⟩
  · rw [q] at kk ⊢
    exact lv_astoreN hx hb hdg h hn rfl kk
  · rw [q] at kk ⊢
    exact lv_astore hx hb hdg h hn rfl kk
/-- what lies behind: any locals that stand for the new ones -/
def zv_WK (p : Program) (l : Launch) (e : Env) (R : Room) (s : State) (m : MethodId) (args : Array Value) (below : List Frame) (meth : Method) (c : Code) (H : Heap) (locs : List Loc) (cells slots : Nat) (Q : State → Prop) (ba : Nat) (ak : Nat → Nat) (pc : Nat) (ls : zv_Ls) (st : List zv_V) : Prop :=
  ∀ lsR, zv_RL ba ak lsR ls → (∀ v ∈ st, zv_vg v) → W p l e R s m args below meth c H locs cells slots Q (F0 m pc lsR (st.map (zv_cv ba ak)))
theorem zv_fa {P : zv_V → Prop} {a : zv_V} {t : List zv_V} (h : ∀ v ∈ a :: t, P v) : P a ∧ ∀ v ∈ t, P v := ⟨h a List.mem_cons_self, fun v hv => h v (List.mem_cons_of_mem _ hv)⟩
theorem zv_fc {P : zv_V → Prop} {a : zv_V} {t : List zv_V} (h1 : P a) (h : ∀ v ∈ t, P v) : ∀ v ∈ a :: t, P v := fun v hv => by
  rcases List.mem_cons.mp hv with q | q
  · rw [q]; exact h1
  · exact h v q
set_option maxHeartbeats 4000000 in
theorem zv_op_ok (hx : p.tables.exec = Jvm.exec) (hb : c.code = cc) {i : Instr} {ls ls' : zv_Ls} {st st' : List zv_V} (hop : zv_op i ls st = some (ls', st')) (hdg : decode cc pc = .ok (i, zv_len i))
    (kk : zv_WK p l e R s m args below meth c H locs cells slots Q ba ak (pc + zv_len i) ls' st') : zv_WK p l e R s m args below meth c H locs cells slots Q ba ak pc ls st := by
  intro lsR hL hg
  unfold zv_op at hop
  split at hop
  all_goals try (cases hop; done)
  · split at hop <;> cases hop
    rename_i n _ _
    exact lv_iconst hx hb hdg rfl (kk lsR hL (zv_fc (by unfold zv_vg zv_rg; dsimp only; omega) hg))
  · split at hop <;> cases hop
    rename_i n _ q
    exact lv_bipush hx hb hdg (zv_byte q.1 q.2) (kk lsR hL (zv_fc (by unfold zv_vg zv_rg; dsimp only; omega) hg))
  · split at hop <;> cases hop
    rename_i n _ q
    exact lv_sipush hx hb hdg (zv_short q.1 q.2) (kk lsR hL (zv_fc (by unfold zv_vg zv_rg; dsimp only; omega) hg))
  · cases hop
    exact lv_lconst hx hb hdg rfl (kk lsR hL (zv_fc trivial hg))
  · cases hop
    exact lv_null hx hb hdg (kk lsR hL (zv_fc trivial hg))
  · split at hop <;> cases hop
    rename_i q
    exact lv_iload_n hx hb hdg rfl (hL.2.2 _ _ q).1 (kk lsR hL (zv_fc (hL.2.2 _ _ q).2 hg))
  · split at hop <;> cases hop
    rename_i q
    exact lv_iload hx hb hdg (hL.2.2 _ _ q).1 (kk lsR hL (zv_fc (hL.2.2 _ _ q).2 hg))
  · split at hop <;> cases hop
    rename_i q
    exact lv_lload_n hx hb hdg rfl (hL.2.2 _ _ q).1 (kk lsR hL (zv_fc (hL.2.2 _ _ q).2 hg))
  · split at hop <;> cases hop
    rename_i q
    exact lv_lload hx hb hdg (hL.2.2 _ _ q).1 (kk lsR hL (zv_fc (hL.2.2 _ _ q).2 hg))
  · split at hop <;> cases hop
    rename_i q
    exact zv_aload_n hx hb hdg (hL.2.2 _ _ q).1 (kk lsR hL (zv_fc (hL.2.2 _ _ q).2 hg))
  · split at hop <;> cases hop
    rename_i q
    exact zv_aload hx hb hdg (hL.2.2 _ _ q).1 (kk lsR hL (zv_fc (hL.2.2 _ _ q).2 hg))
  · split at hop <;> cases hop
    rename_i q
    exact lv_istore_n hx hb hdg rfl hL.has q rfl (fun ls' h' => kk ls' (hL.s1 (zv_fa hg).1 h') (zv_fa hg).2)
  · split at hop <;> cases hop
    rename_i q
    exact lv_istore hx hb hdg hL.has q rfl (fun ls' h' => kk ls' (hL.s1 (zv_fa hg).1 h') (zv_fa hg).2)
  · split at hop <;> cases hop
    rename_i q
    exact lv_lstore_n hx hb hdg rfl hL.has q rfl (fun ls' h' => kk ls' (hL.s2 h') (zv_fa hg).2)
  · split at hop <;> cases hop
    rename_i q
    exact lv_lstore hx hb hdg hL.has q rfl (fun ls' h' => kk ls' (hL.s2 h') (zv_fa hg).2)
  · split at hop <;> cases hop
    rename_i q
    exact zv_astore_n hx hb hdg hL.has q (fun ls' h' => kk ls' (hL.s1 (zv_fa hg).1 h') (zv_fa hg).2)
  · split at hop <;> cases hop
    rename_i q
    exact zv_astore hx hb hdg hL.has q (fun ls' h' => kk ls' (hL.s1 (zv_fa hg).1 h') (zv_fa hg).2)
  · split at hop
    · rename_i q
      split at hop <;> cases hop
      rename_i q2
      have hm := zv_lst_of ba ak ls 0 _ _ q
      rw [Nat.zero_add] at hm
      obtain ⟨k, hk⟩ := List.getElem?_of_mem hm
      exact lv_iinc hx hb hdg hL.has (k := k) hk (by rw [zv_of_w, Int32.ofInt_add]) q2 rfl (fun ls' h' => kk ls' (hL.s1 (v := zv_i _) (zv_rg_w _) h') hg)
    · cases hop
  · cases hop
    exact lv_iadd hx hb hdg (by rw [zv_add]; exact kk lsR hL (zv_fc (zv_rg_w _) (zv_fa (zv_fa hg).2).2))
  · cases hop
    exact lv_isub hx hb hdg (by rw [zv_sub]; exact kk lsR hL (zv_fc (zv_rg_w _) (zv_fa (zv_fa hg).2).2))
  · cases hop
    exact lv_imul hx hb hdg (by rw [zv_mul]; exact kk lsR hL (zv_fc (zv_rg_w _) (zv_fa (zv_fa hg).2).2))
  · cases hop
    exact lv_ineg hx hb hdg (by rw [zv_neg]; exact kk lsR hL (zv_fc (zv_rg_w _) (zv_fa hg).2))
  · split at hop <;> cases hop
    rename_i q
    have hy := (zv_fa hg).1
    have hx1 := (zv_fa (zv_fa hg).2).1
    exact lv_idiv hx hb hdg (fun z => q ((zv_eq0 hy).mp z)) (by rw [zv_div hx1 hy]; exact kk lsR hL (zv_fc (zv_rg_w _) (zv_fa (zv_fa hg).2).2))
  · split at hop <;> cases hop
    rename_i q
    have hy := (zv_fa hg).1
    have hx1 := (zv_fa (zv_fa hg).2).1
    exact lv_irem hx hb hdg (fun z => q ((zv_eq0 hy).mp z)) (by rw [zv_rem hx1 hy]; exact kk lsR hL (zv_fc (zv_rg_tmod hx1) (zv_fa (zv_fa hg).2).2))
  · cases hop
    exact lv_iand hx hb hdg (by have := kk lsR hL (zv_fc (zv_rg_toInt _) (zv_fa (zv_fa hg).2).2); simpa only [List.map_cons, zv_cv, zv_and, zv_ofto, zv_len] using this)
  · cases hop
    exact lv_ior hx hb hdg (by have := kk lsR hL (zv_fc (zv_rg_toInt _) (zv_fa (zv_fa hg).2).2); simpa only [List.map_cons, zv_cv, zv_or, zv_ofto, zv_len] using this)
  · cases hop
    exact lv_ishl hx hb hdg (by have := kk lsR hL (zv_fc (zv_rg_toInt _) (zv_fa (zv_fa hg).2).2); simpa only [List.map_cons, zv_cv, zv_shl, zv_ofto, zv_len] using this)
  · cases hop
    exact lv_ishr hx hb hdg (by have := kk lsR hL (zv_fc (zv_rg_toInt _) (zv_fa (zv_fa hg).2).2); simpa only [List.map_cons, zv_cv, zv_shr, zv_ofto, zv_len] using this)
  · cases hop
    exact lv_iushr hx hb hdg (zv_ofto _).symm (kk lsR hL (zv_fc (zv_rg_toInt _) (zv_fa (zv_fa hg).2).2))
  · cases hop
    exact lv_i2b hx hb hdg (zv_ofto _).symm (kk lsR hL (zv_fc (zv_rg_toInt _) (zv_fa hg).2))
  · cases hop
    exact lv_i2c hx hb hdg (zv_ofto _).symm (kk lsR hL (zv_fc (zv_rg_toInt _) (zv_fa hg).2))
  · cases hop
    exact lv_i2l hx hb hdg rfl (kk lsR hL (zv_fc trivial (zv_fa hg).2))
  · cases hop
    exact lv_l2i hx hb hdg (zv_ofto _).symm (kk lsR hL (zv_fc (zv_rg_toInt _) (zv_fa hg).2))
  · cases hop
    exact lv_ladd hx hb hdg (kk lsR hL (zv_fc trivial (zv_fa (zv_fa hg).2).2))
  · cases hop
    exact lv_lsub hx hb hdg (kk lsR hL (zv_fc trivial (zv_fa (zv_fa hg).2).2))
  · cases hop
    exact lv_lmul hx hb hdg (kk lsR hL (zv_fc trivial (zv_fa (zv_fa hg).2).2))
  · cases hop
    exact lv_land hx hb hdg (kk lsR hL (zv_fc trivial (zv_fa (zv_fa hg).2).2))
  · cases hop
    exact lv_lor hx hb hdg (kk lsR hL (zv_fc trivial (zv_fa (zv_fa hg).2).2))
  · cases hop
    exact lv_lxor hx hb hdg (kk lsR hL (zv_fc trivial (zv_fa (zv_fa hg).2).2))
  · cases hop
    exact lv_lshl hx hb hdg rfl (kk lsR hL (zv_fc trivial (zv_fa (zv_fa hg).2).2))
  · cases hop
    exact lv_lushr hx hb hdg rfl (kk lsR hL (zv_fc trivial (zv_fa (zv_fa hg).2).2))
  · cases hop
    exact W.lcmp hx hb hdg (by rw [zv_lcmp_eq]; exact kk lsR hL (zv_fc (zv_rg_lcmp _ _) (zv_fa (zv_fa hg).2).2))
  · cases hop
    exact lv_dup hx hb hdg rfl (kk lsR hL (zv_fc (zv_fa hg).1 hg))
  · cases hop
    refine lv_dup hx hb hdg ?_ (kk lsR hL (zv_fc (zv_fa hg).1 hg))
    exact zv_cat1 ba ak _
  · cases hop
    refine lv_dup2_11 hx hb hdg rfl ?_ (kk lsR hL (zv_fc (zv_fa hg).1 (zv_fc (zv_fa (zv_fa hg).2).1 hg)))
    exact zv_cat1 ba ak _
  · cases hop
    exact lv_pop hx hb hdg rfl (kk lsR hL (zv_fa hg).2)
  · cases hop
    refine lv_pop hx hb hdg ?_ (kk lsR hL (zv_fa hg).2)
    exact zv_cat1 ba ak _
end ZOP
end
/-! 13.heap -/
section
/-! the cells -/
def zv_fv (ba : Nat) (ak : Nat → Nat) (h : zv_H) (r ci k : Nat) : Value := match zv_ft ci k with
  | 0 => .int (Int32.ofInt (zv_I h r k))
  | 1 => .int (Int32.ofInt (zv_I h r k))
  | 2 => .long (zv_J h r k)
  | _ => va_rf (zv_ad ba ak (zv_R h r k))
def zv_fs (ba : Nat) (ak : Nat → Nat) (h : zv_H) (r ci : Nat) : List Value := (List.range (zv_nf ci)).map (zv_fv ba ak h r ci)
def zv_el (g : Nat → ClassId) (ba : Nat) (ak : Nat → Nat) (h : zv_H) (r : Nat) : va_E := match (zv_lay r).1 with
  | 1 => .inr ((zv_lay r).2, zv_fs ba ak h r (zv_lay r).2)
  | 2 => .inl (g 2, (zv_lay r).2, .inl fun j => Int32.ofInt (zv_I h r j))
  | 3 => .inl (g 3, (zv_lay r).2, .inl fun j => Int32.ofInt (zv_I h r j))
  | 4 => .inl (g 4, (zv_lay r).2, .inl fun j => Int32.ofInt (zv_I h r j))
  | 5 => .inl (g 5, (zv_lay r).2, .inr (.inl fun j => zv_J h r j))
  | _ => .inl (g 6, (zv_lay r).2, .inr (.inr (.inr (.inr fun j => zv_ad ba ak (zv_R h r j)))))
def zv_ws (g : Nat → ClassId) (ba : Nat) (ak : Nat → Nat) (h : zv_H) : va_W := (List.range (zv_n h)).map fun q => (ba + (q + 1), zv_el g ba ak h (q + 1))
def zv_Ac (ba : Nat) : Nat → Prop := fun q => ba < q
def zv_tys (g : Nat → ClassId) : List (ClassId × FieldType) := [(g 2, .int), (g 3, .boolean), (g 4, .byte), (g 5, .long), (g 6, .object "BranchedText$State")]
def zv_hg (h : zv_H) : Prop := ∀ r k, zv_rg (zv_I h r k)
def zv_RH (D : va_G) (g : Nat → ClassId) (ba : Nat) (ak : Nat → Nat) (h : zv_H) (H : Heap) : Prop := H.size = ba + zv_n h + 1 ∧ va_P D vwCl (zv_ws g ba ak h) H ∧ zv_hg h ∧ zv_n h < 1000000
theorem zv_lay0 : zv_lay 0 = (0, 0) := by decide +kernel
theorem zv_layL_len : zv_layL.length = 373 := by decide +kernel
theorem zv_lay_lt {r : Nat} (h : ¬ (zv_lay r).1 = 0) : r < 373 := by
  rcases Nat.lt_or_ge r 373 with q | q
  · exact q
  · refine absurd ?_ h
    unfold zv_lay
    rw [List.getD_eq_getElem?_getD, List.getElem?_eq_none (by rw [zv_layL_len]; exact q)]
    rfl
theorem zv_lay_pos {r k v : Nat} (h : zv_lay r = (k + 1, v)) : 1 ≤ r := by
  rcases Nat.eq_zero_or_pos r with q | q
  · subst q
    rw [zv_lay0] at h
    cases h
  · exact q
theorem zv_lay_pos' {r : Nat} (h : ¬ (zv_lay r).1 = 0) : 1 ≤ r := by
  rcases Nat.eq_zero_or_pos r with q | q
  · subst q
    rw [zv_lay0] at h
    exact absurd rfl h
  · exact q
theorem zv_ws_at {g : Nat → ClassId} {ba : Nat} {ak : Nat → Nat} {h : zv_H} {r : Nat} (h1 : 1 ≤ r) (h2 : r ≤ zv_n h) : (zv_ws g ba ak h)[r - 1]? = some (ba + r, zv_el g ba ak h r) := by
  unfold zv_ws
  rw [List.getElem?_map, List.getElem?_range (by omega)]
  simp only [Option.map_some]
  rw [show r - 1 + 1 = r by omega]
theorem zv_ws_in {g : Nat → ClassId} {ba : Nat} {ak : Nat → Nat} {h : zv_H} {k : Nat} {q : Nat × va_E} (hk : (zv_ws g ba ak h)[k]? = some q) : k < zv_n h ∧ q = (ba + (k + 1), zv_el g ba ak h (k + 1)) := by
  unfold zv_ws at hk
  rw [List.getElem?_map] at hk
  rcases Nat.lt_or_ge k (zv_n h) with z | z
  · rw [List.getElem?_range z] at hk
    exact ⟨z, (Option.some.inj hk).symm⟩
  · rw [List.getElem?_eq_none (by rw [List.length_range]; exact z)] at hk
    cases hk
theorem zv_ws_D (g : Nat → ClassId) (ba : Nat) (ak : Nat → Nat) (h : zv_H) : va_D (zv_Ac ba) (zv_ws g ba ak h) := by
  refine ⟨fun i j p q hi hj e => ?_, fun k q hk => ?_⟩
  · obtain ⟨-, rfl⟩ := zv_ws_in hi
    obtain ⟨-, rfl⟩ := zv_ws_in hj
    dsimp only at e
    omega
  · obtain ⟨-, rfl⟩ := zv_ws_in hk
    show ba < ba + (k + 1)
    omega
/-- one cell changes -/
theorem zv_ws_set {g : Nat → ClassId} {ba : Nat} {ak : Nat → Nat} {h h' : zv_H} {r : Nat} (h1 : 1 ≤ r) (hn : zv_n h' = zv_n h) (hne : ∀ q, ¬ q = r → zv_el g ba ak h' q = zv_el g ba ak h q) : (zv_ws g ba ak h).set (r - 1) (ba + r, zv_el g ba ak h' r) = zv_ws g ba ak h' := by
  apply List.ext_getElem?
  intro k
  by_cases hk : k = r - 1
  · subst hk
    by_cases hl : r - 1 < zv_n h
    · rw [List.getElem?_set_self (by unfold zv_ws; simp; exact hl), zv_ws_at h1 (by omega)]
    · rw [List.getElem?_eq_none (by unfold zv_ws; simp; omega), List.getElem?_eq_none (by unfold zv_ws; simp; omega)]
  · rw [List.getElem?_set_ne (Ne.symm hk)]
    unfold zv_ws
    rw [List.getElem?_map, List.getElem?_map, hn]
    rcases Nat.lt_or_ge k (zv_n h) with z | z
    · rw [List.getElem?_range z]
      simp only [Option.map_some]
      rw [hne (k + 1) (by omega)]
    · rw [List.getElem?_eq_none (by rw [List.length_range]; exact z)]
      rfl
theorem zv_ws_push {g : Nat → ClassId} {ba : Nat} {ak : Nat → Nat} {h h' : zv_H} (hn : zv_n h' = zv_n h + 1) (hne : ∀ q, q ≤ zv_n h → zv_el g ba ak h' q = zv_el g ba ak h q) : zv_ws g ba ak h' = zv_ws g ba ak h ++ [(ba + (zv_n h + 1), zv_el g ba ak h' (zv_n h + 1))] := by
  unfold zv_ws
  rw [hn, List.range_succ, List.map_append]
  congr 1
  apply List.map_congr_left
  intro q hq
  rw [hne (q + 1) (by have := List.mem_range.mp hq; omega)]
theorem zv_el_obj {g : Nat → ClassId} {ba : Nat} {ak : Nat → Nat} {h : zv_H} {r ci : Nat} (hl : zv_lay r = (1, ci)) : zv_el g ba ak h r = .inr (ci, zv_fs ba ak h r ci) := by
  unfold zv_el
  rw [hl]; try rfl
theorem zv_fs_at {ba : Nat} {ak : Nat → Nat} {h : zv_H} {r ci k : Nat} (hk : k < zv_nf ci) : (zv_fs ba ak h r ci)[k]? = some (zv_fv ba ak h r ci k) := by
  unfold zv_fs
  rw [List.getElem?_map, List.getElem?_range hk]
  rfl
theorem zv_fs_len (ba : Nat) (ak : Nat → Nat) (h : zv_H) (r ci : Nat) : (zv_fs ba ak h r ci).length = zv_nf ci := by
  unfold zv_fs
  simp
theorem zv_fs_set {ba : Nat} {ak : Nat → Nat} {h h' : zv_H} {r ci k : Nat} {v : Value} (hv : zv_fv ba ak h' r ci k = v) (hne : ∀ j, ¬ j = k → zv_fv ba ak h' r ci j = zv_fv ba ak h r ci j) : (zv_fs ba ak h r ci).set k v = zv_fs ba ak h' r ci := by
  apply List.ext_getElem?
  intro j
  by_cases hj : j = k
  · subst hj
    by_cases hl : j < zv_nf ci
    · rw [List.getElem?_set_self (by rw [zv_fs_len]; exact hl), zv_fs_at hl, hv]
    · rw [List.getElem?_eq_none (by simp [zv_fs_len]; omega), List.getElem?_eq_none (by rw [zv_fs_len]; omega)]
  · rw [List.getElem?_set_ne (Ne.symm hj)]
    by_cases hl : j < zv_nf ci
    · rw [zv_fs_at hl, zv_fs_at hl, hne j hj]
    · rw [List.getElem?_eq_none (by rw [zv_fs_len]; omega), List.getElem?_eq_none (by rw [zv_fs_len]; omega)]
theorem zv_el_congr {g : Nat → ClassId} {ba : Nat} {ak : Nat → Nat} {h h' : zv_H} {r : Nat} (hI : ∀ k, zv_I h' r k = zv_I h r k) (hJ : ∀ k, zv_J h' r k = zv_J h r k) (hR : ∀ k, zv_R h' r k = zv_R h r k) : zv_el g ba ak h' r = zv_el g ba ak h r := by
  unfold zv_el zv_fs zv_fv
  simp only [hI, hJ, hR]
section UPD
variable (h : zv_H) (r k : Nat)
theorem zv_n_sI (v : Int) : zv_n (zv_sI h r k v) = zv_n h := rfl
theorem zv_n_sJ (v : Int64) : zv_n (zv_sJ h r k v) = zv_n h := rfl
theorem zv_n_sR (v : Nat) : zv_n (zv_sR h r k v) = zv_n h := rfl
theorem zv_s_sI (v : Int) : zv_s (zv_sI h r k v) = zv_s h := rfl
theorem zv_s_sJ (v : Int64) : zv_s (zv_sJ h r k v) = zv_s h := rfl
theorem zv_s_sR (v : Nat) : zv_s (zv_sR h r k v) = zv_s h := rfl
theorem zv_I_sI (v : Int) (a b : Nat) : zv_I (zv_sI h r k v) a b = if a = r ∧ b = k then v else zv_I h a b := rfl
theorem zv_I_sJ (v : Int64) (a b : Nat) : zv_I (zv_sJ h r k v) a b = zv_I h a b := rfl
theorem zv_I_sR (v : Nat) (a b : Nat) : zv_I (zv_sR h r k v) a b = zv_I h a b := rfl
theorem zv_J_sI (v : Int) (a b : Nat) : zv_J (zv_sI h r k v) a b = zv_J h a b := rfl
theorem zv_J_sJ (v : Int64) (a b : Nat) : zv_J (zv_sJ h r k v) a b = if a = r ∧ b = k then v else zv_J h a b := rfl
theorem zv_J_sR (v : Nat) (a b : Nat) : zv_J (zv_sR h r k v) a b = zv_J h a b := rfl
theorem zv_R_sI (v : Int) (a b : Nat) : zv_R (zv_sI h r k v) a b = zv_R h a b := rfl
theorem zv_R_sJ (v : Int64) (a b : Nat) : zv_R (zv_sJ h r k v) a b = zv_R h a b := rfl
theorem zv_R_sR (v : Nat) (a b : Nat) : zv_R (zv_sR h r k v) a b = if a = r ∧ b = k then v else zv_R h a b := rfl
end UPD
theorem zv_el_sI {g : Nat → ClassId} {ba : Nat} {ak : Nat → Nat} {h : zv_H} {r k q : Nat} {v : Int} (hq : ¬ q = r) : zv_el g ba ak (zv_sI h r k v) q = zv_el g ba ak h q :=
  zv_el_congr (fun j => by rw [zv_I_sI, if_neg (fun z => hq z.1)]) (fun _ => rfl) (fun _ => rfl)
theorem zv_el_sJ {g : Nat → ClassId} {ba : Nat} {ak : Nat → Nat} {h : zv_H} {r k q : Nat} {v : Int64} (hq : ¬ q = r) : zv_el g ba ak (zv_sJ h r k v) q = zv_el g ba ak h q :=
  zv_el_congr (fun _ => rfl) (fun j => by rw [zv_J_sJ, if_neg (fun z => hq z.1)]) (fun _ => rfl)
theorem zv_el_sR {g : Nat → ClassId} {ba : Nat} {ak : Nat → Nat} {h : zv_H} {r k q : Nat} {v : Nat} (hq : ¬ q = r) : zv_el g ba ak (zv_sR h r k v) q = zv_el g ba ak h q :=
  zv_el_congr (fun _ => rfl) (fun _ => rfl) (fun j => by rw [zv_R_sR, if_neg (fun z => hq z.1)])
theorem zv_hg_sI {h : zv_H} {r k : Nat} {v : Int} (hh : zv_hg h) (hv : zv_rg v) : zv_hg (zv_sI h r k v) := by
  intro a b
  rw [zv_I_sI]
  split
  · exact hv
  · exact hh a b
end
/-! 14.cells -/
section
/-! the instructions on cells -/
def zv_tb : List Cond := lw_tbl.filter goodWord
def zv_tyk (n : Nat) (t : FieldType) : Prop := match n with
  | 0 => t = .int
  | 1 => t = .boolean
  | 2 => t = .long
  | 3 => (∃ x, t = .object x) ∨ ∃ x, t = .array x
  | _ => False
/-- a class of the world -/
def zv_CF (ci : Nat) (C : String) (T : u_T) (N : Nat) (ty : Nat → FieldType) : Prop :=
  vwCl[ci]? = some (C, T, N) ∧ N = zv_nf ci ∧ (∀ w ∈ u_ws C T N, w ∈ zv_tb) ∧ (∀ k, k < N → parseFieldDescriptor (T k).2.2.1 = some (ty k)) ∧ (∀ a, a < N → ∀ b, b < N → a ≠ b → (T a).2.1 ≠ (T b).2.1) ∧ (∀ k, k < N → (T k).1 = C) ∧ ∀ k, k < N → zv_tyk (zv_ft ci k) (ty k)
def zv_lkf (own : String) (ix : Nat) (C n d : String) : Prop := Cond.fieldLink own ix C n d ∈ zv_tb ∨ ∃ host, Cond.fieldLinkNest own ix C n d host ∈ tables_1
def zv_NF (s : State) : Prop := ∀ own ix C n d host, Cond.fieldLinkNest own ix C n d host ∈ tables_1 → va_Nw (.fieldLinkNest own ix C n d host) s
def zv_NM (s : State) : Prop := ∀ own ix y host, Cond.methodLinkNest own ix y host ∈ tables_1 → va_Nw (.methodLinkNest own ix y host) s
section ZCEL
variable {p : Program} {l : Launch} {e : Env} {R : Room} {s : State} {m : MethodId} {args : Array Value} {below : List Frame} {meth : Method} {c : Code} {H : Heap} {locs : List Loc} {cells slots : Nat} {Q : State → Prop}
variable {cc : ByteArray} {pc : Nat} {ba : Nat} {ak : Nat → Nat} {D : va_G} {g : Nat → ClassId} {lsR : Array Slot} {rest : List Value} {own : String}
theorem zv_ad_in {r n : Nat} (h1 : 1 ≤ r) (h2 : r ≤ n) (hn : n < 1000000) : va_rf (zv_ad ba ak r) = .ref (ba + r) := by
  unfold zv_ad
  rw [if_neg (by omega), if_pos (by omega)]
  rfl
theorem zv_Wsz {g : JFrame} (kk : H.size ≤ s.heap.size + cells → W p l e R s m args below meth c H locs cells slots Q g) : W p l e R s m args below meth c H locs cells slots Q g := by
  intro T hT X
  have hz := X.same.2.2.1
  refine kk ?_ T hT X
  rw [← hT]
  exact hz
theorem zv_Srf {A : Nat → Prop} {H0 : Heap} (hS : va_S A H0 H locs) : va_S A H H locs := ⟨Nat.le_refl _, fun _ _ _ => rfl, hS.2.2⟩
theorem zv_Str {A : Nat → Prop} {H0 H1 : Heap} {locs1 : List Loc} (hS : va_S A H0 H locs) (h1 : va_S A H H1 locs1) : va_S A H0 H1 locs1 :=
  ⟨Nat.le_trans hS.1 h1.1, fun q a b => (h1.2.1 q (Nat.lt_of_lt_of_le a hS.1) b).trans (hS.2.1 q a b), h1.2.2⟩
/-- behind a write: the size is what it was -/
theorem zv_back {g : JFrame} {h h' : zv_H} {D : va_G} {gg : Nat → ClassId} {ba : Nat} {ak : Nat → Nat} {H1 : Heap} {locs1 : List Loc} (hR : zv_RH D gg ba ak h H) (hS : va_S (zv_Ac ba) s.heap H locs) (hsc : s.heap.size + cells = ba + zv_n h + 1) (hn' : zv_n h' = zv_n h) (hg' : zv_hg h')
    (kk : zv_RH D gg ba ak h' H1 → va_S (zv_Ac ba) s.heap H1 locs1 → W p l e R s m args below meth c H1 locs1 cells slots Q g) (q1 : va_P D vwCl (zv_ws gg ba ak h') H1) (q3 : va_S (zv_Ac ba) H H1 locs1) : W p l e R s m args below meth c H1 locs1 cells slots Q g := by
  refine zv_Wsz fun hz => ?_
  have h1 := q3.1
  have h2 := hR.1
  exact kk ⟨by rw [hn']; omega, q1, hg', by rw [hn']; exact hR.2.2.2⟩ (zv_Str hS q3)
theorem zv_get_ok (hx : p.tables.exec = Jvm.exec) (hb : c.code = cc) (hts : ∀ w ∈ zv_tb, w.before args s = true) (hNF : zv_NF s) (hown : s.vm.findClass own = some m.cls) (hK : va_K D vwCl (zv_tys g) s) {h : zv_H} (hR : zv_RH D g ba ak h H)
    {r ci k ix : Nat} {C : String} {T : u_T} {N : Nat} {ty : Nat → FieldType} (hCF : zv_CF ci C T N ty) (hk : k < N) (hl : zv_lkf own ix C (T k).2.1 (T k).2.2.1) (ho : r ≤ zv_n h ∧ zv_lay r = (1, ci)) (hdg : decode cc pc = .ok (.getfield ix, 3))
    (kk : W p l e R s m args below meth c H locs cells slots Q (F0 m (pc + 3) lsR (zv_fv ba ak h r ci k :: rest))) : W p l e R s m args below meth c H locs cells slots Q (F0 m pc lsR (va_rf (zv_ad ba ak r) :: rest)) := by
  obtain ⟨h1, h2, h3, h4, h5, h6, h7⟩ := hCF
  have hp := zv_lay_pos ho.2
  rw [zv_ad_in hp ho.1 hR.2.2.2]
  have he : (zv_ws g ba ak h)[r - 1]? = some (ba + r, .inr (ci, zv_fs ba ak h r ci)) := by rw [zv_ws_at hp ho.1, zv_el_obj ho.2]
  have hsame : ∀ x, s.fieldFound? (T k).1 (T k).2.1 (T k).2.2.1 = some x → s.fieldFound? C (T k).2.1 (T k).2.2.1 = some x := fun x hx => by rw [← h6 k hk]; exact hx
  rcases hl with hl | ⟨host, hl⟩
  · exact va_get hx hb hts h3 hown hK hR.2.1 (r - 1) he h1 k hk (hts _ hl) hsame (zv_fs_at (h2 ▸ hk)) hdg kk
  · exact va_getN hx hb hts h3 hown hK hR.2.1 (r - 1) he h1 k hk ((hNF _ _ _ _ _ _ hl).use rfl) hsame (zv_fs_at (h2 ▸ hk)) hdg kk
/-- a field is written: the cells behind it -/
theorem zv_put_ok (hx : p.tables.exec = Jvm.exec) (hb : c.code = cc) (hts : ∀ w ∈ zv_tb, w.before args s = true) (hNF : zv_NF s) (hown : s.vm.findClass own = some m.cls) (hK : va_K D vwCl (zv_tys g) s) {h h' : zv_H} (hR : zv_RH D g ba ak h H) (hS : va_S (zv_Ac ba) s.heap H locs) (hsc : s.heap.size + cells = ba + zv_n h + 1)
    {r ci k ix : Nat} {C : String} {T : u_T} {N : Nat} {ty : Nat → FieldType} (hCF : zv_CF ci C T N ty) (hk : k < N) (hl : zv_lkf own ix C (T k).2.1 (T k).2.2.1) (hfin : (T k).2.2.2 = true → Cond.fieldLink own ix C (T k).2.1 (T k).2.2.1 ∈ zv_tb ∧ meth.name = "<init>" ∧ C = own) (ho : r ≤ zv_n h ∧ zv_lay r = (1, ci))
    {v : Value} (hn : narrow (ty k) v = v) (hf : fits (ty k) v = true) (hv : zv_fv ba ak h' r ci k = v) (hne : ∀ j, ¬ j = k → zv_fv ba ak h' r ci j = zv_fv ba ak h r ci j) (hne2 : ∀ q, ¬ q = r → zv_el g ba ak h' q = zv_el g ba ak h q) (hn' : zv_n h' = zv_n h) (hg' : zv_hg h') (hdg : decode cc pc = .ok (.putfield ix, 3))
    (kk : ∀ H1 locs1, zv_RH D g ba ak h' H1 → va_S (zv_Ac ba) s.heap H1 locs1 → W p l e R s m args below meth c H1 locs1 cells slots Q (F0 m (pc + 3) lsR rest)) : W p l e R s m args below meth c H locs cells slots Q (F0 m pc lsR (v :: va_rf (zv_ad ba ak r) :: rest)) := by
  obtain ⟨h1, h2, h3, h4, h5, h6, h7⟩ := hCF
  have hp := zv_lay_pos ho.2
  rw [zv_ad_in hp ho.1 hR.2.2.2]
  have he : (zv_ws g ba ak h)[r - 1]? = some (ba + r, .inr (ci, zv_fs ba ak h r ci)) := by rw [zv_ws_at hp ho.1, zv_el_obj ho.2]
  have hsame : ∀ x, s.fieldFound? (T k).1 (T k).2.1 (T k).2.2.1 = some x → s.fieldFound? C (T k).2.1 (T k).2.2.1 = some x := fun x hx => by rw [← h6 k hk]; exact hx
  have hset : (zv_ws g ba ak h).set (r - 1) (ba + r, .inr (ci, (zv_fs ba ak h r ci).set k v)) = zv_ws g ba ak h' := by
    rw [zv_fs_set hv hne, ← zv_el_obj (g := g) ho.2]
    exact zv_ws_set hp hn' hne2
  have kk2 : ∀ (H1 : Heap) (locs1 : List Loc), va_P D vwCl ((zv_ws g ba ak h).set (r - 1) (ba + r, .inr (ci, (zv_fs ba ak h r ci).set k v))) H1 → va_D (zv_Ac ba) ((zv_ws g ba ak h).set (r - 1) (ba + r, .inr (ci, (zv_fs ba ak h r ci).set k v))) → va_S (zv_Ac ba) H H1 locs1 → W p l e R s m args below meth c H1 locs1 cells slots Q (F0 m (pc + 3) lsR rest) := by
    intro H1 locs1 q1 q2 q3
    rw [hset] at q1
    exact zv_back hR hS hsc hn' hg' (kk H1 locs1) q1 q3
  have hD := zv_ws_D g ba ak h
  have hk2 : k < (zv_fs ba ak h r ci).length := by rw [zv_fs_len]; omega
  rcases hfb : (T k).2.2.2 with _ | _
  · rcases hl with hl | ⟨host, hl⟩
    · exact va_put hx hb hts h3 ty h4 h5 hown hK hR.2.1 hD (zv_Srf hS) (r - 1) he h1 k hk (hts _ hl) hsame hfb (h4 k hk) hn hf hk2 hdg kk2
    · exact va_putN hx hb hts h3 ty h4 h5 hown hK hR.2.1 hD (zv_Srf hS) (r - 1) he h1 k hk ((hNF _ _ _ _ _ _ hl).use rfl) hsame hfb (h4 k hk) hn hf hk2 hdg kk2
  · obtain ⟨f1, f2, f3⟩ := hfin hfb
    exact va_putF hx hb hts h3 ty h4 h5 hown hK hR.2.1 hD (zv_Srf hS) (r - 1) he h1 k hk (hts _ f1) hsame hfb f2 ((h6 k hk).trans f3) (h4 k hk) hn hf hk2 hdg kk2
end ZCEL
end
/-! 14b.words -/
section
theorem zv_tb_of {w : Cond} (i : Nat) (h : tables_1[i]? = some w) (hg : goodWord w = true) : w ∈ zv_tb := List.mem_filter.mpr ⟨List.mem_append_right _ (List.mem_of_getElem? h), hg⟩
theorem zv_tb_sel {w : Cond} (h : w ∈ k2_sels lw_privs) (hg : goodWord w = true) : w ∈ zv_tb := List.mem_filter.mpr ⟨List.mem_append_left _ h, hg⟩
theorem zv_tb_good {ws : List Cond} (h : ∀ w ∈ ws, w ∈ zv_tb) : GoodIn zv_tb ws := fun w hw => ⟨h w hw, good_of_word (List.mem_filter.mp (h w hw)).2⟩
theorem zv_tb_lw {w : Cond} (h : w ∈ zv_tb) : w ∈ lw_tbl := (List.mem_filter.mp h).1
theorem zv_t1_1 {w : Cond} (i : Nat) (h : tables_1_1[i]? = some w) : w ∈ tables_1 := (List.mem_append_left _ (List.mem_of_getElem? h))
theorem zv_tbk_1 {w : Cond} (i : Nat) (h : tables_1_1[i]? = some w) (hg : goodWord w = true) : w ∈ zv_tb := List.mem_filter.mpr ⟨List.mem_append_right _ (zv_t1_1 i h), hg⟩
theorem zv_t1_2 {w : Cond} (i : Nat) (h : tables_1_2[i]? = some w) : w ∈ tables_1 := (List.mem_append_right _ (List.mem_append_left _ (List.mem_of_getElem? h)))
theorem zv_tbk_2 {w : Cond} (i : Nat) (h : tables_1_2[i]? = some w) (hg : goodWord w = true) : w ∈ zv_tb := List.mem_filter.mpr ⟨List.mem_append_right _ (zv_t1_2 i h), hg⟩
theorem zv_t1_3 {w : Cond} (i : Nat) (h : tables_1_3[i]? = some w) : w ∈ tables_1 := (List.mem_append_right _ (List.mem_append_right _ (List.mem_append_left _ (List.mem_of_getElem? h))))
theorem zv_tbk_3 {w : Cond} (i : Nat) (h : tables_1_3[i]? = some w) (hg : goodWord w = true) : w ∈ zv_tb := List.mem_filter.mpr ⟨List.mem_append_right _ (zv_t1_3 i h), hg⟩
theorem zv_t1_4 {w : Cond} (i : Nat) (h : tables_1_4[i]? = some w) : w ∈ tables_1 := (List.mem_append_right _ (List.mem_append_right _ (List.mem_append_right _ (List.mem_append_left _ (List.mem_of_getElem? h)))))
theorem zv_tbk_4 {w : Cond} (i : Nat) (h : tables_1_4[i]? = some w) (hg : goodWord w = true) : w ∈ zv_tb := List.mem_filter.mpr ⟨List.mem_append_right _ (zv_t1_4 i h), hg⟩
theorem zv_t1_5 {w : Cond} (i : Nat) (h : tables_1_5[i]? = some w) : w ∈ tables_1 := (List.mem_append_right _ (List.mem_append_right _ (List.mem_append_right _ (List.mem_append_right _ (List.mem_append_left _ (List.mem_of_getElem? h))))))
theorem zv_tbk_5 {w : Cond} (i : Nat) (h : tables_1_5[i]? = some w) (hg : goodWord w = true) : w ∈ zv_tb := List.mem_filter.mpr ⟨List.mem_append_right _ (zv_t1_5 i h), hg⟩
theorem zv_t1_6 {w : Cond} (i : Nat) (h : tables_1_6[i]? = some w) : w ∈ tables_1 := (List.mem_append_right _ (List.mem_append_right _ (List.mem_append_right _ (List.mem_append_right _ (List.mem_append_right _ (List.mem_append_left _ (List.mem_of_getElem? h)))))))
theorem zv_tbk_6 {w : Cond} (i : Nat) (h : tables_1_6[i]? = some w) (hg : goodWord w = true) : w ∈ zv_tb := List.mem_filter.mpr ⟨List.mem_append_right _ (zv_t1_6 i h), hg⟩
theorem zv_t1_7 {w : Cond} (i : Nat) (h : tables_1_7[i]? = some w) : w ∈ tables_1 := (List.mem_append_right _ (List.mem_append_right _ (List.mem_append_right _ (List.mem_append_right _ (List.mem_append_right _ (List.mem_append_right _ (List.mem_append_left _ (List.mem_of_getElem? h))))))))
theorem zv_tbk_7 {w : Cond} (i : Nat) (h : tables_1_7[i]? = some w) (hg : goodWord w = true) : w ∈ zv_tb := List.mem_filter.mpr ⟨List.mem_append_right _ (zv_t1_7 i h), hg⟩
theorem zv_t1_8 {w : Cond} (i : Nat) (h : tables_1_8[i]? = some w) : w ∈ tables_1 := (List.mem_append_right _ (List.mem_append_right _ (List.mem_append_right _ (List.mem_append_right _ (List.mem_append_right _ (List.mem_append_right _ (List.mem_append_right _ (List.mem_append_left _ (List.mem_of_getElem? h)))))))))
theorem zv_tbk_8 {w : Cond} (i : Nat) (h : tables_1_8[i]? = some w) (hg : goodWord w = true) : w ∈ zv_tb := List.mem_filter.mpr ⟨List.mem_append_right _ (zv_t1_8 i h), hg⟩
theorem zv_t1_9 {w : Cond} (i : Nat) (h : tables_1_9[i]? = some w) : w ∈ tables_1 := (List.mem_append_right _ (List.mem_append_right _ (List.mem_append_right _ (List.mem_append_right _ (List.mem_append_right _ (List.mem_append_right _ (List.mem_append_right _ (List.mem_append_right _ (List.mem_of_getElem? h)))))))))
theorem zv_tbk_9 {w : Cond} (i : Nat) (h : tables_1_9[i]? = some w) (hg : goodWord w = true) : w ∈ zv_tb := List.mem_filter.mpr ⟨List.mem_append_right _ (zv_t1_9 i h), hg⟩
theorem zv_wA_int : Cond.arrayClass .int ∈ zv_tb := zv_tb_of 42 (by decide +kernel) (by decide +kernel)
theorem zv_wA_boolean : Cond.arrayClass .boolean ∈ zv_tb := zv_tb_of 251 (by decide +kernel) (by decide +kernel)
theorem zv_wA_byte : Cond.arrayClass .byte ∈ zv_tb := zv_tb_of 920 (by decide +kernel) (by decide +kernel)
theorem zv_wA_long : Cond.arrayClass .long ∈ zv_tb := zv_tb_of 1406 (by decide +kernel) (by decide +kernel)
theorem zv_wMx : Cond.static Lib.Math.max.name ∈ zv_tb ∧ Cond.initialized "java/lang/Math" ∈ zv_tb ∧ Cond.code Lib.Math.max.name Lib.Math.max.code 2 (some .int) ∈ zv_tb := ⟨(zv_tbk_4 0 (by decide +kernel) (by decide +kernel)), (zv_tbk_1 11 (by decide +kernel) (by decide +kernel)), (zv_tbk_4 1 (by decide +kernel) (by decide +kernel))⟩
theorem zv_wMn : Cond.static Lib.Math.min.name ∈ zv_tb ∧ Cond.initialized "java/lang/Math" ∈ zv_tb ∧ Cond.code Lib.Math.min.name Lib.Math.min.code 2 (some .int) ∈ zv_tb := ⟨(zv_tbk_2 229 (by decide +kernel) (by decide +kernel)), (zv_tbk_1 11 (by decide +kernel) (by decide +kernel)), (zv_tbk_2 230 (by decide +kernel) (by decide +kernel))⟩
end
/-! 15.arr -/
section
/-! arrays, new cells -/
theorem zv_and1 (x : Int) : Int32.ofInt x &&& 1 = Int32.ofInt (zv_nz x) := by
  apply Int32.toInt_inj.mp
  have h1 : zv_rg (zv_nz x) := zv_rg_nz x
  rw [zv_toInt h1]
  have e1 : (Int32.ofInt x &&& 1).toBitVec.toNat = (Int32.ofInt x).toBitVec.toNat % 2 := by
    rw [Int32.toBitVec_and, BitVec.toNat_and]
    exact Nat.and_one_is_mod _
  have e2 : (Int32.ofInt x).toBitVec.toNat = (x % 4294967296).toNat := by
    rw [Int32.toBitVec_ofInt, BitVec.toNat_ofInt]
    rfl
  have e3 : (Int32.ofInt x &&& 1).toInt = ((Int32.ofInt x &&& 1).toBitVec.toNat : Int) := by
    show (Int32.ofInt x &&& 1).toBitVec.toInt = _
    rw [BitVec.toInt_eq_toNat_of_lt]
    rw [e1]
    have := Nat.mod_lt ((Int32.ofInt x).toBitVec.toNat) (show 0 < 2 by omega)
    omega
  rw [e3, e1, e2]
  unfold zv_nz
  omega
theorem zv_nar_z (x : Int) : vp_nar .boolean (Int32.ofInt x) = Int32.ofInt (zv_nz x) := by
  rw [← zv_and1]
  rfl
theorem zv_el_2 {g : Nat → ClassId} {ba : Nat} {ak : Nat → Nat} {h : zv_H} {r : Nat} (hl : (zv_lay r).1 = 2) : zv_el g ba ak h r = .inl (g 2, (zv_lay r).2, .inl fun j => Int32.ofInt (zv_I h r j)) := by
  unfold zv_el
  rw [hl]
  rfl
theorem zv_el_3 {g : Nat → ClassId} {ba : Nat} {ak : Nat → Nat} {h : zv_H} {r : Nat} (hl : (zv_lay r).1 = 3) : zv_el g ba ak h r = .inl (g 3, (zv_lay r).2, .inl fun j => Int32.ofInt (zv_I h r j)) := by
  unfold zv_el
  rw [hl]
  rfl
theorem zv_el_4 {g : Nat → ClassId} {ba : Nat} {ak : Nat → Nat} {h : zv_H} {r : Nat} (hl : (zv_lay r).1 = 4) : zv_el g ba ak h r = .inl (g 4, (zv_lay r).2, .inl fun j => Int32.ofInt (zv_I h r j)) := by
  unfold zv_el
  rw [hl]
  rfl
theorem zv_el_5 {g : Nat → ClassId} {ba : Nat} {ak : Nat → Nat} {h : zv_H} {r : Nat} (hl : (zv_lay r).1 = 5) : zv_el g ba ak h r = .inl (g 5, (zv_lay r).2, .inr (.inl fun j => zv_J h r j)) := by
  unfold zv_el
  rw [hl]
  rfl
theorem zv_el_6 {g : Nat → ClassId} {ba : Nat} {ak : Nat → Nat} {h : zv_H} {r : Nat} (hl : (zv_lay r).1 = 6) : zv_el g ba ak h r = .inl (g 6, (zv_lay r).2, .inr (.inr (.inr (.inr fun j => zv_ad ba ak (zv_R h r j))))) := by
  unfold zv_el
  rw [hl]
  rfl
section ZARR
variable {p : Program} {l : Launch} {e : Env} {R : Room} {s : State} {m : MethodId} {args : Array Value} {below : List Frame} {meth : Method} {c : Code} {H : Heap} {locs : List Loc} {cells slots : Nat} {Q : State → Prop}
variable {cc : ByteArray} {pc : Nat} {ba : Nat} {ak : Nat → Nat} {D : va_G} {g : Nat → ClassId} {lsR : Array Slot} {rest : List Value} {own : String}
theorem zv_iald_ok (hx : p.tables.exec = Jvm.exec) (hb : c.code = cc) (hK : va_K D vwCl (zv_tys g) s) {h : zv_H} (hR : zv_RH D g ba ak h H) {r : Nat} {j : Int} (hj : zv_rg j) (ho : r ≤ zv_n h ∧ (zv_lay r).1 = 2 ∧ 0 ≤ j ∧ j < (zv_lay r).2) (hdg : decode cc pc = .ok (.iaload, 1))
    (kk : W p l e R s m args below meth c H locs cells slots Q (F0 m (pc + 1) lsR (.int (Int32.ofInt (zv_I h r j.toNat)) :: rest))) : W p l e R s m args below meth c H locs cells slots Q (F0 m pc lsR (.int (Int32.ofInt j) :: va_rf (zv_ad ba ak r) :: rest)) := by
  obtain ⟨h1, h2, h3, h4⟩ := ho
  have hp := zv_lay_pos' (r := r) (by omega)
  rw [zv_ad_in hp h1 hR.2.2.2]
  exact va_iald hx hb hK hR.2.1 (r - 1) 0 (by rw [zv_ws_at hp h1, zv_el_2 h2]) rfl (zv_in hj h3 h4) hdg (by rw [zv_clamp hj h3]; exact kk)
theorem zv_bald_ok (hx : p.tables.exec = Jvm.exec) (hb : c.code = cc) (hK : va_K D vwCl (zv_tys g) s) {h : zv_H} (hR : zv_RH D g ba ak h H) {r : Nat} {j : Int} (hj : zv_rg j) (ho : r ≤ zv_n h ∧ ((zv_lay r).1 = 3 ∨ (zv_lay r).1 = 4) ∧ 0 ≤ j ∧ j < (zv_lay r).2) (hdg : decode cc pc = .ok (.baload, 1))
    (kk : W p l e R s m args below meth c H locs cells slots Q (F0 m (pc + 1) lsR (.int (Int32.ofInt (zv_I h r j.toNat)) :: rest))) : W p l e R s m args below meth c H locs cells slots Q (F0 m pc lsR (.int (Int32.ofInt j) :: va_rf (zv_ad ba ak r) :: rest)) := by
  obtain ⟨h1, h2, h3, h4⟩ := ho
  have hp := zv_lay_pos' (r := r) (by omega)
  rw [zv_ad_in hp h1 hR.2.2.2]
  rcases h2 with h2 | h2
  · exact va_zald hx hb hK hR.2.1 (r - 1) 1 (by rw [zv_ws_at hp h1, zv_el_3 h2]) rfl (zv_in hj h3 h4) hdg (by rw [zv_clamp hj h3]; exact kk)
  · exact va_bald hx hb hK hR.2.1 (r - 1) 2 (by rw [zv_ws_at hp h1, zv_el_4 h2]) rfl (zv_in hj h3 h4) hdg (by rw [zv_clamp hj h3]; exact kk)
theorem zv_lald_ok (hx : p.tables.exec = Jvm.exec) (hb : c.code = cc) (hK : va_K D vwCl (zv_tys g) s) {h : zv_H} (hR : zv_RH D g ba ak h H) {r : Nat} {j : Int} (hj : zv_rg j) (ho : r ≤ zv_n h ∧ (zv_lay r).1 = 5 ∧ 0 ≤ j ∧ j < (zv_lay r).2) (hdg : decode cc pc = .ok (.laload, 1))
    (kk : W p l e R s m args below meth c H locs cells slots Q (F0 m (pc + 1) lsR (.long (zv_J h r j.toNat) :: rest))) : W p l e R s m args below meth c H locs cells slots Q (F0 m pc lsR (.int (Int32.ofInt j) :: va_rf (zv_ad ba ak r) :: rest)) := by
  obtain ⟨h1, h2, h3, h4⟩ := ho
  have hp := zv_lay_pos' (r := r) (by omega)
  rw [zv_ad_in hp h1 hR.2.2.2]
  exact va_lald hx hb hK hR.2.1 (r - 1) 3 (by rw [zv_ws_at hp h1, zv_el_5 h2]) rfl (zv_in hj h3 h4) hdg (by rw [zv_clamp hj h3]; exact kk)
theorem zv_aald_ok (hx : p.tables.exec = Jvm.exec) (hb : c.code = cc) (hK : va_K D vwCl (zv_tys g) s) {h : zv_H} (hR : zv_RH D g ba ak h H) {r : Nat} {j : Int} (hj : zv_rg j) (ho : r ≤ zv_n h ∧ (zv_lay r).1 = 6 ∧ 0 ≤ j ∧ j < (zv_lay r).2) (hdg : decode cc pc = .ok (.aaload, 1))
    (kk : W p l e R s m args below meth c H locs cells slots Q (F0 m (pc + 1) lsR (va_rf (zv_ad ba ak (zv_R h r j.toNat)) :: rest))) : W p l e R s m args below meth c H locs cells slots Q (F0 m pc lsR (.int (Int32.ofInt j) :: va_rf (zv_ad ba ak r) :: rest)) := by
  obtain ⟨h1, h2, h3, h4⟩ := ho
  have hp := zv_lay_pos' (r := r) (by omega)
  rw [zv_ad_in hp h1 hR.2.2.2]
  exact va_aldq hx hb hK hR.2.1 (r - 1) 4 (C := "BranchedText$State") (by rw [zv_ws_at hp h1, zv_el_6 h2]) rfl (zv_in hj h3 h4) hdg (by rw [zv_clamp hj h3]; exact kk)
/-- an array's place is written -/
theorem zv_ast_back {h h' : zv_H} {r : Nat} {x : vp_A} {cA : ClassId} (hR : zv_RH D g ba ak h H) (hS : va_S (zv_Ac ba) s.heap H locs) (hsc : s.heap.size + cells = ba + zv_n h + 1) (hp : 1 ≤ r) (hn' : zv_n h' = zv_n h) (hg' : zv_hg h') (hel : zv_el g ba ak h' r = .inl (cA, x)) (hne : ∀ q, ¬ q = r → zv_el g ba ak h' q = zv_el g ba ak h q)
    (kk : ∀ H1 locs1, zv_RH D g ba ak h' H1 → va_S (zv_Ac ba) s.heap H1 locs1 → W p l e R s m args below meth c H1 locs1 cells slots Q (F0 m (pc + 1) lsR rest)) :
    ∀ (H1 : Heap) (locs1 : List Loc), va_P D vwCl ((zv_ws g ba ak h).set (r - 1) (ba + r, .inl (cA, x))) H1 → va_D (zv_Ac ba) ((zv_ws g ba ak h).set (r - 1) (ba + r, .inl (cA, x))) → va_S (zv_Ac ba) H H1 locs1 → W p l e R s m args below meth c H1 locs1 cells slots Q (F0 m (pc + 1) lsR rest) := by
  intro H1 locs1 q1 q2 q3
  rw [← hel, zv_ws_set hp hn' hne] at q1
  exact zv_back hR hS hsc hn' hg' (kk H1 locs1) q1 q3
theorem zv_iast_ok (hx : p.tables.exec = Jvm.exec) (hb : c.code = cc) (hK : va_K D vwCl (zv_tys g) s) {h : zv_H} (hR : zv_RH D g ba ak h H) (hS : va_S (zv_Ac ba) s.heap H locs) (hsc : s.heap.size + cells = ba + zv_n h + 1) {r : Nat} {j v : Int} (hj : zv_rg j) (hv : zv_rg v) (ho : r ≤ zv_n h ∧ (zv_lay r).1 = 2 ∧ 0 ≤ j ∧ j < (zv_lay r).2) (hdg : decode cc pc = .ok (.iastore, 1))
    (kk : ∀ H1 locs1, zv_RH D g ba ak (zv_sI h r j.toNat v) H1 → va_S (zv_Ac ba) s.heap H1 locs1 → W p l e R s m args below meth c H1 locs1 cells slots Q (F0 m (pc + 1) lsR rest)) : W p l e R s m args below meth c H locs cells slots Q (F0 m pc lsR (.int (Int32.ofInt v) :: .int (Int32.ofInt j) :: va_rf (zv_ad ba ak r) :: rest)) := by
  obtain ⟨h1, h2, h3, h4⟩ := ho
  have hp := zv_lay_pos' (r := r) (by omega)
  rw [zv_ad_in hp h1 hR.2.2.2]
  refine va_iast hx hb hK hR.2.1 (zv_ws_D g ba ak h) (zv_Srf hS) (r - 1) 0 (by rw [zv_ws_at hp h1, zv_el_2 h2]) rfl (zv_in hj h3 h4) hdg ?_
  refine zv_ast_back (h' := zv_sI h r j.toNat v) hR hS hsc hp rfl (zv_hg_sI hR.2.2.1 hv) ?_ (fun q hq => zv_el_sI hq) kk
  rw [zv_el_2 h2, zv_clamp hj h3]
  congr 3
  congr 1
  funext k
  unfold upd
  rw [zv_I_sI]
  by_cases hk : k = j.toNat
  · rw [if_pos hk, if_pos ⟨rfl, hk⟩]
  · rw [if_neg hk, if_neg (fun z => hk z.2)]
theorem zv_bast_ok (hx : p.tables.exec = Jvm.exec) (hb : c.code = cc) (hK : va_K D vwCl (zv_tys g) s) {h : zv_H} (hR : zv_RH D g ba ak h H) (hS : va_S (zv_Ac ba) s.heap H locs) (hsc : s.heap.size + cells = ba + zv_n h + 1) {r : Nat} {j v : Int} (hj : zv_rg j) (ho : r ≤ zv_n h ∧ ((zv_lay r).1 = 3 ∨ (zv_lay r).1 = 4) ∧ 0 ≤ j ∧ j < (zv_lay r).2) (hdg : decode cc pc = .ok (.bastore, 1))
    (kk : ∀ H1 locs1, zv_RH D g ba ak (zv_sI h r j.toNat (if (zv_lay r).1 = 3 then zv_nz v else zv_i2b v)) H1 → va_S (zv_Ac ba) s.heap H1 locs1 → W p l e R s m args below meth c H1 locs1 cells slots Q (F0 m (pc + 1) lsR rest)) : W p l e R s m args below meth c H locs cells slots Q (F0 m pc lsR (.int (Int32.ofInt v) :: .int (Int32.ofInt j) :: va_rf (zv_ad ba ak r) :: rest)) := by
  obtain ⟨h1, h2, h3, h4⟩ := ho
  have hp := zv_lay_pos' (r := r) (by omega)
  rw [zv_ad_in hp h1 hR.2.2.2]
  rcases h2 with h2 | h2
  · rw [if_pos h2] at kk
    refine va_zast hx hb hK hR.2.1 (zv_ws_D g ba ak h) (zv_Srf hS) (r - 1) 1 (by rw [zv_ws_at hp h1, zv_el_3 h2]) rfl (zv_in hj h3 h4) hdg ?_
    refine zv_ast_back (h' := zv_sI h r j.toNat (zv_nz v)) hR hS hsc hp rfl (zv_hg_sI hR.2.2.1 (zv_rg_nz v)) ?_ (fun q hq => zv_el_sI hq) kk
    rw [zv_el_3 h2, zv_clamp hj h3, zv_nar_z]
    congr 3
    congr 1
    funext k
    unfold upd
    rw [zv_I_sI]
    by_cases hk : k = j.toNat
    · rw [if_pos hk, if_pos ⟨rfl, hk⟩]
    · rw [if_neg hk, if_neg (fun z => hk z.2)]
  · rw [if_neg (by omega)] at kk
    refine va_bast hx hb hK hR.2.1 (zv_ws_D g ba ak h) (zv_Srf hS) (r - 1) 2 (by rw [zv_ws_at hp h1, zv_el_4 h2]) rfl (zv_in hj h3 h4) hdg ?_
    refine zv_ast_back (h' := zv_sI h r j.toNat (zv_i2b v)) hR hS hsc hp rfl (zv_hg_sI hR.2.2.1 (zv_rg_i2b v)) ?_ (fun q hq => zv_el_sI hq) kk
    rw [zv_el_4 h2, zv_clamp hj h3, zv_nar_b]
    congr 3
    congr 1
    funext k
    unfold upd
    rw [zv_I_sI]
    by_cases hk : k = j.toNat
    · rw [if_pos hk, if_pos ⟨rfl, hk⟩]
    · rw [if_neg hk, if_neg (fun z => hk z.2)]
theorem zv_last_ok (hx : p.tables.exec = Jvm.exec) (hb : c.code = cc) (hK : va_K D vwCl (zv_tys g) s) {h : zv_H} (hR : zv_RH D g ba ak h H) (hS : va_S (zv_Ac ba) s.heap H locs) (hsc : s.heap.size + cells = ba + zv_n h + 1) {r : Nat} {j : Int} {v : Int64} (hj : zv_rg j) (ho : r ≤ zv_n h ∧ (zv_lay r).1 = 5 ∧ 0 ≤ j ∧ j < (zv_lay r).2) (hdg : decode cc pc = .ok (.lastore, 1))
    (kk : ∀ H1 locs1, zv_RH D g ba ak (zv_sJ h r j.toNat v) H1 → va_S (zv_Ac ba) s.heap H1 locs1 → W p l e R s m args below meth c H1 locs1 cells slots Q (F0 m (pc + 1) lsR rest)) : W p l e R s m args below meth c H locs cells slots Q (F0 m pc lsR (.long v :: .int (Int32.ofInt j) :: va_rf (zv_ad ba ak r) :: rest)) := by
  obtain ⟨h1, h2, h3, h4⟩ := ho
  have hp := zv_lay_pos' (r := r) (by omega)
  rw [zv_ad_in hp h1 hR.2.2.2]
  refine va_last hx hb hK hR.2.1 (zv_ws_D g ba ak h) (zv_Srf hS) (r - 1) 3 (by rw [zv_ws_at hp h1, zv_el_5 h2]) rfl (zv_in hj h3 h4) hdg ?_
  refine zv_ast_back (h' := zv_sJ h r j.toNat v) hR hS hsc hp rfl hR.2.2.1 ?_ (fun q hq => zv_el_sJ hq) kk
  rw [zv_el_5 h2, zv_clamp hj h3]
  congr 4
  congr 1
  funext k
  unfold vp_updL
  rw [zv_J_sJ]
  by_cases hk : k = j.toNat
  · rw [if_pos hk, if_pos ⟨rfl, hk⟩]
  · rw [if_neg hk, if_neg (fun z => hk z.2)]
theorem zv_aast_ok (hx : p.tables.exec = Jvm.exec) (hb : c.code = cc) (hK : va_K D vwCl (zv_tys g) s) {h : zv_H} (hR : zv_RH D g ba ak h H) (hS : va_S (zv_Ac ba) s.heap H locs) (hsc : s.heap.size + cells = ba + zv_n h + 1) {r : Nat} {j : Int} {v : Nat} (hj : zv_rg j) (ho : (r ≤ zv_n h ∧ (zv_lay r).1 = 6 ∧ 0 ≤ j ∧ j < (zv_lay r).2) ∧ (v = 0 ∨ v ≤ zv_n h ∧ zv_lay v = (1, 5))) (hdg : decode cc pc = .ok (.aastore, 1))
    (kk : ∀ H1 locs1, zv_RH D g ba ak (zv_sR h r j.toNat v) H1 → va_S (zv_Ac ba) s.heap H1 locs1 → W p l e R s m args below meth c H1 locs1 cells slots Q (F0 m (pc + 1) lsR rest)) : W p l e R s m args below meth c H locs cells slots Q (F0 m pc lsR (va_rf (zv_ad ba ak v) :: .int (Int32.ofInt j) :: va_rf (zv_ad ba ak r) :: rest)) := by
  obtain ⟨⟨h1, h2, h3, h4⟩, hv⟩ := ho
  have hp := zv_lay_pos' (r := r) (by omega)
  rw [zv_ad_in hp h1 hR.2.2.2]
  have key : ∀ o, zv_ad ba ak v = o → zv_el g ba ak (zv_sR h r j.toNat v) r = .inl (g 6, (zv_lay r).2, .inr (.inr (.inr (.inr (va_up (fun k => zv_ad ba ak (zv_R h r k)) j.toNat o))))) := by
    intro o e
    rw [zv_el_6 h2]
    congr 5
    congr 2
    funext k
    unfold va_up
    rw [zv_R_sR]
    by_cases hk : k = j.toNat
    · rw [if_pos hk, if_pos ⟨rfl, hk⟩, e]
    · rw [if_neg hk, if_neg (fun z => hk z.2)]
  rcases hv with hv | ⟨hv1, hv2⟩
  · have e0 : zv_ad ba ak v = none := by
      unfold zv_ad
      rw [if_pos hv]
    rw [e0]
    refine va_astqN hx hb hK hR.2.1 (zv_ws_D g ba ak h) (zv_Srf hS) (r - 1) 4 (C := "BranchedText$State") (by rw [zv_ws_at hp h1, zv_el_6 h2]) rfl (zv_in hj h3 h4) hdg ?_
    rw [zv_clamp hj h3]
    exact zv_ast_back (h' := zv_sR h r j.toNat v) hR hS hsc hp rfl hR.2.2.1 (key none e0) (fun q hq => zv_el_sR hq) kk
  · have hq := zv_lay_pos hv2
    have e0 : zv_ad ba ak v = some (ba + v) := by
      unfold zv_ad
      have := hR.2.2.2
      rw [if_neg (by omega), if_pos (by omega)]
    rw [e0]
    refine va_astq hx hb hK hR.2.1 (zv_ws_D g ba ak h) (zv_Srf hS) (r - 1) 4 (v - 1) 5 (r := (RX5, TX5, 18)) (by rw [zv_ws_at hp h1, zv_el_6 h2]) rfl (by rw [zv_ws_at hq hv1, zv_el_obj hv2]) rfl (zv_in hj h3 h4) hdg ?_
    rw [zv_clamp hj h3]
    exact zv_ast_back (h' := zv_sR h r j.toNat v) hR hS hsc hp rfl hR.2.2.1 (key _ e0) (fun q hq => zv_el_sR hq) kk
end ZARR
end
