/-! how the small machine's values, locals and cells stand for the machine's -/
def zv_ad (ba : Nat) (ak : Nat → Nat) (r : Nat) : Option Nat := if r = 0 then none else some (if r < 1000000 then ba + r else ak r)
def zv_cv (ba : Nat) (ak : Nat → Nat) (v : zv_V) : Value := match v with
  | Sum.inl x => .int (Int32.ofInt x)
  | Sum.inr (Sum.inl x) => .long x
  | Sum.inr (Sum.inr r) => va_rf (zv_ad ba ak r)
def zv_vg (v : zv_V) : Prop := match v with
  | Sum.inl x => zv_rg x
  | _ => True
def zv_RL (ba : Nat) (ak : Nat → Nat) (lsR : Array Slot) (ls : zv_Ls) : Prop := lsR.size = ls.length ∧ lv_wf lsR ∧ ∀ i v, zv_ld ls i = some v → lsR[i]? = some (.val (zv_cv ba ak v)) ∧ zv_vg v
theorem zv_st_len : ∀ (l : zv_Ls) (n : Nat) (v : Option zv_V), (zv_st l n v).length = l.length
  | [], _, _ => rfl
  | _ :: _, 0, _ => rfl
  | _ :: l, n + 1, v => congrArg (· + 1) (zv_st_len l n v)
theorem zv_ld_st : ∀ (l : zv_Ls) (n : Nat) (v : Option zv_V) (k : Nat), zv_ld (zv_st l n v) k = if k = n ∧ n < l.length then v else zv_ld l k
  | [], n, v, k => by simp [zv_st, zv_ld]
  | a :: l, 0, v, 0 => by simp [zv_st, zv_ld]
  | a :: l, 0, v, k + 1 => by simp [zv_st, zv_ld]
  | a :: l, n + 1, v, 0 => by simp [zv_st, zv_ld]
  | a :: l, n + 1, v, k + 1 => by
    rw [zv_st, zv_ld, zv_ld_st l n v k, zv_ld]
    simp
theorem zv_ld_lt : ∀ (l : zv_Ls) (n : Nat) (v : zv_V), zv_ld l n = some v → n < l.length
  | [], n, v, h => by simp [zv_ld] at h
  | a :: l, 0, v, h => by simp
  | a :: l, n + 1, v, h => by
    have := zv_ld_lt l n v h
    simp
    omega
theorem zv_cr_len (l : zv_Ls) (n : Nat) : (zv_cr l n).length = l.length := by
  unfold zv_cr
  cases n with
  | zero => rfl
  | succ k =>
    dsimp only
    split
    · exact zv_st_len _ _ _
    · rfl
theorem zv_ld_cr {l : zv_Ls} {n k : Nat} {w : zv_V} (h : zv_ld (zv_cr l n) k = some w) : zv_ld l k = some w ∧ ¬ (k + 1 = n ∧ zv_two (some w) = true) := by
  unfold zv_cr at h
  cases n with
  | zero => exact ⟨h, by omega⟩
  | succ n =>
    dsimp only at h
    split at h
    · rename_i ht
      rw [zv_ld_st] at h
      split at h
      · cases h
      · rename_i hn
        refine ⟨h, fun q => ?_⟩
        have hkn : k = n := by omega
        subst hkn
        exact hn ⟨rfl, zv_ld_lt _ _ _ h⟩
    · rename_i ht
      refine ⟨h, fun q => ?_⟩
      have hkn : k = n := by omega
      subst hkn
      rw [h] at ht
      exact ht q.2
theorem zv_s1_len (l : zv_Ls) (n : Nat) (v : zv_V) : (zv_s1 l n v).length = l.length := by
  unfold zv_s1
  rw [zv_st_len, zv_cr_len]
theorem zv_s2_len (l : zv_Ls) (n : Nat) (v : Int64) : (zv_s2 l n v).length = l.length := by
  unfold zv_s2
  rw [zv_st_len, zv_st_len, zv_cr_len]
theorem zv_ld_s1 {l : zv_Ls} {n k : Nat} {v w : zv_V} (h : zv_ld (zv_s1 l n v) k = some w) : (k = n ∧ w = v) ∨ (¬ k = n ∧ zv_ld l k = some w ∧ ¬ (k + 1 = n ∧ zv_two (some w) = true)) := by
  have hl := zv_ld_lt _ _ _ h
  rw [zv_s1_len] at hl
  unfold zv_s1 at h
  rw [zv_ld_st, zv_cr_len] at h
  split at h
  · rename_i q
    exact Or.inl ⟨q.1, (Option.some.inj h).symm⟩
  · rename_i q
    have hkn : ¬ k = n := fun e => q ⟨e, by omega⟩
    exact Or.inr ⟨hkn, zv_ld_cr h⟩
theorem zv_ld_s2 {l : zv_Ls} {n k : Nat} {v : Int64} {w : zv_V} (h : zv_ld (zv_s2 l n v) k = some w) : (k = n ∧ w = zv_j v) ∨ (¬ k = n ∧ ¬ k = n + 1 ∧ zv_ld l k = some w ∧ ¬ (k + 1 = n ∧ zv_two (some w) = true)) := by
  have hl := zv_ld_lt _ _ _ h
  rw [zv_s2_len] at hl
  unfold zv_s2 at h
  rw [zv_ld_st, zv_st_len, zv_cr_len] at h
  split at h
  · cases h
  · rename_i q0
    have hk1 : ¬ k = n + 1 := fun e => q0 ⟨e, by omega⟩
    rw [zv_ld_st, zv_cr_len] at h
    split at h
    · rename_i q
      exact Or.inl ⟨q.1, (Option.some.inj h).symm⟩
    · rename_i q
      have hkn : ¬ k = n := fun e => q ⟨e, by omega⟩
      exact Or.inr ⟨hkn, hk1, zv_ld_cr h⟩
/-- the locals as a list of places and values -/
def zv_lst (ba : Nat) (ak : Nat → Nat) : Nat → zv_Ls → List (Nat × Value)
  | _, [] => []
  | k, none :: t => zv_lst ba ak (k + 1) t
  | k, some v :: t => (k, zv_cv ba ak v) :: zv_lst ba ak (k + 1) t
theorem zv_lst_of (ba : Nat) (ak : Nat → Nat) : ∀ (ls : zv_Ls) (k i : Nat) (v : zv_V), zv_ld ls i = some v → (k + i, zv_cv ba ak v) ∈ zv_lst ba ak k ls
  | [], k, i, v, h => by simp [zv_ld] at h
  | none :: t, k, 0, v, h => by simp [zv_ld] at h
  | some w :: t, k, 0, v, h => by
    simp only [zv_ld, Option.some.injEq] at h
    subst h
    exact List.mem_cons_self
  | none :: t, k, i + 1, v, h => by
    have := zv_lst_of ba ak t (k + 1) i v h
    rw [show k + (i + 1) = k + 1 + i by omega]
    exact this
  | some w :: t, k, i + 1, v, h => by
    have := zv_lst_of ba ak t (k + 1) i v h
    rw [show k + (i + 1) = k + 1 + i by omega]
    exact List.mem_cons_of_mem _ this
theorem zv_lst_to (ba : Nat) (ak : Nat → Nat) : ∀ (ls : zv_Ls) (k : Nat) (q : Nat × Value), q ∈ zv_lst ba ak k ls → ∃ i v, q = (k + i, zv_cv ba ak v) ∧ zv_ld ls i = some v
  | [], k, q, h => by cases h
  | none :: t, k, q, h => by
    obtain ⟨i, v, h1, h2⟩ := zv_lst_to ba ak t (k + 1) q h
    exact ⟨i + 1, v, by rw [h1]; congr 1; omega, h2⟩
  | some w :: t, k, q, h => by
    rcases List.mem_cons.mp h with h | h
    · exact ⟨0, w, h, rfl⟩
    · obtain ⟨i, v, h1, h2⟩ := zv_lst_to ba ak t (k + 1) q h
      exact ⟨i + 1, v, by rw [h1]; congr 1; omega, h2⟩
theorem zv_RL.has {ba : Nat} {ak : Nat → Nat} {lsR : Array Slot} {ls : zv_Ls} (h : zv_RL ba ak lsR ls) : lv_has lsR ls.length (zv_lst ba ak 0 ls) := by
  refine ⟨h.1, h.2.1, fun q hq => ?_⟩
  obtain ⟨i, v, rfl, h2⟩ := zv_lst_to ba ak ls 0 q hq
  rw [Nat.zero_add]
  exact (h.2.2 i v h2).1
theorem zv_cat (ba : Nat) (ak : Nat → Nat) (w : zv_V) : (zv_cv ba ak w).category = 2 ↔ zv_two (some w) = true := by
  rcases w with x | x | r
  · simp [zv_cv, zv_two, Value.category]
  · simp [zv_cv, zv_two, Value.category]
  · simp only [zv_cv, zv_two]
    unfold va_rf
    split <;> simp [Value.category]
theorem zv_RL.s1 {ba : Nat} {ak : Nat → Nat} {lsR lsR' : Array Slot} {ls : zv_Ls} {i : Nat} {v : zv_V} (h : zv_RL ba ak lsR ls) (hv : zv_vg v) (h' : lv_has lsR' ls.length ((i, zv_cv ba ak v) :: (zv_lst ba ak 0 ls).filter (fun q => !(q.1 == i) && !(q.1 + 1 == i && q.2.category == 2)))) : zv_RL ba ak lsR' (zv_s1 ls i v) := by
  refine ⟨by rw [h'.1, zv_s1_len], h'.2.1, fun k w hk => ?_⟩
  rcases zv_ld_s1 hk with ⟨rfl, rfl⟩ | ⟨h1, h2, h3⟩
  · exact ⟨h'.2.2 (k, _) List.mem_cons_self, hv⟩
  · refine ⟨h'.2.2 (k, zv_cv ba ak w) (List.mem_cons_of_mem _ (List.mem_filter.mpr ⟨?_, ?_⟩)), (h.2.2 k w h2).2⟩
    · have := zv_lst_of ba ak ls 0 k w h2
      rwa [Nat.zero_add] at this
    · have h4 : ¬ (k + 1 = i ∧ (zv_cv ba ak w).category = 2) := fun q => h3 ⟨q.1, (zv_cat ba ak w).mp q.2⟩
      simp only [Bool.and_eq_true, Bool.not_eq_true', beq_eq_false_iff_ne, ne_eq, Bool.and_eq_false_iff]
      refine ⟨h1, ?_⟩
      by_cases q : k + 1 = i
      · exact Or.inr fun z => h4 ⟨q, z⟩
      · exact Or.inl q
theorem zv_RL.s2 {ba : Nat} {ak : Nat → Nat} {lsR lsR' : Array Slot} {ls : zv_Ls} {i : Nat} {v : Int64} (h : zv_RL ba ak lsR ls) (h' : lv_has lsR' ls.length ((i, Value.long v) :: (zv_lst ba ak 0 ls).filter (fun q => !(q.1 == i) && (!(q.1 == i + 1) && !(q.1 + 1 == i && q.2.category == 2))))) : zv_RL ba ak lsR' (zv_s2 ls i v) := by
  refine ⟨by rw [h'.1, zv_s2_len], h'.2.1, fun k w hk => ?_⟩
  rcases zv_ld_s2 hk with ⟨rfl, rfl⟩ | ⟨h1, h0, h2, h3⟩
  · exact ⟨h'.2.2 (k, _) List.mem_cons_self, trivial⟩
  · refine ⟨h'.2.2 (k, zv_cv ba ak w) (List.mem_cons_of_mem _ (List.mem_filter.mpr ⟨?_, ?_⟩)), (h.2.2 k w h2).2⟩
    · have := zv_lst_of ba ak ls 0 k w h2
      rwa [Nat.zero_add] at this
    · have h4 : ¬ (k + 1 = i ∧ (zv_cv ba ak w).category = 2) := fun q => h3 ⟨q.1, (zv_cat ba ak w).mp q.2⟩
      simp only [Bool.and_eq_true, Bool.not_eq_true', beq_eq_false_iff_ne, ne_eq, Bool.and_eq_false_iff]
      refine ⟨h1, h0, ?_⟩
      by_cases q : k + 1 = i
      · exact Or.inr fun z => h4 ⟨q, z⟩
      · exact Or.inl q
theorem zv_msk_ld : ∀ (b : List Bool) (l : zv_Ls) (k : Nat) (w : zv_V), zv_ld (zv_msk b l) k = some w → zv_ld l k = some w
  | [], l, k, w, h => by
    cases l <;> exact h
  | true :: b, [], k, w, h => h
  | false :: b, [], k, w, h => h
  | true :: b, a :: l, 0, w, h => h
  | false :: b, a :: l, 0, w, h => by simp [zv_msk, zv_ld] at h
  | true :: b, a :: l, k + 1, w, h => zv_msk_ld b l k w h
  | false :: b, a :: l, k + 1, w, h => zv_msk_ld b l k w h
theorem zv_msk_len : ∀ (b : List Bool) (l : zv_Ls), (zv_msk b l).length = l.length
  | [], l => by cases l <;> rfl
  | true :: b, [] => rfl
  | false :: b, [] => rfl
  | true :: b, a :: l => congrArg (· + 1) (zv_msk_len b l)
  | false :: b, a :: l => congrArg (· + 1) (zv_msk_len b l)
theorem zv_RL.msk {ba : Nat} {ak : Nat → Nat} {lsR : Array Slot} {ls : zv_Ls} (h : zv_RL ba ak lsR ls) (b : List Bool) : zv_RL ba ak lsR (zv_msk b ls) :=
  ⟨by rw [h.1, zv_msk_len], h.2.1, fun k w hk => h.2.2 k w (zv_msk_ld b ls k w hk)⟩
