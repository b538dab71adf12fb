/-! the tables, checked: the words of this in general -/
theorem zv_lk_mem {α : Type} : ∀ (l : List (Nat × α)) (n : Nat) (a : α), zv_lk l n = some a → (n, a) ∈ l
  | [], n, a, h => by cases h
  | q :: l, n, a, h => by
    unfold zv_lk at h
    cases hb : Nat.beq q.1 n with
    | true =>
      rw [hb] at h
      have e1 : q.1 = n := Nat.eq_of_beq_eq_true hb
      have e2 : q.2 = a := Option.some.inj h
      rw [← e1, ← e2]
      exact List.mem_cons_self
    | false =>
      rw [hb] at h
      exact List.mem_cons_of_mem _ (zv_lk_mem l n a h)
/-- a class's pool says what is so -/
def zv_vPl (own : String) (P : zv_P) : Prop :=
  (∀ q ∈ P.1, (zv_ft q.2.1 q.2.2.1 = 4 ∧ Cond.fieldLink own q.1 "java/lang/String" "coder" "B" ∈ zv_tb) ∨ (zv_ft q.2.1 q.2.2.1 = 5 ∧ Cond.fieldLink own q.1 "java/lang/String" "value" "[B" ∈ zv_tb) ∨ ∃ C T N ty, zv_CF q.2.1 C T N ty ∧ q.2.2.1 < N ∧ (q.2.2.2 = false → Cond.fieldLink own q.1 C (T q.2.2.1).2.1 (T q.2.2.1).2.2.1 ∈ zv_tb) ∧ (q.2.2.2 = true → ∃ host, Cond.fieldLinkNest own q.1 C (T q.2.2.1).2.1 (T q.2.2.1).2.2.1 host ∈ tables_1)) ∧
  (∀ q ∈ P.2.1, (q.2.2.1 = 20 ∧ Cond.methodLink own q.1 Lib.objectInit ∈ zv_tb ∧ Cond.instanceMethod Lib.objectInit ∈ zv_tb ∧ Cond.code Lib.objectInit ⟨#[0xb1]⟩ 1 none ∈ zv_tb) ∨
    (q.2.2.1 = 21 ∧ Cond.methodLink own q.1 arraycopyName ∈ zv_tb ∧ Cond.native arraycopyName ∈ zv_tb ∧ Cond.static arraycopyName ∈ zv_tb ∧ Cond.initialized "java/lang/System" ∈ zv_tb) ∨
    (q.2.2.1 = 22 ∧ Cond.methodLink own q.1 Lib.Math.max.name ∈ zv_tb) ∨ (q.2.2.1 = 23 ∧ Cond.methodLink own q.1 Lib.Math.min.name ∈ zv_tb) ∨
    ∃ y bytes maxL ret, zv_inf q.2.1 = some (y, (bytes, (maxL, ret))) ∧ zv_vC own q.1 q.2 y bytes maxL ret) ∧
  (∀ q ∈ P.2.2.2.1, Cond.constantLong own q.1 q.2 ∈ zv_tb) ∧
  (∀ q ∈ P.2.2.2.2.1, q.2 < 24 ∧ zv_sown q.2 = own ∧ zv_six.getD q.2 0 = q.1) ∧
  (∀ q ∈ P.2.2.2.2.2, ∃ C T N ty, zv_CF q.2 C T N ty ∧ Cond.classLink own q.1 C ∈ zv_tb ∧ Cond.instantiable C N ∈ zv_tb ∧ Cond.initialized C ∈ zv_tb) ∧
  (∀ q ∈ P.2.2.1, q.2 = 1 ∧ Cond.fieldLink own q.1 "java/lang/String" "COMPACT_STRINGS" "Z" ∈ zv_tb)
def zv_fin (ci k : Nat) : Bool := match vwCl[ci]? with
  | some q => (q.2.1 k).2.2.2
  | none => true
def zv_chk (ci : Nat) (M : zv_M) : Bool :=
  (M.2.1.all fun q => match decode M.1.2.2.1 q.1 with
    | .ok (i, len) => decide (i = q.2) && (Nat.beq len (zv_len i) || zv_sw i)
    | .error _ => false) &&
  (M.2.1.all fun q => match q.2 with
    | .putfield ix => match zv_lk M.2.2.2.1 ix with
      | some f => !(zv_fin f.1 f.2.1) || (decide (M.1.2.1.name = "<init>") && (Nat.beq f.1 ci && !f.2.2))
      | none => true
    | _ => true) && Nat.ble M.1.2.2.2.1 40
theorem zv_vM_of {ci : Nat} {M : zv_M} {q : vw_C} (hq : vwCl[ci]? = some q) (hown : q.1 = M.1.1) (hpl : zv_vPl M.1.1 M.2.2.2) (hc : zv_chk ci M = true) : zv_vM M := by
  unfold zv_chk at hc
  simp only [Bool.and_eq_true] at hc
  obtain ⟨⟨h1, h2⟩, h3⟩ := hc
  obtain ⟨p1, p2, p3, p4, p5, p6⟩ := hpl
  refine ⟨fun pc i hi => ?_, fun ix f hf => ?_, fun ix e he => p2 _ (zv_lk_mem _ _ _ he), fun ix v hv => p3 _ (zv_lk_mem _ _ _ hv), fun ix k hk => p4 _ (zv_lk_mem _ _ _ hk), fun ix k hk => p5 _ (zv_lk_mem _ _ _ hk), Nat.le_of_ble_eq_true h3, fun ix v hv => p6 _ (zv_lk_mem _ _ _ hv)⟩
  · have := List.all_eq_true.mp h1 _ (zv_lk_mem _ _ _ hi)
    dsimp only at this
    split at this
    · rename_i i' len hd
      simp only [Bool.and_eq_true, Bool.or_eq_true, decide_eq_true_eq] at this
      refine ⟨len, by rw [hd, this.1], ?_⟩
      rw [← this.1]
      rcases this.2 with z | z
      · exact Or.inl (Nat.eq_of_beq_eq_true z)
      · exact Or.inr z
    · cases this
  · rcases p1 _ (zv_lk_mem _ _ _ hf) with z | z | ⟨C, T, N, ty, a1, a2, a3, a4⟩
    · exact Or.inl z
    · exact Or.inr (Or.inl z)
    refine Or.inr (Or.inr ⟨C, T, N, ty, a1, a2, ?_, fun pc hpc hfin => ?_⟩)
    · cases hb : f.2.2 with
      | false => exact Or.inl (a3 hb)
      | true => exact Or.inr (a4 hb)
    · have := List.all_eq_true.mp h2 _ (zv_lk_mem _ _ _ hpc)
      dsimp only at this
      rw [hf] at this
      dsimp only at this
      have hz : zv_fin f.1 f.2.1 = true := by
        unfold zv_fin
        rw [a1.1]
        exact hfin
      rw [hz] at this
      simp only [Bool.not_true, Bool.false_or, Bool.and_eq_true, decide_eq_true_eq, Bool.not_eq_true'] at this
      obtain ⟨b1, b2, b3⟩ := this
      refine ⟨a3 b3, b1, ?_⟩
      have e1 : f.1 = ci := Nat.eq_of_beq_eq_true b2
      have e2 := a1.1
      rw [e1] at e2
      have e3 := Option.some.inj (hq.symm.trans e2)
      rw [← hown, e3]
theorem zv_vM_of2 {M : zv_M} (hpl : zv_vPl M.1.1 M.2.2.2) (hf : ∀ q ∈ M.2.2.2.1, (zv_ft q.2.1 q.2.2.1 = 4 ∨ zv_ft q.2.1 q.2.2.1 = 5)) (hc : zv_chk 99 M = true) : zv_vM M := by
  unfold zv_chk at hc
  simp only [Bool.and_eq_true] at hc
  obtain ⟨⟨h1, h2⟩, h3⟩ := hc
  obtain ⟨p1, p2, p3, p4, p5, p6⟩ := hpl
  refine ⟨fun pc i hi => ?_, fun ix f hq => ?_, fun ix e he => p2 _ (zv_lk_mem _ _ _ he), fun ix v hv => p3 _ (zv_lk_mem _ _ _ hv), fun ix k hk => p4 _ (zv_lk_mem _ _ _ hk), fun ix k hk => p5 _ (zv_lk_mem _ _ _ hk), Nat.le_of_ble_eq_true h3, fun ix v hv => p6 _ (zv_lk_mem _ _ _ hv)⟩
  · have := List.all_eq_true.mp h1 _ (zv_lk_mem _ _ _ hi)
    dsimp only at this
    split at this
    · rename_i i' len hd
      simp only [Bool.and_eq_true, Bool.or_eq_true, decide_eq_true_eq] at this
      refine ⟨len, by rw [hd, this.1], ?_⟩
      rw [← this.1]
      rcases this.2 with z | z
      · exact Or.inl (Nat.eq_of_beq_eq_true z)
      · exact Or.inr z
    · cases this
  · rcases p1 _ (zv_lk_mem _ _ _ hq) with z | z | ⟨C, T, N, ty, a1, a2, a3, a4⟩
    · exact Or.inl z
    · exact Or.inr (Or.inl z)
    · exfalso
      have htk := a1.2.2.2.2.2.2 _ a2
      rcases hf _ (zv_lk_mem _ _ _ hq) with z | z <;> rw [z] at htk <;> exact htk.elim
