/-! ===== the tie: words as numbers in base 27 ===== -/
/-- the last letter first, a as 1 -/
def zt_v27 : List Int → Int
  | [] => 0
  | x :: r => 27 * zt_v27 r + x
theorem zt_v27_0 : ∀ {r : List Int}, (∀ x ∈ r, 1 ≤ x ∧ x ≤ 26) → 0 ≤ zt_v27 r
  | [], _ => Int.le_refl _
  | x :: r, h => by
    have ih := zt_v27_0 (r := r) (fun y hy => h y (List.mem_cons_of_mem _ hy))
    have hx := h x List.mem_cons_self
    show 0 ≤ 27 * zt_v27 r + x
    generalize zt_v27 r = v at *
    clear h
    omega
theorem zt_v27_inj : ∀ {r s : List Int}, (∀ x ∈ r, 1 ≤ x ∧ x ≤ 26) → (∀ x ∈ s, 1 ≤ x ∧ x ≤ 26) → zt_v27 r = zt_v27 s → r = s
  | [], [], _, _, _ => rfl
  | [], y :: s, _, h2, e => by
    have v := zt_v27_0 (r := s) (fun z hz => h2 z (List.mem_cons_of_mem _ hz))
    have hy := h2 y List.mem_cons_self
    have e' : (0 : Int) = 27 * zt_v27 s + y := e
    generalize zt_v27 s = w at *
    clear h2 e
    omega
  | x :: r, [], h1, _, e => by
    have v := zt_v27_0 (r := r) (fun z hz => h1 z (List.mem_cons_of_mem _ hz))
    have hx := h1 x List.mem_cons_self
    have e' : 27 * zt_v27 r + x = (0 : Int) := e
    generalize zt_v27 r = w at *
    clear h1 e
    omega
  | x :: r, y :: s, h1, h2, e => by
    have hx := h1 x List.mem_cons_self
    have hy := h2 y List.mem_cons_self
    have e' : 27 * zt_v27 r + x = 27 * zt_v27 s + y := e
    have e2 : x = y ∧ zt_v27 r = zt_v27 s := by
      generalize zt_v27 r = v at *
      generalize zt_v27 s = w at *
      clear h1 h2 e
      omega
    rw [e2.1, zt_v27_inj (fun z hz => h1 z (List.mem_cons_of_mem _ hz)) (fun z hz => h2 z (List.mem_cons_of_mem _ hz)) e2.2]
def zt_b27 : Nat → Int
  | 0 => 0
  | j + 1 => 27 * zt_b27 j + 26
theorem zt_v27_b : ∀ {r : List Int}, (∀ x ∈ r, 1 ≤ x ∧ x ≤ 26) → zt_v27 r ≤ zt_b27 r.length
  | [], _ => Int.le_refl _
  | x :: r, h => by
    have ih := zt_v27_b (r := r) (fun y hy => h y (List.mem_cons_of_mem _ hy))
    have hx := h x List.mem_cons_self
    show 27 * zt_v27 r + x ≤ 27 * zt_b27 r.length + 26
    generalize zt_v27 r = v at *
    generalize zt_b27 r.length = w at *
    clear h
    omega
theorem zt_b27_9 : ∀ j : Nat, j ≤ 9 → zt_b27 j ≤ 7625597484986
  | 0, _ => by decide
  | 1, _ => by decide
  | 2, _ => by decide
  | 3, _ => by decide
  | 4, _ => by decide
  | 5, _ => by decide
  | 6, _ => by decide
  | 7, _ => by decide
  | 8, _ => by decide
  | 9, _ => by decide
  | j + 10, h => absurd h (by omega)
/-- the letters that stand there, the last first -/
def zt_rl8 (T : Nat → Int) (f : Nat) : Nat → List Int
  | 0 => []
  | j + 1 => (T (f + j) - 96) :: zt_rl8 T f j
theorem zt_rl8_len (T : Nat → Int) (f : Nat) : ∀ j, (zt_rl8 T f j).length = j
  | 0 => rfl
  | j + 1 => by
    show (zt_rl8 T f j).length + 1 = j + 1
    rw [zt_rl8_len T f j]
theorem zt_rl8_ok {T : Nat → Int} {f : Nat} : ∀ j, (∀ i : Nat, f ≤ i → i < f + j → zt_sm (T i)) → ∀ x ∈ zt_rl8 T f j, 1 ≤ x ∧ x ≤ 26
  | 0, _, x, hx => by cases hx
  | j + 1, h, x, hx => by
    rcases List.mem_cons.mp hx with q | q
    · have := h (f + j) (Nat.le_add_right _ _) (Nat.lt_succ_self _)
      unfold zt_sm at this
      rw [q]
      clear h hx q
      omega
    · exact zt_rl8_ok j (fun i h1 h2 => h i h1 (Nat.lt_succ_of_lt h2)) x q
theorem zt_rl8_inj {T : Nat → Int} {f : Nat} {l : List Int} : ∀ j, zt_rl8 T f j = (l.reverse.map fun x => x - 96) → j = l.length ∧ ∀ i : Nat, i < j → (zt_rl8 T f j)[j - 1 - i]? = some (T (f + i) - 96) := fun j e => by
  refine ⟨?_, ?_⟩
  · have h := congrArg List.length e
    rw [zt_rl8_len, List.length_map, List.length_reverse] at h
    exact h
  · clear e
    induction j with
    | zero => intro i hi; exact absurd hi (Nat.not_lt_zero _)
    | succ j ih =>
      intro i hi
      by_cases z : i = j
      · rw [z, show j + 1 - 1 - j = 0 by omega]
        rfl
      · have ij : i < j := by omega
        rw [show j + 1 - 1 - i = (j - 1 - i) + 1 by omega]
        exact ih i ij
