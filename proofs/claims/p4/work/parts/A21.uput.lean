/-! ===== the tie: the relation behind a put ===== -/
theorem zt_sum_up {f g : Nat → Int} {j : Nat} (hj : g j = f j - 1) : ∀ n : Nat, (∀ k, k < n → k ≠ j → g k = f k) → zm_sum g n = if j < n then zm_sum f n - 1 else zm_sum f n
  | 0, _ => rfl
  | n + 1, h => by
    have ih := zt_sum_up hj n (fun k hk => h k (by omega))
    show zm_sum g n + g n = if j < n + 1 then zm_sum f n + f n - 1 else zm_sum f n + f n
    by_cases e : n = j
    · subst e
      rw [if_neg (Nat.lt_irrefl _)] at ih
      rw [if_pos (by omega), ih, hj]
      omega
    · rw [h n (by omega) e]
      by_cases q : j < n
      · rw [if_pos q] at ih
        rw [if_pos (by omega), ih]
        omega
      · rw [if_neg q] at ih
        rw [if_neg (by omega), ih]
theorem zt_nst_new {c c' : Nat → Int} {s : Int} (W : zm_W c) (fr : zt_free c s) (n : zm_Nw c c' s) : zm_nst c' = zm_nst c + 1 := by
  have h1 := fr.1
  have e := zt_sum_up (f := fun k => zm_o c' k 0) (g := fun k => zm_o c k 0) (j := s.toNat) (by
    show zm_o c ((s.toNat : Nat) : Int) 0 = zm_o c' ((s.toNat : Nat) : Int) 0 - 1
    have h0 := (W.1.1 s h1.1 h1.2).resolve_right fr.2.2
    rw [show ((s.toNat : Nat) : Int) = s by omega, n.2.2.1, h0]
    rfl) 48 (fun k hk1 hk => (n.2.1 (k : Int) 0 (by omega) (by omega) (fun z => hk (by omega)) (by decide) (by decide)).symm)
  rw [if_pos (show s.toNat < 48 by omega)] at e
  have e' : zm_nst c = zm_nst c' - 1 := e
  omega
