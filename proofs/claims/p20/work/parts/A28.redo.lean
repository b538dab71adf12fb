/-! ===== the tie: children of the class; redo ===== -/
theorem zt_sum_mono {p q : Nat → Int} : ∀ n : Nat, (∀ k, k < n → p k ≤ q k) → zm_sum p n ≤ zm_sum q n
  | 0, _ => Int.le_refl _
  | n + 1, h => by
    have ih := zt_sum_mono n (fun k hk => h k (by omega))
    have := h n (by omega)
    show zm_sum p n + p n ≤ zm_sum q n + q n
    omega
theorem zt_sum_lt {p q : Nat → Int} {j : Nat} (hs : p j + 1 ≤ q j) : ∀ n : Nat, j < n → (∀ k, k < n → p k ≤ q k) → zm_sum p n + 1 ≤ zm_sum q n
  | 0, h, _ => absurd h (Nat.not_lt_zero _)
  | n + 1, hj, h => by
    show zm_sum p n + p n + 1 ≤ zm_sum q n + q n
    by_cases e : j = n
    · have ih := zt_sum_mono n (fun k hk => h k (by omega))
      rw [e] at hs
      omega
    · have ih := zt_sum_lt hs n (by omega) (fun k hk => h k (by omega))
      have := h n (by omega)
      omega
/-- only what is newest may have changed -/
def zt_n14 (h : zv_H) (g : zv_H) : Prop := (g.1 = h.1) ∧ (g.2.2 = h.2.2) ∧ (∀ r k, ¬ (zv_lay r = (1, 5) ∧ k = 14) → zv_I g r k = zv_I h r k)
theorem zt_n14_f1 {h : zv_H} {g : zv_H} (t : zt_n14 h g) : g.1 = h.1 := t.1
theorem zt_n14_f2 {h : zv_H} {g : zv_H} (t : zt_n14 h g) : g.2.2 = h.2.2 := t.2.1
theorem zt_n14_i {h : zv_H} {g : zv_H} (t : zt_n14 h g) : ∀ r k, ¬ (zv_lay r = (1, 5) ∧ k = 14) → zv_I g r k = zv_I h r k := t.2.2
theorem zt_n14_r (h : zv_H) : zt_n14 h h := ⟨rfl, rfl, fun _ _ _ => rfl⟩
theorem zt_n14_t {h h1 h2 : zv_H} (f : zt_n14 h h1) (g : zt_n14 h1 h2) : zt_n14 h h2 := ⟨g.1.trans f.1, g.2.1.trans f.2.1, fun r k q => (g.2.2 r k q).trans (f.2.2 r k q)⟩
theorem zt_n14_I {h g : zv_H} {r : Nat} (f : zt_n14 h g) (lr : zv_lay r = (1, 5)) (v : Int) : zt_n14 h (zv_sI g r 14 v) := ⟨f.1, f.2.1, fun r' k q => (zy_In _ _ (fun z => q ⟨by rw [z.1]; exact lr, z.2⟩)).trans (f.2.2 r' k q)⟩
theorem zt_n14_q {h g : zv_H} (f : zt_n14 h g) : zt_q h g := by
  have f2 := zt_n14_f2 f
  exact ⟨zt_n14_f1 f, by rw [f2], fun r k hx _ => zt_n14_i f r k (fun q => hx (Or.inr (Or.inr (Or.inl q)))), fun r _ _ => by rw [f2], fun r _ _ _ => by rw [f2]⟩
theorem zt_n14_L {h g : zv_H} (f : zt_n14 h g) (gL : zt_L h) : zt_L g := by
  have f2 := zt_n14_f2 f
  exact zt_L_of (zt_n14_f1 f) (fun r k => by
    show g.2.2.2.1 r k = _
    rw [f2]; rfl) gL
section
variable {a : Nat} {c : Nat → Int} {h : zv_H}
theorem zt_fn2 {d : Nat} (gL : zt_L h) (la : zv_lay a = (1, 0)) {P : Option zv_V × zv_H → Prop} (fin : ∀ g, zt_n14 h g → (∀ j, j < 48 → zv_I g (zc_stt a j) 14 = 0) → zm_R (L0_findNewest_35 d a 0 g) P) : ∀ (n i : Nat) (g : zv_H), i + n = 48 → zt_n14 h g → (∀ j, j < i → zv_I g (zc_stt a j) 14 = 0) → zm_R (L0_findNewest_2 d a i g) P := by
  intro n
  induction n with
  | zero =>
    intro i g hi f z
    have e : i = 48 := by omega
    subst e
    rw [qL0_findNewest_2, if_neg (by decide)]
    exact fin g f z
  | succ n ih =>
    intro i g hi f z
    have L1 := zt_n14_L f gL
    have lS := (zc_stl la (show i < 48 by omega)).1
    have w1 : zv_w ((i : Int) + 1) = ((i + 1 : Nat) : Int) := by
      rw [zm_w (by omega)]
      rfl
    rw [qL0_findNewest_2, if_pos (by omega), zm_e (zl_gF L1 la 1 4), zm_e (zl_aS L1 la (by omega) (by omega)), show ((i : Nat) : Int).toNat = i by omega, if_neg (zc_nz lS), zm_e (zl_gF L1 la 1 4), zm_e (zl_aS L1 la (by omega) (by omega)), show ((i : Nat) : Int).toNat = i by omega, zm_e (zl_pI L1 lS 14 _), w1]
    refine ih (i + 1) _ (by omega) (zt_n14_I f lS _) (fun j hj => ?_)
    by_cases e : j = i
    · rw [e]; exact zy_I _ _ _ _
    · rw [zy_In _ _ (fun q => e (zc_stinj la q.1))]
      exact z j (by omega)
/-- the newest of those seen so far -/
def zt_mx (c : Nat → Int) (i t v : Int) : Prop := (v = 0 ∨ ∃ k, zm_st c k ∧ k < i ∧ zt_bl c t k ∧ zm_o c k 7 = v) ∧ 0 ≤ v ∧ ∀ k, zm_st c k → k < i → zt_bl c t k → zm_o c k 7 ≤ v
theorem zt_mx_s {i t v : Int} (m : zt_mx c i t v) (hi : zm_st c i) (b : zt_bl c t i) (h0 : 0 ≤ zm_o c i 7) : zt_mx c (i + 1) t (max v (zm_o c i 7)) := by
  obtain ⟨m1, m2, m3⟩ := m
  have key : ∀ k, zm_st c k → k < i + 1 → zt_bl c t k → zm_o c k 7 ≤ v ∨ zm_o c k 7 ≤ zm_o c i 7 := fun k k1 k2 k3 => by
    by_cases e : k = i
    · rw [e]; exact Or.inr (Int.le_refl _)
    · exact Or.inl (m3 k k1 (by omega) k3)
  by_cases le : v ≤ zm_o c i 7
  · rw [Int.max_eq_right le]
    refine ⟨Or.inr ⟨i, hi, by omega, b, rfl⟩, h0, fun k k1 k2 k3 => ?_⟩
    have := key k k1 k2 k3
    omega
  · rw [Int.max_eq_left (by omega)]
    refine ⟨?_, m2, fun k k1 k2 k3 => ?_⟩
    · rcases m1 with q | ⟨k, k1, k2, k3, k4⟩
      · exact Or.inl q
      · exact Or.inr ⟨k, k1, by omega, k3, k4⟩
    · have := key k k1 k2 k3
      omega
theorem zt_mx_n {i t v : Int} (m : zt_mx c i t v) (b : zm_st c i → ¬ zt_bl c t i) : zt_mx c (i + 1) t v := by
  obtain ⟨m1, m2, m3⟩ := m
  refine ⟨?_, m2, fun k k1 k2 k3 => ?_⟩
  · rcases m1 with q | ⟨k, k1, k2, k3, k4⟩
    · exact Or.inl q
    · exact Or.inr ⟨k, k1, by omega, k3, k4⟩
  · by_cases e : k = i
    · rw [e] at k1 k3
      exact absurd k3 (b k1)
    · exact m3 k k1 (by omega) k3
theorem zt_fn49 {d : Nat} (gL : zt_L h) (U : zt_U a c h) {i : Int} (hi : zm_st c i) {L : List Int} (hL : zm_Ln c L i) (vb : ∀ s, zm_st c s → 0 ≤ zm_o c s 7) (hst : ∀ t ∈ L, zm_st c t) (nd : L.Nodup) {P : Option zv_V × zv_H → Prop} (fin : ∀ g, zt_n14 h g → (∀ t, zm_st c t → zt_mx c (i + 1) t (zv_I g (zt_r a t) 14)) → zm_R (L0_findNewest_35 d a (zv_w (i + 1)) g) P) : ∀ (b pre : List Int) (s : Int), pre ++ b = L → zm_Ln c b s → ∀ g, zt_n14 h g → (∀ t, zm_st c t → t ∈ pre → zt_mx c (i + 1) t (zv_I g (zt_r a t) 14)) → (∀ t, zm_st c t → ¬ t ∈ pre → zt_mx c i t (zv_I g (zt_r a t) 14)) → zm_R (L0_findNewest_49 d a i (zt_r a i) (zt_r a s) g) P := by
  have la := zt_U_la U
  obtain ⟨li, eli⟩ := zm_Ln_h hL hi.1.1
  have bl : ∀ t, t ∈ L → zt_bl c t i := fun t ht => ⟨li, by rw [← eli]; exact hL, by rw [← eli]; exact ht⟩
  have nbl : ∀ t, ¬ t ∈ L → ¬ zt_bl c t i := fun t ht q => by
    obtain ⟨l2, h2, m2⟩ := q
    rw [zm_Ln_u h2 hL] at m2
    exact ht m2
  intro b
  induction b with
  | nil =>
    intro pre s e hs g f p1 p2
    rw [List.append_nil] at e
    rw [zt_r_n hs, qL0_findNewest_49, if_pos rfl]
    refine fin g f (fun t ht => ?_)
    by_cases q : t ∈ L
    · exact p1 t ht (by rw [e]; exact q)
    · exact zt_mx_n (p2 t ht (by rw [e]; exact q)) (fun _ => nbl t q)
  | cons u b ih =>
    intro pre s e hs g f p1 p2
    have es : s = u := hs.1.1
    subst es
    have hu : zm_st c s := hst s (by rw [← e]; exact List.mem_append_right _ List.mem_cons_self)
    have lU := zt_r_l la hu.1
    have lI := zt_r_l la hi.1
    have L1 := zt_n14_L f gL
    have n5 : ∀ k, ¬ k = 14 → ∀ r, zv_I g r k = zv_I h r k := fun k hk r => zt_n14_i f r k (fun q => hk q.2)
    have f2 := zt_n14_f2 f
    have eR : zv_R g (zt_r a s) 4 = zt_r a (zm_o c s 1) := by
      refine Eq.trans ?_ (zt_S_pa (zt_U_st U s hu))
      show g.2.2.2.1 _ _ = _
      rw [f2]; rfl
    rw [qL0_findNewest_49, if_neg (zt_r0 U hu), zm_e (zl_gI L1 lU 14), zm_e (zl_gI L1 lI 13), n5 13 (by decide), zt_S_vi (zt_U_st U i hi), zm_e (zl_pI L1 lU 14 _), zm_e (zl_gR (g := zv_sI g (zt_r a s) 14 (max (zv_I g (zt_r a s) 14) (zm_o c i 7))) L1 lU 4), show zv_R (zv_sI g (zt_r a s) 14 (max (zv_I g (zt_r a s) 14) (zm_o c i 7))) (zt_r a s) 4 = zt_r a (zm_o c s 1) from eR]
    have np : ¬ s ∈ pre := fun q => by
      rw [← e] at nd
      exact (List.nodup_append.mp nd).2.2 s q s List.mem_cons_self rfl
    have ne : ∀ t, zm_st c t → t ≠ s → zv_I (zv_sI g (zt_r a s) 14 (max (zv_I g (zt_r a s) 14) (zm_o c i 7))) (zt_r a t) 14 = zv_I g (zt_r a t) 14 := fun t ht q => zy_In _ _ (fun z => q (zt_r_inj la ht.1 hu.1 z.1))
    refine ih (pre ++ [s]) _ (by rw [List.append_assoc]; exact e) hs.2 _ (zt_n14_I f lU _) (fun t ht q => ?_) (fun t ht q => ?_)
    · by_cases z : t = s
      · rw [z, zy_I]
        exact zt_mx_s (p2 s hu np) hi (bl s (by rw [← e]; exact List.mem_append_right _ List.mem_cons_self)) (vb i hi)
      · rw [ne t ht z]
        rcases List.mem_append.mp q with w | w
        · exact p1 t ht w
        · exact absurd (List.mem_singleton.mp w) z
    · have z : t ≠ s := fun z => q (List.mem_append_right _ (List.mem_singleton.mpr z))
      rw [ne t ht z]
      exact p2 t ht (fun w => q (List.mem_append_left _ w))
theorem zt_fn35 {d : Nat} (gL : zt_L h) (U : zt_U a c h) (vb : ∀ s, zm_st c s → 0 ≤ zm_o c s 7) : ∀ (n i : Nat) (g : zv_H), i + n = 48 → zt_n14 h g → (∀ t, zm_st c t → zt_mx c i t (zv_I g (zt_r a t) 14)) → zm_R (L0_findNewest_35 (d + 1) a i g) (zm_V fun g' => zt_n14 h g' ∧ ∀ t, zm_st c t → zt_mx c 48 t (zv_I g' (zt_r a t) 14)) := by
  intro n
  induction n with
  | zero =>
    intro i g hi f m
    have e : i = 48 := by omega
    subst e
    rw [qL0_findNewest_35, if_neg (by decide)]
    exact zm_iV ⟨f, m⟩
  | succ n ih =>
    intro i g hi f m
    have L1 := zt_n14_L f gL
    have U1 := zt_U_q U (zt_n14_q f)
    have w1 : zv_w ((i : Int) + 1) = ((i + 1 : Nat) : Int) := by
      rw [zm_w (by omega)]
      rfl
    rw [qL0_findNewest_35, if_pos (by omega), zm_e (zt_at L1 U1 i)]
    dsimp only
    by_cases hs : zm_st c (i : Int)
    · rw [if_pos hs]
      obtain ⟨l, hl, ok, _⟩ := zt_line (zt_U_W U) hs
      refine zt_fn49 gL U hs hl vb ok.2.2.1 ok.1 (fun g2 f2 m2 => ?_) _ [] _ (List.nil_append _) hl g f (fun t _ q => (by cases q)) (fun t ht _ => m t ht)
      rw [w1]
      exact ih (i + 1) g2 (by omega) f2 m2
    · rw [if_neg hs, qL0_findNewest_49, if_pos rfl, w1]
      exact ih (i + 1) g (by omega) f (fun t ht => zt_mx_n (m t ht) (fun q => absurd q hs))
theorem zt_findNewest {d : Nat} (gL : zt_L h) (U : zt_U a c h) (vb : ∀ s, zm_st c s → 0 ≤ zm_o c s 7) : zm_R (C0_findNewest (d + 2) a h) (fun g => zt_n14 h g ∧ ∀ t, zm_st c t → zt_isla c t (zv_I g (zt_r a t) 14)) := by
  have la := zt_U_la U
  refine zm_cV (P := fun g => zt_n14 h g ∧ ∀ t, zm_st c t → zt_isla c t (zv_I g (zt_r a t) 14)) (fun e => lC0_findNewest (zl_ob gL la) e) ?_
  rw [qE0_findNewest]
  refine zt_fn2 (d := d + 1) gL la (fun g f z => ?_) 48 0 h (by omega) (zt_n14_r h) (fun j hj => absurd hj (Nat.not_lt_zero _))
  refine zm_mono (zt_fn35 (d := d) gL U vb 48 0 g (by omega) f (fun t ht => ?_)) ?_
  · have e := zt_r_p (a := a) ht.1.1
    rw [e, z _ (by have := ht.1; omega)]
    exact ⟨Or.inl rfl, Int.le_refl _, fun k k1 k2 => by have := k1.1; omega⟩
  · rintro ⟨ov, g'⟩ ⟨e, f', m⟩
    refine ⟨e, f', fun t ht => ?_⟩
    obtain ⟨m1, m2, m3⟩ := m t ht
    obtain ⟨l, hl, _⟩ := zt_line (zt_U_W U) ht
    have self : zt_bl c t t := ⟨l, hl, List.mem_cons_self⟩
    refine ⟨?_, fun k k1 k2 => m3 k k1 (by have := k1.1; omega) k2⟩
    rcases m1 with q | ⟨k, k1, k2, k3, k4⟩
    · have h1 := m3 t ht (by have := ht.1; omega) self
      have h2 := vb t ht
      exact ⟨t, ht, self, by dsimp only at q h1 ⊢; omega⟩
    · exact ⟨k, k1, k3, k4⟩
/-- the best of the children whose newest is ahead of a bound -/
def zt_bst (a : Nat) (c : Nat → Int) (s : Int) (f : Int → Int) (B : Int) (i : Int) (v : Nat) : Prop := (v = 0 ∧ ∀ t, t < i → zm_st c t → zm_o c t 1 = s → ¬ f t < B) ∨ ∃ m, v = zt_r a m ∧ zm_st c m ∧ zm_o c m 1 = s ∧ f m < B ∧ ∀ t, t < i → zm_st c t → zm_o c t 1 = s → f t < B → f t ≤ f m
theorem zt_nc5 {d : Nat} (gL : zt_L h) (U : zt_U a c h) {s : Int} (hs : zm_st c s) (f : Int → Int) (hf : ∀ t, zm_st c t → zv_I h (zt_r a t) 14 = f t) (B : Int) : ∀ (n i : Nat) (v : Nat), i + n = 48 → zt_bst a c s f B i v → zm_R (L0_newestChild_5 (d + 1) a (zt_r a s) B v i h) (zm_N fun v h' => h' = h ∧ zt_bst a c s f B 48 v) := by
  have la := zt_U_la U
  have W := zt_U_W U
  intro n
  induction n with
  | zero =>
    intro i v hi b
    have e : i = 48 := by omega
    subst e
    rw [qL0_newestChild_5, if_neg (by decide)]
    exact zm_iN ⟨rfl, b⟩
  | succ n ih =>
    intro i v hi b
    have w1 : zv_w ((i : Int) + 1) = ((i + 1 : Nat) : Int) := by
      rw [zm_w (by omega)]
      rfl
    have keep : (∀ t : Int, t = i → zm_st c t → zm_o c t 1 = s → ¬ f t < B) → zt_bst a c s f B ((i + 1 : Nat) : Int) v := fun no => by
      rcases b with ⟨b1, b2⟩ | ⟨m, b1, b2, b3, b4, b5⟩
      · refine Or.inl ⟨b1, fun t ht => ?_⟩
        by_cases z : t = i
        · exact no t z
        · exact b2 t (by omega)
      · refine Or.inr ⟨m, b1, b2, b3, b4, fun t ht t1 t2 t3 => ?_⟩
        by_cases z : t = i
        · exact absurd t3 (no t z t1 t2)
        · exact b5 t (by omega) t1 t2 t3
    rw [qL0_newestChild_5, if_pos (by omega), zm_e (zt_at gL U i), w1]
    dsimp only
    by_cases hi1 : zm_st c (i : Int)
    · rw [if_pos hi1]
      have lI := zt_r_l la hi1.1
      have ub := zt_par W hi1
      have b347 : ¬ 1000000 ≤ zt_r a (zm_o c i 1) := by
        by_cases z : zm_o c i 1 < 0
        · rw [zt_r_n z]; decide
        · have := zc_lt (zt_r_l la ⟨by omega, ub⟩) (by decide)
          omega
      rw [if_neg (zt_r0 U hi1), zm_e (zl_gR gL lI 4), zt_S_pa (zt_U_st U _ hi1), if_neg (fun q => by have := zt_r1000 U hs; omega)]
      by_cases c1 : zm_o c i 1 = s
      · rw [if_pos (by rw [c1]), zm_e (zl_gI gL lI 14), hf _ hi1]
        by_cases c2 : f i < B
        · rw [if_pos c2]
          rcases b with ⟨b1, b2⟩ | ⟨m, b1, b2, b3, b4, b5⟩
          · rw [if_pos b1]
            refine ih (i + 1) _ (by omega) (Or.inr ⟨i, rfl, hi1, c1, c2, fun t ht t1 t2 t3 => ?_⟩)
            by_cases z : t = i
            · rw [z]; exact Int.le_refl _
            · exact absurd t3 (b2 t (by omega) t1 t2)
          · rw [b1, if_neg (zt_r0 U b2), zm_e (zl_gI gL lI 14), zm_e (zl_gI gL (zt_r_l la b2.1) 14), hf _ hi1, hf _ b2]
            by_cases c3 : f i ≤ f m
            · rw [if_pos c3]
              refine ih (i + 1) _ (by omega) (Or.inr ⟨m, rfl, b2, b3, b4, fun t ht t1 t2 t3 => ?_⟩)
              by_cases z : t = i
              · rw [z]; exact c3
              · exact b5 t (by omega) t1 t2 t3
            · rw [if_neg c3]
              refine ih (i + 1) _ (by omega) (Or.inr ⟨i, rfl, hi1, c1, c2, fun t ht t1 t2 t3 => ?_⟩)
              by_cases z : t = i
              · rw [z]; exact Int.le_refl _
              · have := b5 t (by omega) t1 t2 t3
                omega
        · rw [if_neg c2]
          exact ih (i + 1) v (by omega) (keep (fun t z _ _ => by rw [z]; exact c2))
      · have n1 : ¬ zt_r a (zm_o c i 1) = zt_r a s := fun q => by
          by_cases z : zm_o c i 1 < 0
          · rw [zt_r_n z] at q
            exact zt_r0 U hs q.symm
          · exact c1 (zt_r_inj la ⟨by omega, ub⟩ hs.1 q)
        rw [if_neg n1]
        exact ih (i + 1) v (by omega) (keep (fun t z _ q => by rw [z] at q; exact absurd q c1))
    · rw [if_neg hi1, if_pos rfl]
      exact ih (i + 1) v (by omega) (keep (fun t z q => by rw [z] at q; exact absurd q hi1))
theorem zt_newestChild {d : Nat} (gL : zt_L h) (U : zt_U a c h) {s : Int} (hs : zm_st c s) (f : Int → Int) (hf : ∀ t, zm_st c t → zv_I h (zt_r a t) 14 = f t) (B : Int) : ∃ v, C0_newestChild (d + 2) a (zt_r a s) B h = some (v, h) ∧ zt_bst a c s f B 48 v := by
  obtain ⟨q, e, w⟩ := zm_cN (P := fun v h' => h' = h ∧ zt_bst a c s f B 48 v) (fun e => lC0_newestChild (d := d + 1) (a0 := a) (a1 := zt_r a s) (a2 := B) (zl_ob gL (zt_U_la U)) e) (by
    rw [qE0_newestChild]
    exact zt_nc5 gL U hs f hf B 48 0 0 (by omega) (Or.inl ⟨rfl, fun t ht t1 => by have := t1.1; omega⟩))
  refine ⟨q.1, ?_, w.2⟩
  rw [e]
  have w1 := w.1
  obtain ⟨q1, q2⟩ := q
  dsimp only at w1
  rw [w1]
/-- how many children have at least that -/
def zt_cge (c : Nat → Int) (s : Int) (f : Int → Int) (B : Int) : Int := zm_sum (fun m => if zm_st c m ∧ zm_o c m 1 = s ∧ B ≤ f m then 1 else 0) 48
theorem zt_ind {p q : Prop} [Decidable p] [Decidable q] (h : p → q) : (if p then (1 : Int) else 0) ≤ if q then 1 else 0 := by
  by_cases hp : p
  · rw [if_pos hp, if_pos (h hp)]
    exact Int.le_refl _
  · rw [if_neg hp]
    split <;> omega
theorem zt_ind2 {p q : Prop} [Decidable p] [Decidable q] (h : p ↔ q) : (if p then (1 : Int) else 0) = if q then 1 else 0 := by
  by_cases hp : p
  · rw [if_pos hp, if_pos (h.mp hp)]
  · rw [if_neg hp, if_neg (fun z => hp (h.mpr z))]
theorem zt_co34 {d : Nat} (gL : zt_L h) (U : zt_U a c h) {s : Int} (hs : zm_st c s) (f : Int → Int) (hf : ∀ t, zm_st c t → zv_I h (zt_r a t) 14 = f t) (inj : ∀ k m, zm_st c k → zm_st c m → zm_o c k 1 = s → zm_o c m 1 = s → f k = f m → k = m) {n : Int} (hn : 0 ≤ n ∧ n < 1000) : ∀ (r : Nat) (j : Int) (B : Int) (v : Nat), 0 ≤ j → j + r = n + 1 → zt_cge c s f B = j → (1 ≤ j → ∃ k, v = zt_r a k ∧ zm_st c k ∧ zm_o c k 1 = s ∧ f k = B ∧ zt_rank c s f k = j - 1) → zm_R (L0_childOf_34 (d + 2) a (zt_r a s) n v B j h) (zm_N fun v h' => h' = h ∧ ((v = 0 ∧ ∀ k, zm_st c k → zm_o c k 1 = s → zt_rank c s f k ≠ n) ∨ ∃ k, v = zt_r a k ∧ zm_st c k ∧ zm_o c k 1 = s ∧ zt_rank c s f k = n)) := by
  have la := zt_U_la U
  intro r
  induction r with
  | zero =>
    intro j B v j0 hj ec ek
    rw [qL0_childOf_34, if_neg (by omega)]
    obtain ⟨k, k1, k2, k3, k4, k5⟩ := ek (by omega)
    exact zm_iN ⟨rfl, Or.inr ⟨k, k1, k2, k3, by omega⟩⟩
  | succ r ih =>
    intro j B v j0 hj ec ek
    obtain ⟨v2, e2, b⟩ := zt_newestChild (d := d) gL U hs f hf B
    rw [qL0_childOf_34, if_pos (by omega), zm_e e2]
    dsimp only
    rcases b with ⟨b1, b2⟩ | ⟨m, b1, b2, b3, b4, b5⟩
    · rw [if_pos b1]
      refine zm_iN ⟨rfl, Or.inl ⟨rfl, fun k k1 k2 q => ?_⟩⟩
      have fk := b2 k (by have := k1.1; omega) k1 k2
      have lt := zt_sum_lt (p := fun m => if zm_st c m ∧ zm_o c m 1 = s ∧ f k < f m then 1 else 0) (q := fun m => if zm_st c m ∧ zm_o c m 1 = s ∧ B ≤ f m then 1 else 0) (j := k.toNat) (by
        have ek : ((k.toNat : Nat) : Int) = k := by have := k1.1; omega
        rw [ek, if_neg (fun z => by have := z.2.2; omega), if_pos ⟨k1, k2, by omega⟩]
        decide) 48 (by have := k1.1; omega) (fun i _ => zt_ind (fun z => ⟨z.1, z.2.1, by have := z.2.2; omega⟩))
      have e1 : zt_rank c s f k + 1 ≤ zt_cge c s f B := lt
      omega
    · rw [b1, if_neg (zt_r0 U b2), zm_e (zl_gI gL (zt_r_l la b2.1) 14), hf _ b2, zm_w (by omega)]
      have em : ((m.toNat : Nat) : Int) = m := by have := b2.1; omega
      have m48 : m.toNat < 48 := by have := b2.1; omega
      have ec2 : zt_cge c s f (f m) = j + 1 := by
        have up := zt_sum_up (f := fun x => if zm_st c x ∧ zm_o c x 1 = s ∧ f m ≤ f x then 1 else 0) (g := fun x => if zm_st c x ∧ zm_o c x 1 = s ∧ B ≤ f x then 1 else 0) (j := m.toNat) (by
          rw [em, if_neg (fun z => by have := z.2.2; omega), if_pos ⟨b2, b3, Int.le_refl _⟩]
          rfl) 48 (fun x hx hxm => zt_ind2 ⟨fun z => ⟨z.1, z.2.1, by have := z.2.2; omega⟩, fun z => ⟨z.1, z.2.1, by
            have z3 := z.2.2
            by_cases lt : f (x : Int) < B
            · have := b5 (x : Int) (by omega) z.1 z.2.1 lt
              have e3 := inj (x : Int) m z.1 b2 z.2.1 b3 (by omega)
              omega
            · omega⟩⟩)
        rw [if_pos m48] at up
        have e1 : zt_cge c s f B = zt_cge c s f (f m) - 1 := up
        omega
      have er : zt_rank c s f m = j := by
        have eq : zt_rank c s f m = zt_cge c s f B := zm_sum_cg 48 (fun x hx => zt_ind2 ⟨fun z => ⟨z.1, z.2.1, by
          have z3 := z.2.2
          by_cases lt : f (x : Int) < B
          · have := b5 (x : Int) (by omega) z.1 z.2.1 lt
            omega
          · omega⟩, fun z => ⟨z.1, z.2.1, by have := z.2.2; omega⟩⟩)
        omega
      exact ih (j + 1) (f m) _ (by omega) (by omega) ec2 (fun _ => ⟨m, rfl, b2, b3, rfl, by omega⟩)
/-- the n-th child: of the class -/
theorem zt_C0_childOf {d : Nat} (gL : zt_L h) (H : zt_H a c h) (b : c 2 < 2000000000) {s : Int} (hs : zm_st c s) {n : Int} (hn : n < 1000) (f : Int → Int) (hf : ∀ t, zm_st c t → zt_isla c t (f t)) : ∃ v g, C0_childOf (d + 3) a (zt_r a s) n h = some (v, g) ∧ zt_n14 h g ∧ ((v = 0 ∧ ∀ k, zm_st c k → zm_o c k 1 = s → zt_rank c s f k ≠ n) ∨ ∃ k, v = zt_r a k ∧ zm_st c k ∧ zm_o c k 1 = s ∧ zt_rank c s f k = n) := by
  have U := zt_H_U H
  have la := zt_U_la U
  have W := zt_U_W U
  have V := zt_H_V H
  have c0 := zt_V_c0 V
  have lS := zt_r_l la hs.1
  have rk0 : ∀ k, 0 ≤ zt_rank c s f k := fun k => by
    have := zm_sum_b (f := fun m => if zm_st c m ∧ zm_o c m 1 = s ∧ f k < f m then 1 else 0) (a := 0) (b := 1) 48 (fun j _ => by
      split <;> omega)
    unfold zt_rank
    omega
  have go : zm_R (E0_childOf (d + 2) a (zt_r a s) n h) (zm_N fun v g => zt_n14 h g ∧ ((v = 0 ∧ ∀ k, zm_st c k → zm_o c k 1 = s → zt_rank c s f k ≠ n) ∨ ∃ k, v = zt_r a k ∧ zm_st c k ∧ zm_o c k 1 = s ∧ zt_rank c s f k = n)) := by
    rw [qE0_childOf]
    refine zm_if (fun q => zm_iN ⟨zt_n14_r h, Or.inl ⟨rfl, fun k _ _ z => by have := rk0 k; omega⟩⟩) (fun n0 => ?_)
    rw [zm_e (zl_gI gL lS 11), zt_S_ch (zt_U_st U s hs)]
    refine zm_if (fun _ => ?_) (fun q => zm_iN ⟨zt_n14_r h, Or.inl ⟨rfl, fun k k1 k2 z => ?_⟩⟩)
    · obtain ⟨g, e1, f1, i1⟩ := zt_findNewest (d := d) gL U (fun t ht => (zt_V_vb V t ht).1)
      have L1 := zt_n14_L f1 gL
      have U1 := zt_U_q U (zt_n14_q f1)
      have ef : ∀ t, zm_st c t → zv_I g (zt_r a t) 14 = f t := fun t ht => zt_isla_u (i1 t ht) (hf t ht)
      have ec : zv_I g (a + 17) 4 = c 2 := by
        rw [zt_n14_i f1 _ _ (fun q => absurd q.2 (by decide))]
        exact zt_V_ct V
      rw [zm_e e1, zm_e (zl_gF L1 la 7 17), zm_e (zl_gI L1 (zt_vis_l la).1 4), ec, zm_w (by omega)]
      have z0 : zt_cge c s f (c 2 + 1) = 0 := by
        have e0 : zt_cge c s f (c 2 + 1) = zm_sum (fun _ => (0 : Int)) 48 := zm_sum_cg 48 (fun x hx => if_neg (fun z => by
          obtain ⟨⟨k, k1, k2, k3⟩, _⟩ := hf (x : Int) z.1
          have := (zt_V_vb V k k1).2
          have := z.2.2
          omega))
        rw [e0]
        rfl
      refine zm_mono (zt_co34 (d := d) L1 U1 hs f ef (fun k m k1 m1 k2 m2 e => zt_la_inj W (zt_V_vd V) k1 m1 k2 m2 (hf k k1) (by rw [e]; exact hf m m1)) ⟨by omega, hn⟩ (n + 1).toNat 0 (c 2 + 1) 0 (Int.le_refl _) (by omega) z0 (fun q => absurd q (by decide))) ?_
      rintro ⟨ov, g'⟩ ⟨v, e, eg, w⟩
      dsimp only at e eg
      subst eg
      exact ⟨v, e, f1, w⟩
    · have lt := zt_sum_lt (p := fun m => if zm_st c m ∧ zm_o c m 1 = s ∧ f k < f m then 1 else 0) (q := fun m => if zm_st c m ∧ zm_o c m 1 = s then 1 else 0) (j := k.toNat) (by
        have ek : ((k.toNat : Nat) : Int) = k := by have := k1.1; omega
        rw [ek, if_neg (fun z => by have := z.2.2; omega), if_pos ⟨k1, k2⟩]
        decide) 48 (by have := k1.1; omega) (fun i _ => zt_ind (fun z => ⟨z.1, z.2.1⟩))
      have e1 : zt_rank c s f k + 1 ≤ zm_nch c s := lt
      omega
  obtain ⟨q, e, w⟩ := zm_cN (P := fun v g => zt_n14 h g ∧ ((v = 0 ∧ ∀ k, zm_st c k → zm_o c k 1 = s → zt_rank c s f k ≠ n) ∨ ∃ k, v = zt_r a k ∧ zm_st c k ∧ zm_o c k 1 = s ∧ zt_rank c s f k = n)) (fun e => lC0_childOf (d := d + 2) (a0 := a) (a1 := zt_r a s) (a2 := n) (zl_ob gL la) e) go
  exact ⟨q.1, q.2, e, w.1, w.2⟩
end
/-- both find the same child, or none -/
theorem zt_rank_u {c : Nat → Int} {s : Int} {f : Int → Int} (inj : ∀ k m, zm_st c k → zm_st c m → zm_o c k 1 = s → zm_o c m 1 = s → f k = f m → k = m) {k m : Int} (hk : zm_st c k) (hm : zm_st c m) (pk : zm_o c k 1 = s) (pm : zm_o c m 1 = s) (e : zt_rank c s f k = zt_rank c s f m) : k = m := by
  have lt : ∀ x y, zm_st c x → zm_st c y → zm_o c x 1 = s → zm_o c y 1 = s → f x < f y → zt_rank c s f y + 1 ≤ zt_rank c s f x := fun x y hx hy px py l => zt_sum_lt (p := fun m => if zm_st c m ∧ zm_o c m 1 = s ∧ f y < f m then 1 else 0) (q := fun m => if zm_st c m ∧ zm_o c m 1 = s ∧ f x < f m then 1 else 0) (j := y.toNat) (by
    have ek : ((y.toNat : Nat) : Int) = y := by have := hy.1; omega
    rw [ek, if_neg (fun z => by have := z.2.2; omega), if_pos ⟨hy, py, l⟩]
    decide) 48 (by have := hy.1; omega) (fun i _ => zt_ind (fun z => ⟨z.1, z.2.1, by have := z.2.2; omega⟩))
  by_cases e1 : f k = f m
  · exact inj k m hk hm pk pm e1
  · by_cases l : f k < f m
    · have := lt k m hk hm pk pm l; omega
    · have := lt m k hm hk pm pk (by omega); omega
theorem zj_child {d D : Nat} {a : Nat} {c : Nat → Int} {g k : zv_H} (hA : zc_A g) (H : zt_H a c g) (hM : zm_M k) (hc : zv_I k 348 = c) (b : c 2 < 2000000000) {s : Int} (hs : zm_st c s) {n : Int} (rn : zv_rg n) (hn : n < 1000) : ∃ v g' v', C0_childOf (d + 3) a (zt_r a s) n g = some (v, g') ∧ zt_n14 g g' ∧ zc_Q g g' ∧ C9_childOf (D + 4) 347 s n k = some (v', k) ∧ ((v = 0 ∧ v' = -1) ∨ (zm_st c v' ∧ zm_o c v' 1 = s ∧ v = zt_r a v')) := by
  have W := zt_U_W (zt_H_U H)
  have la := zt_U_la (zt_H_U H)
  obtain ⟨f, hf⟩ := zt_la_ex hM hc W
  obtain ⟨v, g', e1, n1, r1⟩ := zt_C0_childOf (d := d) (zt_L_A hA) H b hs hn f hf
  obtain ⟨q, e3, Q, _⟩ := zc_childOf (d := d) hA la (zt_r_l la hs.1) rn
  have eq := Option.some.inj (e1.symm.trans e3)
  subst eq
  obtain ⟨v', e2, r2⟩ := zt_childOf hM hc W D s n f hf
  refine ⟨v, g', v', e1, n1, Q, e2, ?_⟩
  rcases r1 with ⟨a1, a2⟩ | ⟨m, a1, a2, a3, a4⟩
  · rcases r2 with ⟨b1, _⟩ | ⟨b1, b2, b3⟩
    · exact Or.inl ⟨a1, b1⟩
    · exact absurd b3 (a2 v' b1 b2)
  · rcases r2 with ⟨_, b2⟩ | ⟨b1, b2, b3⟩
    · exact absurd a4 (b2 m a2 a3)
    · have e := zt_rank_u (fun k m k1 m1 k2 m2 e => zt_la_inj W (zt_V_vd (zt_H_V H)) k1 m1 k2 m2 (hf k k1) (by rw [e]; exact hf m m1)) a2 b1 a3 b2 (a4.trans b3.symm)
      rw [← e]
      exact Or.inr ⟨a2, a3, a1⟩
theorem zt_Z_pre {a : Nat} {y : Int} {g g1 k : zv_H} {q q' : Int × zv_H} (X : zc_X g g1) (kk : zt_k a g g1) (Z : zt_Z a y g1 k q q') : zt_Z a y g k q q' := by
  have X2 := zt_Z_X Z
  have k2 := zt_Z_k Z
  exact ⟨zc_X_t X X2, zt_k_t kk k2, zt_Z_F Z, zt_Z_a1 Z, zt_Z_H Z, zt_Z_g1 Z, zt_Z_g2 Z⟩
theorem zt_st_Ln {c : Nat → Int} {s x : Int} {l : List Int} (hl : zm_Ln c (s :: l) s) (hx : zm_st c x) (e : zm_o c x 1 = s) : zm_Ln c (x :: s :: l) x := by
  have := hx.1
  refine ⟨⟨rfl, by omega, by omega⟩, ?_⟩
  rw [e]
  exact hl
theorem zj_redo26 {d D : Nat} {a : Nat} {c : Nat → Int} {g k : zv_H} (H : zt_H a c g) (hM : zm_M k) (hc : zv_I k 348 = c) (b : c 2 < 2000000000) {fi : Int} : ∀ (n : Nat) (i : Int) (s x : Int) (l : List Int) (v : Nat) (g1 : zv_H), zm_Ln c (s :: l) s → zm_st c s → c 0 ∈ l → 48 ≤ n + l.length → (0 ≤ i ∧ i + 1 ≤ l.length) → zm_o c s 6 = fi → zc_Q g g1 → zt_n14 g g1 → ((v = 0 ∧ x = -1) ∨ (zm_st c x ∧ zm_o c x 1 = s ∧ v = zt_r a x)) → ∃ q q', L0_stepOn_26 (d + 3) a (zt_r a s) v i g1 = some (some (zv_i q.1), q.2) ∧ L9_redoNow_35 (D + 4) 347 s fi x k = some (some (zv_i q'.1), q'.2) ∧ zt_Z a 1 g k q q' := by
  have U := zt_H_U H
  have W := zt_U_W U
  have la := zt_U_la U
  intro n
  induction n with
  | zero =>
    intro i s x l v g1 hl hs _ hn
    have := zt_dep W hs hl
    omega
  | succ n ih =>
    intro i s x l v g1 hl hs m0 hn hi e6 Q n1 hv
    have L1 := zt_L_A Q.2
    have H1 := zt_H_q H (zt_n14_q n1)
    have U1 := zt_H_U H1
    have dep := zt_dep W hs hl
    have ne : s ≠ c 0 := fun e => by
      have nd := (zt_line_u W hs hl).1.1
      rw [e] at nd
      exact (List.nodup_cons.mp nd).1 m0
    have s0 : s ≠ 0 := fun e => by
      have h1 : zm_o c 0 1 = -1 := W.1.2.1.2.1
      have h2 := hl.2
      rw [e, h1] at h2
      cases l with
      | nil => cases m0
      | cons y l =>
        have e3 : (-1 : Int) = y := h2.1.1
        have := h2.1.2.1
        omega
    have last : ∃ q q', L0_stepOn_62 (d + 3) a (zt_r a s) g1 = some (some (zv_i q.1), q.2) ∧ L9_redoNow_62 (D + 4) 347 s k = some (some (zv_i q'.1), q'.2) ∧ zt_Z a 1 g k q q' := by
      obtain ⟨k', e1, F1, c1⟩ := zm_visits hM hc (D + 2) hs.1
      rw [if_neg ne] at c1
      refine ⟨(s, zt_mv a c s g1), (s, k'), ?_, ?_, zt_Z_pre (zc_QX Q) (zt_q_k a (zt_n14_q n1)) (zt_Z_mv Q.2 H1 hc b hs ne F1 c1 hs.1.1)⟩
      · rw [qL0_stepOn_62, zm_e (zt_C0_moveTo L1 U1 (zt_h0 H1) hs), zm_e (zl_gI (zt_mv_L L1 la) (zt_r_l la hs.1) 0), zt_mv_num U1 hs]
      · rw [qL9_redoNow_62, zm_e e1]
    rw [qL0_stepOn_26, if_pos (by omega), qL9_redoNow_35]
    rcases hv with ⟨v0, x0⟩ | ⟨hx, px, vx⟩
    · rw [if_pos v0, if_pos (by omega)]
      exact last
    · have x0 : x ≠ 0 := fun e => by
        have h1 : zm_o c 0 1 = -1 := W.1.2.1.2.1
        rw [e, h1] at px
        have := hs.1
        omega
      have lX := zt_r_l la hx.1
      have lS := zt_r_l la hs.1
      have fx := (zm_fp W.1 hx x0).1
      have fs := (zm_fp W.1 hs s0).1
      rw [vx, if_neg (zt_r0 U hx), zm_e (zl_gR L1 lX 5), zm_e (zl_gR L1 lS 5), zt_S_fi (zt_U_st U1 x hx), zt_S_fi (zt_U_st U1 s hs), if_neg (fun q => by have := zt_r1000 U fx; have := zt_r1000 U fs; omega), if_neg (show ¬ x < 0 by have := hx.1; omega), zm_e (zm_of hM _ (zm_st48 hx) (by decide)), hc]
      dsimp only
      rw [e6] at fs ⊢
      by_cases c1 : zm_o c x 6 = fi
      · rw [if_pos (by rw [c1]), if_pos c1]
        obtain ⟨v2, g2, x2, a1, a2, a3, a4, a5⟩ := zj_child (d := d) (D := D) Q.2 H1 hM hc b hx (n := 0) (by unfold zv_rg; omega) (by decide)
        have lx := zt_st_Ln hl hx px
        have dx := zt_dep W hx lx
        rw [List.length_cons] at dx
        rw [zm_e a1, zm_e a4]
        dsimp only
        rw [zm_w (by omega)]
        exact ih (i + 1) x x2 (s :: l) v2 g2 lx hx (List.mem_cons_of_mem _ m0) (by rw [List.length_cons]; omega) (by rw [List.length_cons]; omega) c1 (zc_Q_t Q a3) (zt_n14_t n1 a2) a5
      · rw [if_neg (fun q => c1 (zt_r_inj la fx.1 fs.1 q)), if_neg c1]
        exact last
theorem zj_redo {d D : Nat} {a : Nat} {c : Nat → Int} {g k : zv_H} (hA : zc_A g) (H : zt_H a c g) (hM : zm_M k) (hc : zv_I k 348 = c) (b : c 2 < 2000000000) : ∃ q q', C0_stepOn (d + 4) a g = some q ∧ C9_redoNow (D + 5) 347 k = some q' ∧ zt_Z a 1 g k q q' := by
  have U := zt_H_U H
  have W := zt_U_W U
  have la := zt_U_la U
  have gL := zt_L_A hA
  have hh := W.2.1
  have r0 : zv_rg 0 := by unfold zv_rg; omega
  obtain ⟨v, g1, x, a1, a2, a3, a4, a5⟩ := zj_child (d := d) (D := D) hA H hM hc b hh (n := 0) r0 (by decide)
  have H1 := zt_H_q H (zt_n14_q a2)
  rcases a5 with ⟨v0, x0⟩ | ⟨hx, px, vx⟩
  · refine ⟨(-5, g1), (-1, zv_sI k 347 3 5), lC0_stepOn (zl_ob gL la) ?_, lC9_redoNow (zm_ob hM) ?_, zt_Z_pre (zc_QX a3) (zt_q_k a (zt_n14_q a2)) (zt_Z_rf (by decide) a3.2 H1 hc (by decide) 5)⟩
    · rw [qE0_stepOn, zm_e (zl_gR gL la 10), zt_U_he U, zm_e a1]
      dsimp only
      rw [if_pos v0]
    · rw [qE9_redoNow, zm_e (zm_here hM _), hc]
      dsimp only
      rw [zm_e a4]
      dsimp only
      rw [x0, if_pos (by decide), zm_e (zm_refuse hM _ 5)]
  · obtain ⟨v2, g2, x2, b1, b2, b3, b4, b5⟩ := zj_child (d := d) (D := D) a3.2 H1 hM hc b hx (n := 0) r0 (by decide)
    obtain ⟨l, hl, _⟩ := zt_line W hh
    have lx := zt_st_Ln hl hx px
    obtain ⟨q, q', c1, c2, Z⟩ := zj_redo26 (d := d) (D := D) H hM hc b 48 0 x x2 (c 0 :: l) v2 g2 lx hx List.mem_cons_self (by omega) (by rw [List.length_cons]; omega) rfl (zc_Q_t a3 b3) (zt_n14_t a2 b2) b5
    refine ⟨q, q', lC0_stepOn (zl_ob gL la) ?_, lC9_redoNow (zm_ob hM) ?_, Z⟩
    · rw [qE0_stepOn, zm_e (zl_gR gL la 10), zt_U_he U, zm_e a1]
      dsimp only
      rw [vx, if_neg (zt_r0 U hx), zm_e b1]
      exact c1
    · rw [qE9_redoNow, zm_e (zm_here hM _), hc]
      dsimp only
      rw [zm_e a4]
      dsimp only
      rw [if_neg (by have := hx.1; omega), zm_e (zm_of hM _ (zm_st48 hx) (by decide)), hc]
      dsimp only
      rw [zm_e b4]
      exact c2
