/-! ===== the class: what changes the tree ===== -/
/-- the frame: nothing of the reference, nor the tape's size -/
def zc_P (h h' : zv_H) : Prop := h'.1 = h.1 ∧ h'.2.2.2.2 = h.2.2.2.2 ∧ (∀ r, 347 ≤ r → h'.2.1 r = h.2.1 r ∧ h'.2.2.1 r = h.2.2.1 r ∧ h'.2.2.2.1 r = h.2.2.2.1 r) ∧ zv_I h' 5 2 = zv_I h 5 2
theorem zc_P_r (h : zv_H) : zc_P h h := ⟨rfl, rfl, fun _ _ => ⟨rfl, rfl, rfl⟩, rfl⟩
theorem zc_P_t {h h1 h2 : zv_H} (f : zc_P h h1) (g : zc_P h1 h2) : zc_P h h2 := ⟨g.1.trans f.1, g.2.1.trans f.2.1, fun r x => ⟨(g.2.2.1 r x).1.trans (f.2.2.1 r x).1, (g.2.2.1 r x).2.1.trans (f.2.2.1 r x).2.1, (g.2.2.1 r x).2.2.trans (f.2.2.1 r x).2.2⟩, g.2.2.2.trans f.2.2.2⟩
theorem zc_qP {h h' : zv_H} (f : zc_q h h') : zc_P h h' := ⟨f.1, f.2.1, fun r x => ⟨(f.2.2.1 r x).1, (f.2.2.1 r x).2, f.2.2.2.1 r (by omega) (by omega)⟩, f.2.2.2.2.2⟩
def zc_X (h h' : zv_H) : Prop := zc_P h h' ∧ zc_A h'
theorem zc_X_r {h : zv_H} (hA : zc_A h) : zc_X h h := ⟨zc_P_r h, hA⟩
theorem zc_X_t {h h1 h2 : zv_H} (f : zc_X h h1) (g : zc_X h1 h2) : zc_X h h2 := ⟨zc_P_t f.1 g.1, g.2⟩
theorem zc_QX {h h' : zv_H} (f : zc_Q h h') : zc_X h h' := ⟨zc_qP f.1, f.2⟩
/-! counting children -/
theorem zc_ch_b (h : zv_H) (r n : Nat) : 0 ≤ zc_ch h r n ∧ zc_ch h r n ≤ n := by
  induction n with
  | zero => exact ⟨Int.le_refl _, Int.le_refl _⟩
  | succ n ih =>
    have e : zc_ch h r (n + 1) = zc_ch h r n + (if zv_R h (zc_stt (zc_hf r) n) 4 = r then 1 else 0) := rfl
    rw [e]
    by_cases c : zv_R h (zc_stt (zc_hf r) n) 4 = r
    · rw [if_pos c]; omega
    · rw [if_neg c]; omega
theorem zc_chb {h : zv_H} (hA : zc_A h) {s : Nat} (hV : zc_V h s) : 0 ≤ zv_I h s 11 ∧ zv_I h s 11 ≤ 48 := by
  have t := hA.2.1 s hV.1
  cases t with
  | inl t => exact absurd t.1 (by rw [hV.2]; decide)
  | inr t =>
    rw [t.2.2.2.2]
    exact zc_ch_b h s 48
/-- none has it as parent, where it has no children -/
theorem zc_ch0 {h : zv_H} {r : Nat} : ∀ n, zc_ch h r n = 0 → ∀ i, i < n → zv_R h (zc_stt (zc_hf r) i) 4 ≠ r := by
  intro n
  induction n with
  | zero => intro _ i hi; exact absurd hi (Nat.not_lt_zero i)
  | succ n ih =>
    intro hn i hi e
    have ec : zc_ch h r (n + 1) = zc_ch h r n + (if zv_R h (zc_stt (zc_hf r) n) 4 = r then 1 else 0) := rfl
    rw [ec] at hn
    have b := zc_ch_b h r n
    by_cases c : zv_R h (zc_stt (zc_hf r) n) 4 = r
    · rw [if_pos c] at hn; omega
    · rw [if_neg c] at hn
      by_cases q : i = n
      · rw [q] at e; exact c e
      · exact ih (by omega) i (by omega) e
/-- no child, no parent of it -/
theorem zc_leaf {h : zv_H} (hA : zc_A h) {s : Nat} (hV : zc_V h s) (h0 : zv_I h s 11 = 0) {t : Nat} (ht : zv_lay t = (1, 5)) : zv_R h t 4 ≠ s := by
  intro e
  have tt := hA.2.1 t ht
  have ts := hA.2.1 s hV.1
  cases ts with
  | inl ts => exact absurd ts.1 (by rw [hV.2]; decide)
  | inr ts =>
    have c0 : zc_ch h s 48 = 0 := ts.2.2.2.2.symm.trans h0
    obtain ⟨i, hi, et⟩ := zc_l5i ht
    cases tt with
    | inl u => exact zc_nz hV.1 (e.symm.trans u.2)
    | inr u =>
      cases u.2.2.1 with
      | inl w => exact zc_nz hV.1 (e.symm.trans w.1)
      | inr w =>
        have hh : zc_hf s = zc_hf t := by rw [← w.2.2.1, e]
        refine zc_ch0 48 c0 i hi ?_
        rw [hh, ← et]
        exact e
/-! how deep it goes: as many States as depths -/
def zc_k (h : zv_H) (a : Nat) (D : Int) : Nat → Nat
  | 0 => 0
  | n + 1 => zc_k h a D n + if zv_I h (zc_stt a n) 3 = 1 ∧ zv_I h (zc_stt a n) 10 ≤ D then 1 else 0
theorem zc_k_le (h : zv_H) (a : Nat) (D : Int) (n : Nat) : zc_k h a D n ≤ n := by
  induction n with
  | zero => exact Nat.le_refl _
  | succ n ih =>
    show zc_k h a D n + _ ≤ _
    by_cases c : zv_I h (zc_stt a n) 3 = 1 ∧ zv_I h (zc_stt a n) 10 ≤ D
    · rw [if_pos c]; omega
    · rw [if_neg c]; omega
theorem zc_k_lt {h : zv_H} {a : Nat} {D : Int} {j : Nat} (hj : zv_I h (zc_stt a j) 3 ≠ 1) : ∀ n, j < n → zc_k h a D n + 1 ≤ n := by
  intro n
  induction n with
  | zero => intro q; exact absurd q (Nat.not_lt_zero j)
  | succ n ih =>
    intro q
    show zc_k h a D n + _ + 1 ≤ _
    by_cases e : j = n
    · subst e
      rw [if_neg (fun c => hj c.1)]
      have := zc_k_le h a D j
      omega
    · have := ih (by omega)
      by_cases c : zv_I h (zc_stt a n) 3 = 1 ∧ zv_I h (zc_stt a n) 10 ≤ D
      · rw [if_pos c]; omega
      · rw [if_neg c]; omega
theorem zc_k_mono (h : zv_H) (a : Nat) (D : Int) : ∀ n, zc_k h a D n ≤ zc_k h a (D + 1) n := by
  intro n
  induction n with
  | zero => exact Nat.le_refl _
  | succ n ih =>
    show zc_k h a D n + _ ≤ zc_k h a (D + 1) n + _
    by_cases c : zv_I h (zc_stt a n) 3 = 1 ∧ zv_I h (zc_stt a n) 10 ≤ D
    · rw [if_pos c, if_pos ⟨c.1, by omega⟩]; omega
    · rw [if_neg c]; omega
theorem zc_k_one {h : zv_H} {a : Nat} {D : Int} {j : Nat} (h3 : zv_I h (zc_stt a j) 3 = 1) (hd : zv_I h (zc_stt a j) 10 = D + 1) : ∀ n, j < n → zc_k h a D n + 1 ≤ zc_k h a (D + 1) n := by
  intro n
  induction n with
  | zero => intro q; exact absurd q (Nat.not_lt_zero j)
  | succ n ih =>
    intro q
    show zc_k h a D n + _ + 1 ≤ zc_k h a (D + 1) n + _
    by_cases e : j = n
    · subst e
      rw [if_neg (fun c => by omega), if_pos ⟨h3, by omega⟩]
      have := zc_k_mono h a D j
      omega
    · have := ih (by omega)
      by_cases c : zv_I h (zc_stt a n) 3 = 1 ∧ zv_I h (zc_stt a n) 10 ≤ D
      · rw [if_pos c, if_pos ⟨c.1, by omega⟩]; omega
      · rw [if_neg c]; omega
theorem zc_deep {h : zv_H} (hA : zc_A h) : ∀ (D : Nat) (s : Nat), zc_V h s → zv_I h s 10 = (D : Int) → D + 1 ≤ zc_k h (zc_hf s) (D : Int) 48 := by
  intro D
  induction D with
  | zero =>
    intro s hV hd
    obtain ⟨i, hi, e⟩ := zc_l5i hV.1
    have h3 := hV.2
    rw [e] at hd h3
    have := zc_k_one (h := h) (a := zc_hf s) (D := -1) h3 (by rw [hd]; rfl) 48 hi
    have e0 : ((-1 : Int) + 1) = ((0 : Nat) : Int) := rfl
    rw [e0] at this
    omega
  | succ D ih =>
    intro s hV hd
    have d := zc_dep (zc_Q_r hA) hV
    have t := hA.2.1 s hV.1
    cases d.2 with
    | inl u =>
      cases t with
      | inl t => exact absurd t.1 (by rw [hV.2]; decide)
      | inr t =>
        cases t.2.2.1 with
        | inl w => have := w.2; omega
        | inr w => rw [u] at w; have := w.1; rw [zv_lay0] at this; cases this
    | inr u =>
      have i1 := ih _ u.1 (by have := u.2.2; omega)
      rw [u.2.1] at i1
      obtain ⟨i, hi, e⟩ := zc_l5i hV.1
      have h3 := hV.2
      rw [e] at hd h3
      have := zc_k_one (h := h) (a := zc_hf s) (D := (D : Int)) h3 (by rw [hd]; omega) 48 hi
      rw [show ((D + 1 : Nat) : Int) = (D : Int) + 1 by omega]
      omega
/-- where one State is free, one can go deeper -/
theorem zc_room {h : zv_H} (hA : zc_A h) {p : Nat} (hV : zc_V h p) {j : Nat} (hj : j < 48) (h3 : zv_I h (zc_stt (zc_hf p) j) 3 ≠ 1) : zv_I h p 10 ≤ 46 := by
  have d := (zc_dep (zc_Q_r hA) hV).1
  have := zc_deep hA (zv_I h p 10).toNat p hV (by omega)
  have := zc_k_lt (D := ((zv_I h p 10).toNat : Int)) h3 48 hj
  omega
