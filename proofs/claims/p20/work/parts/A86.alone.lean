/-! ===== the tie: a START alone ===== -/
/-- in the reference -/
def zt_sa (c : Nat → Int) (m : Nat) (wd : Nat → Int) : Prop := (zm_O c m) ∧ (c 1 = 0) ∧ (c 2 = 0) ∧ (zm_o c 0 3 = 0) ∧ (zm_o c 0 4 = -1) ∧ (zm_o c 0 6 = 0) ∧ (zm_o c 0 7 = 0) ∧ (zm_o c 0 10 = 0) ∧ (zm_o c 0 11 = 0) ∧ (∀ i : Nat, i < m → zm_o c 0 (12 + (i : Int)) = wd i)
theorem zt_sa_O {c : Nat → Int} {m : Nat} {wd : Nat → Int} (t : zt_sa c m wd) : zm_O c m := t.1
theorem zt_sa_e1 {c : Nat → Int} {m : Nat} {wd : Nat → Int} (t : zt_sa c m wd) : c 1 = 0 := t.2.1
theorem zt_sa_e2 {c : Nat → Int} {m : Nat} {wd : Nat → Int} (t : zt_sa c m wd) : c 2 = 0 := t.2.2.1
theorem zt_sa_o3 {c : Nat → Int} {m : Nat} {wd : Nat → Int} (t : zt_sa c m wd) : zm_o c 0 3 = 0 := t.2.2.2.1
theorem zt_sa_o4 {c : Nat → Int} {m : Nat} {wd : Nat → Int} (t : zt_sa c m wd) : zm_o c 0 4 = -1 := t.2.2.2.2.1
theorem zt_sa_o6 {c : Nat → Int} {m : Nat} {wd : Nat → Int} (t : zt_sa c m wd) : zm_o c 0 6 = 0 := t.2.2.2.2.2.1
theorem zt_sa_o7 {c : Nat → Int} {m : Nat} {wd : Nat → Int} (t : zt_sa c m wd) : zm_o c 0 7 = 0 := t.2.2.2.2.2.2.1
theorem zt_sa_oa {c : Nat → Int} {m : Nat} {wd : Nat → Int} (t : zt_sa c m wd) : zm_o c 0 10 = 0 := t.2.2.2.2.2.2.2.1
theorem zt_sa_ob {c : Nat → Int} {m : Nat} {wd : Nat → Int} (t : zt_sa c m wd) : zm_o c 0 11 = 0 := t.2.2.2.2.2.2.2.2.1
theorem zt_sa_lt {c : Nat → Int} {m : Nat} {wd : Nat → Int} (t : zt_sa c m wd) : ∀ i : Nat, i < m → zm_o c 0 (12 + (i : Int)) = wd i := t.2.2.2.2.2.2.2.2.2
/-- in the class -/
def zt_sc (b : Nat) (m : Nat) (wd : Nat → Int) (h : zv_H) : Prop := (zv_lay b = (1, 0)) ∧ (∀ i : Nat, i < 48 → zv_I h (zc_stt b i) 0 = i) ∧ (∀ i : Nat, i < 48 → zv_I h (zc_stt b i) 3 = if i = 0 then 1 else 0) ∧ (zv_R h (b + 1) 4 = 0) ∧ (zv_R h (b + 1) 5 = b + 1) ∧ (zv_I h (b + 1) 6 = -1) ∧ (zv_I h (b + 1) 7 = 0) ∧ (zv_I h (b + 1) 8 = -1) ∧ (zv_I h (b + 1) 9 = m) ∧ (zv_I h (b + 1) 10 = 0) ∧ (zv_I h (b + 1) 11 = 0) ∧ (zv_I h (b + 1) 12 = m) ∧ (zv_I h (b + 1) 13 = 0) ∧ (zv_I h (b + 1) 15 = -1) ∧ (zv_J h (b + 1) 16 = Int64.ofNat 0) ∧ (zv_J h (b + 1) 17 = Int64.ofNat 0) ∧ (∀ i : Nat, i < m → zv_I h (b + 5) i = wd i) ∧ (∀ i : Nat, i < m → zv_I h (b + 3) i = i) ∧ (zv_R h b 10 = b + 1) ∧ (zv_I h b 11 = 0) ∧ (zv_I h b 12 = 1) ∧ (zv_I h (b + 14) 2 = 0) ∧ (zv_I h (b + 17) 4 = 0)
theorem zt_sc_la {b : Nat} {m : Nat} {wd : Nat → Int} {h : zv_H} (t : zt_sc b m wd h) : zv_lay b = (1, 0) := t.1
theorem zt_sc_nr {b : Nat} {m : Nat} {wd : Nat → Int} {h : zv_H} (t : zt_sc b m wd h) : ∀ i : Nat, i < 48 → zv_I h (zc_stt b i) 0 = i := t.2.1
theorem zt_sc_lv {b : Nat} {m : Nat} {wd : Nat → Int} {h : zv_H} (t : zt_sc b m wd h) : ∀ i : Nat, i < 48 → zv_I h (zc_stt b i) 3 = if i = 0 then 1 else 0 := t.2.2.1
theorem zt_sc_pa {b : Nat} {m : Nat} {wd : Nat → Int} {h : zv_H} (t : zt_sc b m wd h) : zv_R h (b + 1) 4 = 0 := t.2.2.2.1
theorem zt_sc_fi {b : Nat} {m : Nat} {wd : Nat → Int} {h : zv_H} (t : zt_sc b m wd h) : zv_R h (b + 1) 5 = b + 1 := t.2.2.2.2.1
theorem zt_sc_i6 {b : Nat} {m : Nat} {wd : Nat → Int} {h : zv_H} (t : zt_sc b m wd h) : zv_I h (b + 1) 6 = -1 := t.2.2.2.2.2.1
theorem zt_sc_i7 {b : Nat} {m : Nat} {wd : Nat → Int} {h : zv_H} (t : zt_sc b m wd h) : zv_I h (b + 1) 7 = 0 := t.2.2.2.2.2.2.1
theorem zt_sc_i8 {b : Nat} {m : Nat} {wd : Nat → Int} {h : zv_H} (t : zt_sc b m wd h) : zv_I h (b + 1) 8 = -1 := t.2.2.2.2.2.2.2.1
theorem zt_sc_i9 {b : Nat} {m : Nat} {wd : Nat → Int} {h : zv_H} (t : zt_sc b m wd h) : zv_I h (b + 1) 9 = m := t.2.2.2.2.2.2.2.2.1
theorem zt_sc_ia {b : Nat} {m : Nat} {wd : Nat → Int} {h : zv_H} (t : zt_sc b m wd h) : zv_I h (b + 1) 10 = 0 := t.2.2.2.2.2.2.2.2.2.1
theorem zt_sc_ib {b : Nat} {m : Nat} {wd : Nat → Int} {h : zv_H} (t : zt_sc b m wd h) : zv_I h (b + 1) 11 = 0 := t.2.2.2.2.2.2.2.2.2.2.1
theorem zt_sc_ic {b : Nat} {m : Nat} {wd : Nat → Int} {h : zv_H} (t : zt_sc b m wd h) : zv_I h (b + 1) 12 = m := t.2.2.2.2.2.2.2.2.2.2.2.1
theorem zt_sc_id {b : Nat} {m : Nat} {wd : Nat → Int} {h : zv_H} (t : zt_sc b m wd h) : zv_I h (b + 1) 13 = 0 := t.2.2.2.2.2.2.2.2.2.2.2.2.1
theorem zt_sc_ie {b : Nat} {m : Nat} {wd : Nat → Int} {h : zv_H} (t : zt_sc b m wd h) : zv_I h (b + 1) 15 = -1 := t.2.2.2.2.2.2.2.2.2.2.2.2.2.1
theorem zt_sc_jg {b : Nat} {m : Nat} {wd : Nat → Int} {h : zv_H} (t : zt_sc b m wd h) : zv_J h (b + 1) 16 = Int64.ofNat 0 := t.2.2.2.2.2.2.2.2.2.2.2.2.2.2.1
theorem zt_sc_jh {b : Nat} {m : Nat} {wd : Nat → Int} {h : zv_H} (t : zt_sc b m wd h) : zv_J h (b + 1) 17 = Int64.ofNat 0 := t.2.2.2.2.2.2.2.2.2.2.2.2.2.2.2.1
theorem zt_sc_gl {b : Nat} {m : Nat} {wd : Nat → Int} {h : zv_H} (t : zt_sc b m wd h) : ∀ i : Nat, i < m → zv_I h (b + 5) i = wd i := t.2.2.2.2.2.2.2.2.2.2.2.2.2.2.2.2.1
theorem zt_sc_dc {b : Nat} {m : Nat} {wd : Nat → Int} {h : zv_H} (t : zt_sc b m wd h) : ∀ i : Nat, i < m → zv_I h (b + 3) i = i := t.2.2.2.2.2.2.2.2.2.2.2.2.2.2.2.2.2.1
theorem zt_sc_he {b : Nat} {m : Nat} {wd : Nat → Int} {h : zv_H} (t : zt_sc b m wd h) : zv_R h b 10 = b + 1 := t.2.2.2.2.2.2.2.2.2.2.2.2.2.2.2.2.2.2.1
theorem zt_sc_nw {b : Nat} {m : Nat} {wd : Nat → Int} {h : zv_H} (t : zt_sc b m wd h) : zv_I h b 11 = 0 := t.2.2.2.2.2.2.2.2.2.2.2.2.2.2.2.2.2.2.2.1
theorem zt_sc_ct {b : Nat} {m : Nat} {wd : Nat → Int} {h : zv_H} (t : zt_sc b m wd h) : zv_I h b 12 = 1 := t.2.2.2.2.2.2.2.2.2.2.2.2.2.2.2.2.2.2.2.2.1
theorem zt_sc_ns {b : Nat} {m : Nat} {wd : Nat → Int} {h : zv_H} (t : zt_sc b m wd h) : zv_I h (b + 14) 2 = 0 := t.2.2.2.2.2.2.2.2.2.2.2.2.2.2.2.2.2.2.2.2.2.1
theorem zt_sc_vs {b : Nat} {m : Nat} {wd : Nat → Int} {h : zv_H} (t : zt_sc b m wd h) : zv_I h (b + 17) 4 = 0 := t.2.2.2.2.2.2.2.2.2.2.2.2.2.2.2.2.2.2.2.2.2.2
theorem zt_nmz : ∀ t : Nat, t < 48 → zv_and (zv_shr 0 ((t : Int).tmod 24)) 1 = 0 := by decide +kernel
theorem zt_sum1 : ∀ n : Nat, 0 < n → zm_sum (fun k => if (k : Int) = 0 then 1 else 0) n = 1 := by
  intro n
  induction n with
  | zero => intro h; exact absurd h (by decide)
  | succ n ih =>
    intro _
    show zm_sum (fun k => if (k : Int) = 0 then 1 else 0) n + (if (n : Int) = 0 then 1 else 0) = 1
    by_cases c : n = 0
    · subst c
      rfl
    · rw [ih (by omega), if_neg (by omega)]
      rfl
theorem zt_sum0 : ∀ n : Nat, zm_sum (fun _ => 0) n = 0 := by
  intro n
  induction n with
  | zero => rfl
  | succ n ih =>
    show zm_sum (fun _ => 0) n + 0 = 0
    rw [ih]
    rfl
section
variable {c : Nat → Int} {m : Nat} {wd : Nat → Int}
theorem zt_sa_st (A : zt_sa c m wd) {s : Int} (h : zm_st c s) : s = 0 := by
  have h1 := h.2
  rw [(zt_sa_O A).1 s h.1.1 h.1.2] at h1
  by_cases q : s = 0
  · exact q
  · rw [if_neg q] at h1
    cases h1
theorem zt_sa_ln (A : zt_sa c m wd) {l : List Int} (h : zm_Ln c (0 :: l) 0) : l = [] := by
  have h2 := h.2
  rw [(zt_sa_O A).2.1.1] at h2
  cases l with
  | nil => rfl
  | cons t l =>
    have := h2.1
    omega
theorem zt_sa_nm (A : zt_sa c m wd) {t : Int} (h0 : 0 ≤ t) (h1 : t < 48) : ¬ zm_nm c 0 t := by
  have e : zm_o c 0 (if t < 24 then 10 else 11) = 0 := by
    split
    · exact zt_sa_oa A
    · exact zt_sa_ob A
  unfold zm_nm
  rw [e]
  obtain ⟨x, rfl⟩ : ∃ x : Nat, t = x := ⟨t.toNat, by omega⟩
  rw [zt_nmz x (by omega)]
  decide
theorem zt_sa_dc (A : zt_sa c m wd) : zt_dc c [0] = zm_rs 0 m := by
  have e : zm_row c [0] = zm_rs 0 m := by rw [zm_row_1, (zt_sa_O A).2.1.2.2.1]
  unfold zt_dc
  rw [e]
  refine List.filter_eq_self.mpr (fun p hp => ?_)
  obtain ⟨i, _, e2⟩ := List.mem_map.mp hp
  have p1 : p.1 = 0 := by rw [← e2]
  have n1 : ¬ zm_o c 0 2 = 1 := by rw [(zt_sa_O A).2.1.2.1]; decide
  unfold zm_sn
  have f1 : zm_fc c [0] p.1 = 1 := by
    show (if p.1 = 0 then (1 : Int) else 0) = 1
    rw [if_pos p1]
  have cb : zm_cb c [0] [0] p = false := by
    unfold zm_cb
    rw [List.any_cons, decide_eq_false n1]
    rfl
  rw [f1, cb]
  rfl
theorem zt_sa_W (A : zt_sa c m wd) (hm : m ≤ 40) (h4 : 0 ≤ c 4 ∧ c 4 ≤ 392) (hp : c 4 = 0 ∨ zm_ph (zm_cd c) 0) : zm_W c := zm_W_O (zt_sa_O A) (by omega) h4 hp
/-- the two are one -/
theorem zt_alone (A : zt_sa c m wd) (hm : m ≤ 40) {b : Nat} {h : zv_H} (B : zt_sc b m wd h) (W : zm_W c) : zt_U b c h ∧ zt_V b c h ∧ zt_N b c h := by
  have la := zt_sc_la B
  have O := zt_sa_O A
  have z0 : zt_r b 0 = b + 1 := rfl
  refine ⟨⟨la, W, fun i hi => ?_, zt_sc_nr B, fun s hs => ?_, ?_, (zt_sc_nw B).trans (zt_sa_e1 A).symm, ?_⟩, ⟨(zt_sc_vs B).trans (zt_sa_e2 A).symm, by rw [zt_sa_e2 A]; exact Int.le_refl _, by rw [O.2.2.2.2, zt_sa_e2 A]; rfl, fun i hi => ?_, fun i hi => ?_, fun s hs => ?_, fun s t hs ht _ => (zt_sa_st A hs).trans (zt_sa_st A ht).symm⟩, ⟨(zt_sc_ns B).trans O.2.2.2.1.symm, fun k hk => ?_, fun k hk => ?_⟩⟩
  · rw [zt_sc_lv B i hi, O.1 i (by omega) (by omega)]
    by_cases q : i = 0
    · rw [if_pos q, if_pos (by omega)]
    · rw [if_neg q, if_neg (by omega)]
  · have e := zt_sa_st A hs
    subst e
    refine ⟨?_, ?_, ?_, ?_, ?_, ?_, ?_, ?_, fun t ht => ?_, fun t ht => ?_, fun q => ?_, fun q k hk => ?_, fun l hl => ?_, fun l hl => ?_, fun l hl => ?_, ?_, ⟨fun l hl t t0 t1 q => absurd q (zt_sa_nm A t0 t1), fun l hl q => ?_, fun _ => rfl, Or.inl O.2.1.2.1⟩⟩
    · rw [z0, zt_sc_pa B, O.2.1.1]
      rfl
    · rw [z0, zt_sc_fi B, zt_sa_o6 A]
      rfl
    · rw [z0, zt_sc_i6 B, O.2.1.2.1]
    · rw [z0, zt_sc_i7 B, zt_sa_o3 A]
    · rw [z0, zt_sc_i8 B, zt_sa_o4 A]
    · rw [z0, zt_sc_i9 B, O.2.1.2.2.1]
    · rw [z0, zt_sc_id B, zt_sa_o7 A]
    · rw [z0, zt_sc_ie B, if_neg (fun q => by have := q.1; rw [O.2.1.2.1] at this; exact absurd this (by decide))]
    · rw [z0, zt_sc_jg B, zt_b_0]
      constructor
      · intro q
        cases q
      · intro q
        exact absurd q.2 (zt_sa_nm A (by omega) (by omega))
    · rw [z0, zt_sc_jh B, zt_b_0]
      constructor
      · intro q
        cases q
      · intro q
        rcases q.2.2 with w | w
        · have := w.1
          rw [O.2.1.2.1] at this
          exact absurd this (by decide)
        · have := w.1
          rw [O.2.1.2.1] at this
          exact absurd this (by decide)
    · rw [O.2.1.2.1] at q
      exact absurd q (by decide)
    · rw [O.2.1.2.2.1] at hk
      have e : zt_id ((0 : Int), (k : Int)) = k := if_pos rfl
      rw [e, Int.toNat_natCast, zt_sc_gl B k (Int.ofNat_lt.mp hk)]
      exact (zt_sa_lt A k (Int.ofNat_lt.mp hk)).symm
    · rw [zt_sa_ln A hl, zt_sa_dc A, zm_rs_len, z0, zt_sc_ic B]
      rfl
    · intro i x hx
      rw [zt_sa_ln A hl, zt_sa_dc A] at hx
      have hi := zm_lt_of_get hx
      rw [zm_rs_len] at hi
      rw [zm_rs_get _ _ hi] at hx
      have ex : x = (0, (i : Int)) := (Option.some.inj hx).symm
      have e : zt_id ((0 : Int), (i : Int)) = i := if_pos rfl
      rw [ex, e, z0]
      exact zt_sc_dc B i (by omega)
    · rw [zt_sa_ln A hl, z0, zt_sc_ia B]
      rfl
    · rw [z0, zt_sc_ib B]
      have : zm_nch c 0 = zm_sum (fun _ => 0) 48 := zm_sum_cg 48 (fun k hk => by
        refine if_neg (fun q => ?_)
        have q1 := zt_sa_st A q.1
        have q2 := q.2
        rw [q1, O.2.1.1] at q2
        exact absurd q2 (by decide))
      rw [this, zt_sum0]
    · rw [O.2.1.2.1] at q
      exact absurd q (by decide)
  · rw [zt_sc_he B, O.2.2.1]
    rfl
  · rw [zt_sc_ct B]
    have : zm_nst c = zm_sum (fun k => if (k : Int) = 0 then 1 else 0) 48 := zm_sum_cg 48 (fun k hk => O.1 k (by omega) (by omega))
    rw [this, zt_sum1 48 (by decide)]
  · rw [O.2.2.2.2] at hi
    omega
  · rw [O.2.2.2.2] at hi
    omega
  · rw [zt_sa_st A hs, zt_sa_o7 A, zt_sa_e2 A]
    decide
  · rw [O.2.2.2.1] at hk
    omega
  · rw [O.2.2.2.1] at hk
    omega
end
/-- the reference: all anew, exactly -/
theorem zt_clears {h : zv_H} (hM : zm_M h) (d : Nat) : ∃ h', C9_clears (d + 2) 347 h = some h' ∧ zm_F [348] [] h h' ∧ zt_sa (zv_I h' 348) 0 (fun _ => 0) ∧ zv_I h' 348 4 = 0 := by
  obtain ⟨z, i1, f1, k1⟩ := zm_clears_l (d + 1) 4236 0 h rfl hM (fun k hk => by omega)
  obtain ⟨h0, e0, F0, O0, c40⟩ := zm_clears hM d
  have hMz := zm_F_M f1 hM
  have S : ∀ (g : zv_H) (w v : Int), zv_I (zv_sI g 348 (432 + 76 * (0 : Int).toNat + w.toNat) v) 348 = zm_os (zv_I g 348) 0 w v := fun g w v => zm_ss _ _ _ _
  have O : ∀ (c : Nat → Int) (w v s' w' : Int), 0 ≤ w ∧ w < 76 → 0 ≤ s' → 0 ≤ w' ∧ w' < 76 → ¬ (s' = 0 ∧ w' = w) → zm_o (zm_os c 0 w v) s' w' = zm_o c s' w' := fun c w v s' w' h1 h2 h3 h4 => zm_os_o c v (by decide) h1 h2 h3 h4
  have Kk : ∀ (c : Nat → Int) (w v : Int) (k : Nat), 0 ≤ w ∧ w < 76 → k < 432 → zm_os c 0 w v k = c k := fun c w v k h1 h2 => zm_os_k c v h1 (by omega)
  have z0 : ∀ s w : Int, 0 ≤ s → s ≤ 48 → 0 ≤ w → w < 76 → zm_o (zv_I z 348) s w = 0 := fun s w s0 s1 w0 w1 => k1 _ (by omega)
  have ex : ∃ h', C9_clears (d + 2) 347 h = some h' ∧ zv_I h' 348 = zm_os (zm_os (zm_os (zm_os (zv_I z 348) 0 0 1) 0 1 (-1)) 0 2 (-1)) 0 4 (-1) := by
    refine zm_cV (P := fun h' => zv_I h' 348 = zm_os (zm_os (zm_os (zm_os (zv_I z 348) 0 0 1) 0 1 (-1)) 0 2 (-1)) 0 4 (-1)) (lC9_clears (zm_ob hM)) ?_
    rw [qE9_clears, show L9_clears_2 (d + 1) 347 0 h = _ from i1, qL9_clears_2, if_neg (by decide), zm_e (zm_sets hMz d (by decide) (by decide) _)]
    have M1 : zm_M (zv_sI z 348 (432 + 76 * (0 : Int).toNat + Int.toNat 0) 1) := hMz
    rw [zm_e (zm_sets M1 d (by decide) (by decide) _)]
    have M2 : zm_M (zv_sI (zv_sI z 348 (432 + 76 * (0 : Int).toNat + Int.toNat 0) 1) 348 (432 + 76 * (0 : Int).toNat + Int.toNat 1) (-1)) := hMz
    rw [zm_e (zm_sets M2 d (by decide) (by decide) _)]
    have M3 : zm_M (zv_sI (zv_sI (zv_sI z 348 (432 + 76 * (0 : Int).toNat + Int.toNat 0) 1) 348 (432 + 76 * (0 : Int).toNat + Int.toNat 1) (-1)) 348 (432 + 76 * (0 : Int).toNat + Int.toNat 2) (-1)) := hMz
    rw [zm_e (zm_sets M3 d (by decide) (by decide) _)]
    refine zm_iV ?_
    rw [S, S, S, S]
  obtain ⟨h', e, c⟩ := ex
  have eh : h0 = h' := Option.some.inj (e0.symm.trans e)
  subst eh
  have f0 : ∀ w : Int, 0 ≤ w ∧ w < 76 → w ≠ 0 → w ≠ 1 → w ≠ 2 → w ≠ 4 → zm_o (zv_I h0 348) 0 w = 0 := fun w hw n0 n1 n2 n4 => by
    rw [c, O _ _ _ _ _ (by decide) (by decide) hw (fun q => n4 q.2), O _ _ _ _ _ (by decide) (by decide) hw (fun q => n2 q.2), O _ _ _ _ _ (by decide) (by decide) hw (fun q => n1 q.2), O _ _ _ _ _ (by decide) (by decide) hw (fun q => n0 q.2)]
    exact z0 0 w (by decide) (by decide) hw.1 hw.2
  have k0 : ∀ k : Nat, k < 432 → zv_I h0 348 k = 0 := fun k hk => by
    rw [c, Kk _ _ _ _ (by decide) hk, Kk _ _ _ _ (by decide) hk, Kk _ _ _ _ (by decide) hk, Kk _ _ _ _ (by decide) hk]
    exact k1 k (by omega)
  refine ⟨h0, e, F0, ⟨O0, k0 1 (by decide), k0 2 (by decide), f0 3 (by decide) (by decide) (by decide) (by decide) (by decide), ?_, f0 6 (by decide) (by decide) (by decide) (by decide) (by decide), f0 7 (by decide) (by decide) (by decide) (by decide) (by decide), f0 10 (by decide) (by decide) (by decide) (by decide) (by decide), f0 11 (by decide) (by decide) (by decide) (by decide) (by decide), fun i hi => absurd hi (Nat.not_lt_zero i)⟩, c40⟩
  rw [c, zm_os_s]
/-- the class's -/
theorem zt_sc_bx {b : Nat} {h0 h : zv_H} (hb : zv_lay b = (1, 0)) (B : zt_bx b h0 h) (n0 : ∀ i : Nat, i < 48 → zv_I h0 (zc_stt b i) 0 = i) : zt_sc b 0 (fun _ => 0) h := by
  have s0 : zt_fs (b + 1) 1 h0 h := by
    have := zt_bx_s B 0 (by decide)
    rw [if_pos rfl] at this
    exact this
  exact ⟨hb, fun i hi => (zt_fs_i0 (zt_bx_s B i hi)).trans (n0 i hi), fun i hi => zt_fs_i3 (zt_bx_s B i hi), zt_fs_r4 s0, zt_fs_r5 s0, zt_fs_i6 s0, zt_fs_i7 s0, zt_fs_i8 s0, zt_fs_i9 s0, zt_fs_ia s0, zt_fs_ib s0, zt_fs_ic s0, zt_fs_id s0, zt_fs_ie s0, zt_fs_jg s0, zt_fs_jh s0, fun i hi => absurd hi (Nat.not_lt_zero i), fun i hi => absurd hi (Nat.not_lt_zero i), zt_bx_he B, zt_bx_nw B, zt_bx_ct B, zt_bx_ns B, zt_bx_vs B⟩
