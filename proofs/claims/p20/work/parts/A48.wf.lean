/-! ===== the tie: merging, what is merged ===== -/
/-- what is merged in: edits in force on the line l, not of HERE's -/
def zt_wf (c : Nat → Int) (l lh : List Int) (x : Int) : Prop := zm_ed c x ∧ zm_fc c l x ≠ 0 ∧ ¬ x ∈ c 0 :: lh
theorem zt_merge44 (d : Nat) {c : Nat → Int} (w : zm_W c) {l lh : List Int} (hlh : zm_Ln c (c 0 :: lh) (c 0)) (hl : ∀ t ∈ l, zm_st c t) (hn : l.length ≤ 48) : ∀ (b a : List Int), a ++ b = l.reverse → ∀ h : zv_H, zm_M h → zv_I h 348 = c → (∀ (k : Nat) (x : Int), l.reverse[k]? = some x → zv_I h 351 k = x) → (∀ x ∈ l, zv_I h 354 x.toNat = zm_fc c l x) → (∀ (k : Nat) (x : Int), k < a.length → l.reverse[k]? = some x → zv_I h 363 k = x ∧ (zv_I h 364 k ≠ 0 ↔ zt_wf c l lh x)) → ∃ h', L9_mergeNow_44 (d + 3) 347 l.length a.length h = L9_mergeNow_44 (d + 3) 347 l.length l.length h' ∧ zm_F [363, 364] [] h h' ∧ (∀ (k : Nat) (x : Int), l.reverse[k]? = some x → zv_I h' 363 k = x ∧ (zv_I h' 364 k ≠ 0 ↔ zt_wf c l lh x))
  | [], a, e, h, _, _, _, _, hk => by
    rw [List.append_nil] at e
    have el : a.length = l.length := by rw [e, List.length_reverse]
    exact ⟨h, by rw [el], zm_F_r _ _ h, fun k x hx => hk k x (by rw [e]; exact zm_lt_of_get hx) hx⟩
  | t :: b, a, e, h, hM, hc, h351, h354, hk => by
    have hlen : l.length = a.length + (b.length + 1) := by rw [← List.length_reverse (as := l), ← e, List.length_append, List.length_cons]
    have htl : t ∈ l := by
      rw [← List.mem_reverse, ← e]
      exact List.mem_append_right _ List.mem_cons_self
    have hst := hl t htl
    have h48 := zm_st48 hst
    have hx : l.reverse[a.length]? = some t := by
      rw [← e, List.getElem?_append_right (Nat.le_refl _), Nat.sub_self]
      rfl
    have e' : (a ++ [t]) ++ b = l.reverse := by
      rw [List.append_assoc]
      exact e
    have w1 : zv_w ((a.length : Int) + 1) = (((a ++ [t]).length : Nat) : Int) := by
      clear hst
      rw [zm_w (by omega), List.length_append]
      rfl
    have j0 : (0 : Int) ≤ (a.length : Int) := by omega
    have j1 : (a.length : Int) < ((49 : Nat) : Int) := by
      clear hst
      omega
    have j2 : ((a.length : Int)).toNat = a.length := by omega
    have j3 : (a.length : Int) < (l.length : Int) := by
      clear hst
      omega
    have t49 : t < ((49 : Nat) : Int) := by
      clear hst
      omega
    have a1 : ∀ g : zv_H, zm_M g → zv_I g 351 = zv_I h 351 → zv_aI g 351 (a.length : Int) = some t := by
      intro g hg eg
      rw [zm_aI hg zm_l351 rfl j0 j1, j2, eg, h351 _ _ hx]
    have go : ∀ (g : zv_H) (v : Int), zm_F [363, 364] [] h g → zm_M g → zv_I g 363 = zm_u (zv_I h 363) a.length t → zv_I g 364 = zv_I h 364 → (v ≠ 0 ↔ zt_wf c l lh t) → (v = 0 ∨ v = 1) → ∃ h', ((zv_wB g 364 (a.length : Int) v).bind fun g => L9_mergeNow_44 (d + 3) 347 l.length (((a ++ [t]).length : Nat) : Int) g) = L9_mergeNow_44 (d + 3) 347 l.length l.length h' ∧ zm_F [363, 364] [] h h' ∧ (∀ (k : Nat) (x : Int), l.reverse[k]? = some x → zv_I h' 363 k = x ∧ (zv_I h' 364 k ≠ 0 ↔ zt_wf c l lh x)) := by
      intro g v fg hg e363 e364 hv hv01
      have nv : zv_nz v = v := by
        unfold zv_nz
        clear hst
        omega
      rw [zm_e (zm_wB hg zm_l364 rfl j0 j1 v), nv, j2]
      obtain ⟨h', i1, i2, i3⟩ := zt_merge44 d w hlh hl hn b (a ++ [t]) e' (zv_sI g 364 a.length v) hg ((zm_so g _ _).trans ((zm_F_a fg 348).trans hc)) (fun k x hx => by rw [zm_so g _ _, zm_F_a fg 351]; exact h351 k x hx) (fun x hx => by rw [zm_so g _ _, zm_F_a fg 354]; exact h354 x hx) (fun k x hk2 hx2 => by
        rw [zm_so g _ _, zm_ss, e363, e364]
        rw [List.length_append, List.length_singleton] at hk2
        by_cases q : k = a.length
        · rw [q, zm_u_s, zm_u_s]
          rw [q, hx] at hx2
          rw [← Option.some.inj hx2]
          exact ⟨rfl, hv⟩
        · rw [zm_u_o _ _ q, zm_u_o _ _ q]
          clear hst
          exact hk k x (by omega) hx2)
      exact ⟨h', i1, zm_F_t (zm_F_I fg rfl _ _) i2, i3⟩
    rw [qL9_mergeNow_44, if_pos j3, zm_e (zm_f22 hM), zm_e (zm_f5 hM), zm_e (a1 h hM rfl), zm_e (zm_wI hM zm_l363 rfl j0 j1 _), j2, w1]
    have f1 : zm_F [363, 364] [] h (zv_sI h 363 a.length t) := zm_F_I (zm_F_r _ _ h) rfl _ _
    have e363 : zv_I (zv_sI h 363 a.length t) 363 = zm_u (zv_I h 363) a.length t := zm_ss _ _ _ _
    have e364 : zv_I (zv_sI h 363 a.length t) 364 = zv_I h 364 := zm_so _ _ _
    generalize zv_sI h 363 a.length t = h1 at f1 e363 e364
    have hM1 := zm_F_M f1 hM
    have c1 : zv_I h1 348 = c := (zm_F_a f1 348).trans hc
    have e354 : zv_I h1 354 t.toNat = zm_fc c l t := by rw [zm_F_a f1 354]; exact h354 t htl
    rw [zm_e (zm_f23 hM1), zm_e (zm_f5 hM1), zm_e (a1 h1 hM1 (zm_F_a f1 351)), zm_e (zm_isEdit hM1 _ h48), c1]
    dsimp only
    by_cases q1 : zm_ed c t
    · rw [if_pos q1, if_neg (by decide), zm_e (zm_f8 hM1), zm_e (zm_f5 hM1), zm_e (a1 h1 hM1 (zm_F_a f1 351)), zm_e (zm_aB hM1 zm_l354 (Or.inl rfl) rfl h48.1 t49)]
      by_cases q2 : zv_I h1 354 t.toNat = 0
      · rw [if_pos q2]
        exact go h1 0 f1 hM1 e363 e364 ⟨fun z => absurd rfl z, fun z => absurd (e354.symm.trans q2) z.2.1⟩ (Or.inl rfl)
      · have hl' : zm_Ln (zv_I h1 348) (c 0 :: lh) (c 0) := by
          rw [c1]
          exact hlh
        rw [if_neg q2, zm_e (zm_f5 hM1), zm_e (a1 h1 hM1 (zm_F_a f1 351)), zm_e (zm_here hM1 _), c1]
        dsimp only
        rw [zm_e (zm_isOfLine hM1 _ t hl')]
        dsimp only
        by_cases q3 : t ∈ c 0 :: lh
        · rw [if_pos q3, if_neg (by decide)]
          exact go h1 0 f1 hM1 e363 e364 ⟨fun z => absurd rfl z, fun z => absurd q3 z.2.2⟩ (Or.inl rfl)
        · rw [if_neg q3, if_pos rfl]
          exact go h1 1 f1 hM1 e363 e364 ⟨fun _ => ⟨q1, fun z => q2 (e354.trans z), q3⟩, fun _ => by decide⟩ (Or.inr rfl)
    · rw [if_neg q1, if_pos rfl]
      exact go h1 0 f1 hM1 e363 e364 ⟨fun z => absurd rfl z, fun z => absurd z.1 q1⟩ (Or.inl rfl)
theorem zt_wf_b {c : Nat → Int} {l lh : List Int} {v w : Int64} (hv : ∀ t : Nat, t < 64 → (zt_b v t = true ↔ t < 48 ∧ (t : Int) ∈ l ∧ zm_ed c t ∧ zm_fc c l t = 1)) (hw : ∀ t : Nat, t < 64 → (zt_b w t = true ↔ t < 48 ∧ (t : Int) ∈ c 0 :: lh ∧ zm_ed c t)) {x : Int} (hx : 0 ≤ x ∧ x ≤ 47) (xl : x ∈ l) : zv_lcmp ((v &&& (w ^^^ (-1 : Int64))) &&& zt_bt x.toNat) (Int64.ofNat 0) = 0 ↔ ¬ zt_wf c l lh x := by
  have x48 : x.toNat < 48 := by omega
  have x64 : x.toNat < 64 := by omega
  have ex : ((x.toNat : Nat) : Int) = x := by omega
  have a1 := hv x.toNat x64
  have a2 := hw x.toNat x64
  rw [ex] at a1 a2
  rw [zt_lcmp_bt _ x48, zt_b_and, zt_b_not _ x64]
  have f01 := zm_fc_01 c x l
  have f1 : zm_fc c l x ≠ 0 ↔ zm_fc c l x = 1 := by
    rcases f01 with f | f <;> rw [f] <;> decide
  unfold zt_wf
  rw [f1]
  by_cases b1 : zt_b v x.toNat = true
  · obtain ⟨_, _, c3, c4⟩ := a1.mp b1
    by_cases b2 : zt_b w x.toNat = true
    · have d2 := (a2.mp b2).2.1
      rw [b1, b2]
      exact ⟨fun _ q => q.2.2 d2, fun _ => rfl⟩
    · have d2 : ¬ x ∈ c 0 :: lh := fun q => b2 (a2.mpr ⟨x48, q, c3⟩)
      rw [b1, Bool.eq_false_iff.mpr b2]
      exact ⟨fun q => absurd q (by decide), fun q => absurd ⟨c3, c4, d2⟩ q⟩
  · rw [Bool.eq_false_iff.mpr b1]
    exact ⟨fun _ q => b1 (a1.mpr ⟨x48, xl, q.1, q.2.1⟩), fun _ => rfl⟩
