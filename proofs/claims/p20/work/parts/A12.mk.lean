/-! ===== the tie: making the relation anew ===== -/
/-- one State, but for its depth and its children -/
def zt_S0 (a : Nat) (c : Nat → Int) (h : zv_H) (s : Int) : Prop := (zv_R h (zt_r a s) 4 = zt_r a (zm_o c s 1)) ∧ (zv_R h (zt_r a s) 5 = zt_r a (zm_o c s 6)) ∧ (zv_I h (zt_r a s) 6 = zm_o c s 2) ∧ (zv_I h (zt_r a s) 7 = zm_o c s 3) ∧ (zv_I h (zt_r a s) 8 = zm_o c s 4) ∧ (zv_I h (zt_r a s) 9 = zm_o c s 5) ∧ (zv_I h (zt_r a s) 13 = zm_o c s 7) ∧ (zv_I h (zt_r a s) 15 = (if zm_o c s 2 = 0 ∧ 0 ≤ zm_o c s 8 then zt_id (zm_o c s 8, zm_o c s 9) else -1)) ∧ (∀ t : Nat, t < 64 → (zt_b (zv_J h (zt_r a s) 16) t = true ↔ t < 48 ∧ zm_nm c s t)) ∧ (∀ t : Nat, t < 64 → (zt_b (zv_J h (zt_r a s) 17) t = true ↔ 1 ≤ t ∧ t < 48 ∧ zt_ln c s t)) ∧ (zm_o c s 2 = 1 → ∀ (k : Nat) (x : Int × Int), (zm_tk c s)[k]? = some x → zv_I h (zt_r a s + 1) k = zt_id x) ∧ ((zm_o c s 2 = 0 ∨ s = 0) → ∀ k : Nat, (k : Int) < zm_o c s 5 → zv_I h (a + 5) (zt_id (s, (k : Int))).toNat = zm_o c s (12 + (k : Int))) ∧ (∀ l, zm_Ln c (s :: l) s → zv_I h (zt_r a s) 12 = (zt_dc c (s :: l)).length) ∧ (∀ l, zm_Ln c (s :: l) s → ∀ (n : Nat) (x : Int × Int), (zt_dc c (s :: l))[n]? = some x → zv_I h (zt_r a s + 2) n = zt_id x) ∧ (zt_cw c s)
theorem zt_S0_pa {a : Nat} {c : Nat → Int} {h : zv_H} {s : Int} (t : zt_S0 a c h s) : zv_R h (zt_r a s) 4 = zt_r a (zm_o c s 1) := t.1
theorem zt_S0_fi {a : Nat} {c : Nat → Int} {h : zv_H} {s : Int} (t : zt_S0 a c h s) : zv_R h (zt_r a s) 5 = zt_r a (zm_o c s 6) := t.2.1
theorem zt_S0_ac {a : Nat} {c : Nat → Int} {h : zv_H} {s : Int} (t : zt_S0 a c h s) : zv_I h (zt_r a s) 6 = zm_o c s 2 := t.2.2.1
theorem zt_S0_ti {a : Nat} {c : Nat → Int} {h : zv_H} {s : Int} (t : zt_S0 a c h s) : zv_I h (zt_r a s) 7 = zm_o c s 3 := t.2.2.2.1
theorem zt_S0_pl {a : Nat} {c : Nat → Int} {h : zv_H} {s : Int} (t : zt_S0 a c h s) : zv_I h (zt_r a s) 8 = zm_o c s 4 := t.2.2.2.2.1
theorem zt_S0_sz {a : Nat} {c : Nat → Int} {h : zv_H} {s : Int} (t : zt_S0 a c h s) : zv_I h (zt_r a s) 9 = zm_o c s 5 := t.2.2.2.2.2.1
theorem zt_S0_vi {a : Nat} {c : Nat → Int} {h : zv_H} {s : Int} (t : zt_S0 a c h s) : zv_I h (zt_r a s) 13 = zm_o c s 7 := t.2.2.2.2.2.2.1
theorem zt_S0_an {a : Nat} {c : Nat → Int} {h : zv_H} {s : Int} (t : zt_S0 a c h s) : zv_I h (zt_r a s) 15 = (if zm_o c s 2 = 0 ∧ 0 ≤ zm_o c s 8 then zt_id (zm_o c s 8, zm_o c s 9) else -1) := t.2.2.2.2.2.2.2.1
theorem zt_S0_nm {a : Nat} {c : Nat → Int} {h : zv_H} {s : Int} (t : zt_S0 a c h s) : ∀ t : Nat, t < 64 → (zt_b (zv_J h (zt_r a s) 16) t = true ↔ t < 48 ∧ zm_nm c s t) := t.2.2.2.2.2.2.2.2.1
theorem zt_S0_bs {a : Nat} {c : Nat → Int} {h : zv_H} {s : Int} (t : zt_S0 a c h s) : ∀ t : Nat, t < 64 → (zt_b (zv_J h (zt_r a s) 17) t = true ↔ 1 ≤ t ∧ t < 48 ∧ zt_ln c s t) := t.2.2.2.2.2.2.2.2.2.1
theorem zt_S0_tk {a : Nat} {c : Nat → Int} {h : zv_H} {s : Int} (t : zt_S0 a c h s) : zm_o c s 2 = 1 → ∀ (k : Nat) (x : Int × Int), (zm_tk c s)[k]? = some x → zv_I h (zt_r a s + 1) k = zt_id x := t.2.2.2.2.2.2.2.2.2.2.1
theorem zt_S0_gl {a : Nat} {c : Nat → Int} {h : zv_H} {s : Int} (t : zt_S0 a c h s) : (zm_o c s 2 = 0 ∨ s = 0) → ∀ k : Nat, (k : Int) < zm_o c s 5 → zv_I h (a + 5) (zt_id (s, (k : Int))).toNat = zm_o c s (12 + (k : Int)) := t.2.2.2.2.2.2.2.2.2.2.2.1
theorem zt_S0_ln {a : Nat} {c : Nat → Int} {h : zv_H} {s : Int} (t : zt_S0 a c h s) : ∀ l, zm_Ln c (s :: l) s → zv_I h (zt_r a s) 12 = (zt_dc c (s :: l)).length := t.2.2.2.2.2.2.2.2.2.2.2.2.1
theorem zt_S0_dc {a : Nat} {c : Nat → Int} {h : zv_H} {s : Int} (t : zt_S0 a c h s) : ∀ l, zm_Ln c (s :: l) s → ∀ (n : Nat) (x : Int × Int), (zt_dc c (s :: l))[n]? = some x → zv_I h (zt_r a s + 2) n = zt_id x := t.2.2.2.2.2.2.2.2.2.2.2.2.2.1
theorem zt_S0_cw {a : Nat} {c : Nat → Int} {h : zv_H} {s : Int} (t : zt_S0 a c h s) : zt_cw c s := t.2.2.2.2.2.2.2.2.2.2.2.2.2.2
theorem zt_S_0 {a : Nat} {c : Nat → Int} {h : zv_H} {s : Int} (S : zt_S a c h s) : zt_S0 a c h s := ⟨zt_S_pa S, zt_S_fi S, zt_S_ac S, zt_S_ti S, zt_S_pl S, zt_S_sz S, zt_S_vi S, zt_S_an S, zt_S_nm S, zt_S_bs S, zt_S_tk S, zt_S_gl S, zt_S_ln S, zt_S_dc S, zt_S_cw S⟩
/-- the depth, by the parents -/
theorem zt_de_of {a : Nat} {c : Nat → Int} {h : zv_H} (la : zv_lay a = (1, 0)) (hA : zc_A h) (lv : ∀ i : Nat, i < 48 → zv_I h (zc_stt a i) 3 = zm_o c i 0) (pa : ∀ s, zm_st c s → zv_R h (zt_r a s) 4 = zt_r a (zm_o c s 1)) : ∀ (l : List Int) (s : Int), zm_Ln c (s :: l) s → (∀ t ∈ s :: l, zm_st c t) → zv_I h (zt_r a s) 10 = l.length := by
  have there : ∀ s, zm_st c s → zv_I h (zt_r a s) 3 = 1 := fun s hs => by
    have h1 := hs.1
    rw [zt_r_p hs.1.1, lv s.toNat (by omega), show ((s.toNat : Nat) : Int) = s by omega]
    exact hs.2
  intro l
  induction l with
  | nil =>
    intro s hl hst
    have hs := hst s List.mem_cons_self
    have hp : zm_o c s 1 < 0 := hl.2
    have t := hA.2.1 _ (zt_r_l la hs.1)
    have e0 : zv_R h (zt_r a s) 4 = 0 := by rw [pa s hs, zt_r_n hp]
    rcases t with t | t
    · rw [there s hs] at t
      exact absurd t.1 (by decide)
    · rcases t.2.2.1 with u | u
      · rw [u.2]; rfl
      · exact absurd e0 (zc_nz u.1)
  | cons p l ih =>
    intro s hl hst
    have hs := hst s List.mem_cons_self
    have hpst := hst p (List.mem_cons_of_mem _ List.mem_cons_self)
    have ep : zm_o c s 1 = p := hl.2.1.1
    have hl2 := hl.2
    rw [ep] at hl2
    have d := ih p hl2 (fun t ht => hst t (List.mem_cons_of_mem _ ht))
    have t := hA.2.1 _ (zt_r_l la hs.1)
    have e0 : zv_R h (zt_r a s) 4 = zt_r a p := by rw [pa s hs, ep]
    rcases t with t | t
    · rw [there s hs] at t
      exact absurd t.1 (by decide)
    · rcases t.2.2.1 with u | u
      · exact absurd (e0.symm.trans u.1) (zc_nz (zt_r_l la hpst.1))
      · have := u.2.2.2
        rw [e0, d] at this
        rw [← this, List.length_cons]
        omega
/-- the children, by the parents -/
theorem zt_ch_of {a : Nat} {c : Nat → Int} {h : zv_H} (la : zv_lay a = (1, 0)) (hA : zc_A h) (lv : ∀ i : Nat, i < 48 → zv_I h (zc_stt a i) 3 = zm_o c i 0) (pa : ∀ s, zm_st c s → zv_R h (zt_r a s) 4 = zt_r a (zm_o c s 1)) (pr : ∀ s, zm_st c s → zm_o c s 1 ≤ 47) (h01 : ∀ s, 0 ≤ s → s ≤ 47 → zm_o c s 0 = 0 ∨ zm_o c s 0 = 1) {s : Int} (hs : zm_st c s) : zv_I h (zt_r a s) 11 = zm_nch c s := by
  have hs1 := hs.1
  have there : zv_I h (zt_r a s) 3 = 1 := by
    rw [zt_r_p hs.1.1, lv s.toNat (by omega), show ((s.toNat : Nat) : Int) = s by omega]
    exact hs.2
  have t := hA.2.1 _ (zt_r_l la hs.1)
  rcases t with t | t
  · rw [there] at t
    exact absurd t.1 (by decide)
  · rw [t.2.2.2.2]
    have key : ∀ n : Nat, n ≤ 48 → zc_ch h (zt_r a s) n = zm_sum (fun k => if zm_st c k ∧ zm_o c k 1 = s then 1 else 0) n := by
      intro n
      induction n with
      | zero => intro _; rfl
      | succ n ih =>
        intro hn
        have e1 : zc_ch h (zt_r a s) (n + 1) = zc_ch h (zt_r a s) n + (if zv_R h (zc_stt (zc_hf (zt_r a s)) n) 4 = zt_r a s then 1 else 0) := rfl
        have e2 : zm_sum (fun k => if zm_st c k ∧ zm_o c k 1 = s then 1 else 0) (n + 1) = zm_sum (fun k => if zm_st c k ∧ zm_o c k 1 = s then 1 else 0) n + (if zm_st c n ∧ zm_o c n 1 = s then 1 else 0) := rfl
        rw [e1, e2, ih (by omega), zt_r_h la hs.1]
        have iff : zv_R h (zc_stt a n) 4 = zt_r a s ↔ zm_st c n ∧ zm_o c n 1 = s := by
          have rn : zt_r a (n : Int) = zc_stt a n := by
            rw [zt_r_p (by omega)]
            rfl
          constructor
          · intro q
            have hn1 : zm_st c (n : Int) := by
              refine ⟨by omega, ?_⟩
              have l := lv n (by omega)
              rcases h01 (n : Int) (by omega) (by omega) with z | z
              · exfalso
                rw [z] at l
                rcases hA.2.1 _ (zc_stl la (show n < 48 by omega)).1 with t2 | t2
                · rw [t2.2] at q
                  exact zc_nz (zt_r_l la hs.1) q.symm
                · rw [t2.1] at l
                  cases l
              · exact z
            refine ⟨hn1, ?_⟩
            have p := pa _ hn1
            rw [rn, q] at p
            have ub := pr _ hn1
            by_cases neg : zm_o c (n : Int) 1 < 0
            · rw [zt_r_n neg] at p
              exact absurd p (zc_nz (zt_r_l la hs.1))
            · exact (zt_r_inj la hs.1 ⟨by omega, ub⟩ p).symm
          · intro q
            have p := pa _ q.1
            rw [rn, q.2] at p
            exact p
        by_cases q : zv_R h (zc_stt a n) 4 = zt_r a s
        · rw [if_pos q, if_pos (iff.mp q)]
        · rw [if_neg q, if_neg (fun z => q (iff.mpr z))]
    exact key 48 (Nat.le_refl _)
theorem zt_par {c : Nat → Int} (w : zm_W c) {s : Int} (hs : zm_st c s) : zm_o c s 1 ≤ 47 := by
  obtain ⟨l, h1, _⟩ := zm_W_l w.1 hs
  cases l with
  | nil =>
    have : zm_o c s 1 < 0 := h1.1.2
    omega
  | cons p l =>
    have e : zm_o c s 1 = p := h1.1.2.1.1
    have := (h1.2.1.2.2 p (List.mem_cons_of_mem _ List.mem_cons_self)).1
    omega
theorem zt_U_mk {a : Nat} {c : Nat → Int} {h : zv_H} (la : zv_lay a = (1, 0)) (w : zm_W c) (hA : zc_A h) (lv : ∀ i : Nat, i < 48 → zv_I h (zc_stt a i) 3 = zm_o c i 0) (st : ∀ s, zm_st c s → zt_S0 a c h s) (he : zv_R h a 10 = zt_r a (c 0)) (nw : zv_I h a 11 = c 1) (ct : zv_I h a 12 = zm_nst c) : zt_U a c h := by
  have pa : ∀ s, zm_st c s → zv_R h (zt_r a s) 4 = zt_r a (zm_o c s 1) := fun s hs => zt_S0_pa (st s hs)
  refine ⟨la, w, lv, fun i hi => hA.1.2.2.2.2.2.2.2 a i la hi, fun s hs => ?_, he, nw, ct⟩
  have S := st s hs
  refine ⟨zt_S0_pa S, zt_S0_fi S, zt_S0_ac S, zt_S0_ti S, zt_S0_pl S, zt_S0_sz S, zt_S0_vi S, zt_S0_an S, zt_S0_nm S, zt_S0_bs S, zt_S0_tk S, zt_S0_gl S, zt_S0_ln S, zt_S0_dc S, fun l hl => ?_, zt_ch_of la hA lv pa (fun s hs => zt_par w hs) w.1.1 hs, zt_S0_cw S⟩
  exact zt_de_of la hA lv pa l s hl (zt_line_u w hs hl).1.2.2.1
/-- two arrays of numbers that agree about a state, but for its life -/
def zt_ag (c c' : Nat → Int) (t : Int) : Prop := ∀ w : Int, 1 ≤ w → w < 76 → zm_o c' t w = zm_o c t w
theorem zt_ag_m {c c' : Nat → Int} {t : Int} (h : zt_ag c c' t) : zm_ag c c' t := fun w w0 w1 _ => h w w0 w1
/-- a State's cells are as they were, but for its children -/
def zt_sf (a : Nat) (h h' : zv_H) (s : Int) : Prop := (∀ k, k ≠ 11 → k ≠ 14 → k ≠ 3 → zv_I h' (zt_r a s) k = zv_I h (zt_r a s) k) ∧ (∀ k, zv_I h' (zt_r a s + 1) k = zv_I h (zt_r a s + 1) k) ∧ (∀ k, zv_I h' (zt_r a s + 2) k = zv_I h (zt_r a s + 2) k) ∧ (∀ k, zv_J h' (zt_r a s) k = zv_J h (zt_r a s) k) ∧ ∀ k, zv_R h' (zt_r a s) k = zv_R h (zt_r a s) k
theorem zt_cw_cg {c c' : Nat → Int} {s : Int} {l : List Int} (w : zt_cw c s) (hl : zm_Ln c (s :: l) s) (ha : ∀ t ∈ s :: l, zm_ag c c' t) : zt_cw c' s := by
  have hs := ha s List.mem_cons_self
  have e2 : zm_o c' s 2 = zm_o c s 2 := hs 2 (by decide) (by decide) (by decide)
  have ed : zm_ed c' s ↔ zm_ed c s := zm_ed_cg hs
  have un : ∀ l', zm_Ln c' (s :: l') s → l' = l := fun l' h' => (List.cons.inj (zm_Ln_u h' (zm_Ln_cg ha hl))).2
  refine ⟨fun l' h' t t0 t1 hn => ?_, fun l' h' k0 k1 => ?_, ?_, ?_⟩
  · rw [un l' h']
    have hn' := (zm_nm_cg hs t).mp hn
    obtain ⟨a1, a2, a3⟩ := zt_cw_nm w l hl t t0 t1 hn'
    exact ⟨a1, (zm_ed_cg (ha t (List.mem_cons_of_mem _ a1))).mpr a2, fun q => a3 (ed.mp q)⟩
  · rw [un l' h']
    rw [e2] at k0
    rw [hs 8 (by decide) (by decide) (by decide)] at k1
    rw [hs 8 (by decide) (by decide) (by decide), hs 9 (by decide) (by decide) (by decide), zm_row_cg (fun t ht => ha t (List.mem_cons_of_mem _ ht))]
    exact zt_cw_an w l hl k0 k1
  · rw [e2]; exact zt_cw_s0 w
  · rw [e2]; exact zt_cw_ac w
theorem zt_dc_cg {c c' : Nat → Int} {L : List Int} (ha : ∀ t ∈ L, zm_ag c c' t) (g : zm_G0 c L) : zt_dc c' L = zt_dc c L := by
  unfold zt_dc
  rw [zm_row_cg ha, zm_fl_cg (fun p _ => zm_sn_cg p ha (zm_cut12 g))]
/-- an old State, whose cells and whose line are as they were -/
theorem zt_S0_cg {a : Nat} {c c' : Nat → Int} {h h' : zv_H} {s : Int} {l : List Int} (W : zm_W c) (hs : zm_st c s) (S : zt_S0 a c h s) (hl : zm_Ln c (s :: l) s) (ha : ∀ t ∈ s :: l, zm_ag c c' t) (h7 : zv_I h' (zt_r a s) 13 = zm_o c' s 7) (f : ∀ k, k ≠ 11 → k ≠ 14 → k ≠ 3 → k ≠ 13 → zv_I h' (zt_r a s) k = zv_I h (zt_r a s) k) (f1 : ∀ k, zv_I h' (zt_r a s + 1) k = zv_I h (zt_r a s + 1) k) (f2 : ∀ k, zv_I h' (zt_r a s + 2) k = zv_I h (zt_r a s + 2) k) (fJ : ∀ k, zv_J h' (zt_r a s) k = zv_J h (zt_r a s) k) (fR : ∀ k, zv_R h' (zt_r a s) k = zv_R h (zt_r a s) k) (fg : (zm_o c s 2 = 0 ∨ s = 0) → ∀ k : Nat, (k : Int) < zm_o c s 5 → zv_I h' (a + 5) (zt_id (s, (k : Int))).toNat = zv_I h (a + 5) (zt_id (s, (k : Int))).toNat) : zt_S0 a c' h' s := by
  have hag := ha s List.mem_cons_self
  have e : ∀ w : Int, 1 ≤ w → w < 76 → w ≠ 7 → zm_o c' s w = zm_o c s w := hag
  obtain ⟨ok, g0, gt, W1⟩ := zt_line_u W hs hl
  have un : ∀ l', zm_Ln c' (s :: l') s → l' = l := fun l' h' => (List.cons.inj (zm_Ln_u h' (zm_Ln_cg ha hl))).2
  have edc := zt_dc_cg ha g0
  have etk : zm_o c s 2 = 1 → zm_tk c' s = zm_tk c s := fun q => zm_tk_cg hag (zm_cut12 g0 s List.mem_cons_self q)
  refine ⟨?_, ?_, ?_, ?_, ?_, ?_, h7, ?_, fun t ht => ?_, fun t ht => ?_, fun q k x hx => ?_, fun q k hk => ?_, fun l' hl' => ?_, fun l' hl' n x hx => ?_, zt_cw_cg (zt_S0_cw S) hl ha⟩
  · rw [fR, e 1 (by decide) (by decide) (by decide)]; exact zt_S0_pa S
  · rw [fR, e 6 (by decide) (by decide) (by decide)]; exact zt_S0_fi S
  · rw [f 6 (by decide) (by decide) (by decide) (by decide), e 2 (by decide) (by decide) (by decide)]; exact zt_S0_ac S
  · rw [f 7 (by decide) (by decide) (by decide) (by decide), e 3 (by decide) (by decide) (by decide)]; exact zt_S0_ti S
  · rw [f 8 (by decide) (by decide) (by decide) (by decide), e 4 (by decide) (by decide) (by decide)]; exact zt_S0_pl S
  · rw [f 9 (by decide) (by decide) (by decide) (by decide), e 5 (by decide) (by decide) (by decide)]; exact zt_S0_sz S
  · rw [f 15 (by decide) (by decide) (by decide) (by decide), e 2 (by decide) (by decide) (by decide), e 8 (by decide) (by decide) (by decide), e 9 (by decide) (by decide) (by decide)]; exact zt_S0_an S
  · rw [fJ, zt_S0_nm S t ht, zm_nm_cg hag]
  · rw [fJ, zt_S0_bs S t ht]
    have : zt_ln c' s t ↔ zt_ln c s t := by
      unfold zt_ln
      rw [e 2 (by decide) (by decide) (by decide), e 8 (by decide) (by decide) (by decide)]
      constructor
      · intro q
        rcases q with q | q
        · exact Or.inl q
        · rw [etk q.1] at q; exact Or.inr q
      · intro q
        rcases q with q | q
        · exact Or.inl q
        · rw [← etk q.1] at q; exact Or.inr q
    rw [this]
  · rw [e 2 (by decide) (by decide) (by decide)] at q
    rw [etk q] at hx
    rw [f1]; exact zt_S0_tk S q k x hx
  · rw [e 2 (by decide) (by decide) (by decide)] at q
    rw [e 5 (by decide) (by decide) (by decide)] at hk
    have hk2 : (k : Int) < 64 := by
      rcases q with z | z
      · by_cases s0 : s = 0
        · have := g0.2.2.1
          rw [s0] at hk
          omega
        · have := g0.2.2.2.2 s List.mem_cons_self s0 (Or.inl z)
          omega
      · have := g0.2.2.1
        rw [z] at hk
        omega
    rw [e (12 + (k : Int)) (by omega) (by omega) (by omega), fg q k hk]
    exact zt_S0_gl S q k hk
  · rw [un l' hl', f 12 (by decide) (by decide) (by decide) (by decide), edc]; exact zt_S0_ln S l hl
  · rw [un l' hl', edc] at hx
    rw [f2]; exact zt_S0_dc S l hl n x hx
