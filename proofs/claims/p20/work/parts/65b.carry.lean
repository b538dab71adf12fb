theorem zm_carriesCut_l (d : Nat) {c : Nat → Int} (w : zm_W c) {s : Int} (hs : zm_st c s) (hk : zm_o c s 2 = 1) {l : List Int} (hn : (zm_row c l).length ≤ 640) {h : zv_H} (hM : zm_M h) (hc : zv_I h 348 = c) (hS : zm_Sn h c l) : ∀ (n i : Nat) (a b e : Int), i + n = (zm_row c l).length → -1 ≤ a → a ≤ 1000 → 0 ≤ b → b ≤ i → 0 ≤ e → e ≤ i → zm_R (L9_carriesCut_18 (d + 6) 347 s a b e i h) (zm_I fun v h' => zm_F [348, 351, 352, 353, 354, 355, 358, 359] [3, 10, 11, 12] h h' ∧ zm_Dn c v (zv_I h' 348))
  | 0, i, a, b, e, hi, a0, a1, b0, b1, e0, e1 => by
    rw [qL9_carriesCut_18, zm_e (zm_gI hM 11), hS.2.1.1, if_neg (by omega)]
    refine zm_if (fun _ => ?_) (fun _ => ?_)
    · rw [zm_e (zm_refuse hM _ 10)]
      have e : zv_I (zv_sI h 347 3 10) 348 = c := (zm_so h _ _).trans hc
      exact zm_iI ⟨zm_F_f (zm_F_r _ _ h) rfl _, by rw [e]; exact ⟨w, Or.inl ⟨rfl, rfl⟩⟩⟩
    · obtain ⟨⟨v, h1⟩, ev, f1, W1, q1⟩ := zm_cutNow hM hc w d a b (by omega)
      rw [zm_e ev]
      refine zm_iI ⟨f1, W1, ?_⟩
      rcases q1 with q | q
      · exact Or.inl q
      · exact Or.inr ⟨q.1, q.2.1, q.2.2.1⟩
  | n + 1, i, a, b, e, hi, a0, a1, b0, b1, e0, e1 => by
    have j0 : (0 : Int) ≤ (i : Int) := by omega
    have j1 : (i : Int) < ((640 : Nat) : Int) := by omega
    have j2 : (0 : Int) ≤ (i : Int) ∧ (i : Int) < 640 := by omega
    have w1 : zv_w ((i : Int) + 1) = ((i + 1 : Nat) : Int) := by
      rw [zm_w (by omega)]
      rfl
    rw [qL9_carriesCut_18, zm_e (zm_gI hM 11), hS.2.1.1, if_pos (by omega), zm_e (zm_f9 hM), zm_e (zm_aB hM zm_l355 (Or.inl rfl) rfl j0 j1), w1]
    refine zm_if (fun _ => ?_) (fun _ => ?_)
    · exact zm_carriesCut_l d w hs hk hn hM hc hS n (i + 1) a b e (by omega) a0 a1 b0 (by omega) e0 (by omega)
    · obtain ⟨v, ev, qv⟩ := zm_isTaken hM hc w.1 (d + 4) hs hk (zm_ed_m w.1 hs (Or.inr hk)) (r := i) j2
      rw [zm_e ev, zm_w (x := e + 1) (by omega)]
      dsimp only
      have l69 : zm_R (L9_carriesCut_69 (d + 6) 347 s a b e i h) (zm_I fun v h' => zm_F [348, 351, 352, 353, 354, 355, 358, 359] [3, 10, 11, 12] h h' ∧ zm_Dn c v (zv_I h' 348)) := by
        rw [qL9_carriesCut_69, w1, zm_w (x := e + 1) (by omega), zm_w (x := b + 1) (by omega)]
        refine zm_if (fun _ => ?_) (fun _ => ?_)
        · exact zm_carriesCut_l d w hs hk hn hM hc hS n (i + 1) e (b + 1) (e + 1) (by omega) (by omega) (by omega) (by omega) (by omega) (by omega) (by omega)
        · exact zm_carriesCut_l d w hs hk hn hM hc hS n (i + 1) a (b + 1) (e + 1) (by omega) a0 a1 (by omega) (by omega) (by omega) (by omega)
      refine zm_if (fun _ => ?_) (fun _ => ?_)
      · exact zm_carriesCut_l d w hs hk hn hM hc hS n (i + 1) a b (e + 1) (by omega) a0 a1 b0 (by omega) (by omega) (by omega)
      · refine zm_if (fun _ => l69) (fun _ => zm_if (fun _ => l69) (fun _ => ?_))
        rw [zm_e (zm_refuse hM _ 10)]
        have e : zv_I (zv_sI h 347 3 10) 348 = c := (zm_so h _ _).trans hc
        exact zm_iI ⟨zm_F_f (zm_F_r _ _ h) rfl _, by rw [e]; exact ⟨w, Or.inl ⟨rfl, rfl⟩⟩⟩
theorem zm_carriesCut {h : zv_H} {c : Nat → Int} (hM : zm_M h) (hc : zv_I h 348 = c) (w : zm_W c) (d : Nat) {s : Int} (hs : zm_st c s) (hk : zm_o c s 2 = 1) : zm_R (C9_carriesCut (d + 7) 347 s h) (fun q => zm_F [348, 351, 352, 353, 354, 355, 358, 359] [3, 10, 11, 12] h q.2 ∧ zm_Dn c q.1 (zv_I q.2 348)) := by
  refine zm_cI (P := fun v h' => zm_F [348, 351, 352, 353, 354, 355, 358, 359] [3, 10, 11, 12] h h' ∧ zm_Dn c v (zv_I h' 348)) (lC9_carriesCut (zm_ob hM)) ?_
  obtain ⟨l, hl, hl2, g, gt⟩ := zm_W_l w.1 w.2.1
  obtain ⟨h1, e1, f1, hSn⟩ := zm_sees_st hM hc (d + 2) hl hl2 g gt
  have hrl := zm_row_le g
  rw [List.length_cons] at hrl
  rw [qE9_carriesCut, zm_e (zm_here hM _), hc]
  dsimp only
  rw [zm_e e1]
  refine zm_mono (zm_carriesCut_l d w hs hk (by omega) (zm_F_M f1 hM) ((zm_F_a f1 348).trans hc) hSn _ 0 (-1) 0 0 (Nat.zero_add _) (by decide) (by decide) (by decide) (by decide) (by decide) (by decide)) ?_
  rintro ⟨ov, h'⟩ ⟨v, ev, f2, q2⟩
  exact ⟨v, ev, zm_F_t (zm_F_s f1 rfl rfl) f2, q2⟩
