/-! ===== the tie: names tried; turning, in the reference ===== -/
theorem zt_nd_rev {l : List Int} (h : l.Nodup) : l.reverse.Nodup := List.pairwise_reverse.mpr (List.Pairwise.imp (fun q e => q e.symm) h)
theorem zt_namesToo {h : zv_H} {c : Nat → Int} (hM : zm_M h) (hc : zv_I h 348 = c) (d : Nat) {s : Int} (hs : 0 ≤ s ∧ s ≤ 48) {t : Int} (t0 : 0 ≤ t) (t1 : t < 48) : ∃ (w v : Int), (w = 10 ∨ w = 11) ∧ C9_namesToo (d + 2) 347 s t h = some (zv_sI h 348 (432 + 76 * s.toNat + w.toNat) v) ∧ ∀ x : Int, 0 ≤ x → x < 48 → (zm_nm (zm_os c s w v) s x ↔ zm_nm c s x ∨ x = t) := by
  subst hc
  have em : t.tmod 24 = ((t.toNat % 24 : Nat) : Int) := by
    rw [Int.tmod_eq_emod_of_nonneg t0]
    omega
  have bits : ∀ (w : Int), (w = if t < 24 then 10 else 11) → ∀ x : Int, 0 ≤ x → x < 48 → (zm_nm (zm_os (zv_I h 348) s w (zv_or (zm_o (zv_I h 348) s w) (zv_shl 1 (t.tmod 24)))) s x ↔ zm_nm (zv_I h 348) s x ∨ x = t) := fun w hw x x0 x1 => by
    rw [zt_nm_b x0 x1, zt_nm_b x0 x1]
    by_cases e : (if x < 24 then (10 : Int) else 11) = w
    · rw [e, zm_os_s, em, zt_or_shl _ (by omega) _ (by omega), Bool.or_eq_true, decide_eq_true_eq]
      have key : x.toNat % 24 = t.toNat % 24 ↔ x = t := by
        rw [hw] at e
        split at e <;> split at e <;> omega
      rw [key]
    · have w76 : 0 ≤ w ∧ w < 76 := by
        rw [hw]
        split <;> decide
      rw [zm_os_o _ _ hs.1 w76 hs.1 (by split <;> decide) (fun q => e q.2)]
      have ne : x ≠ t := fun q => by
        rw [hw, q] at e
        exact e rfl
      exact ⟨fun q => Or.inl q, fun q => q.resolve_right ne⟩
  by_cases c1 : t < 24
  · refine ⟨10, zv_or (zm_o (zv_I h 348) s 10) (zv_shl 1 (t.tmod 24)), Or.inl rfl, lC9_namesToo (zm_ob hM) ?_, bits 10 (by rw [if_pos c1])⟩
    rw [qE9_namesToo, if_pos c1, qL9_namesToo_15, if_pos c1, qL9_namesToo_30, zm_e (zm_of hM d hs (by decide))]
    dsimp only
    rw [zm_e (zm_sets hM d hs (by decide) _)]
  · refine ⟨11, zv_or (zm_o (zv_I h 348) s 11) (zv_shl 1 (t.tmod 24)), Or.inr rfl, lC9_namesToo (zm_ob hM) ?_, bits 11 (by rw [if_neg c1])⟩
    rw [qE9_namesToo, if_neg c1, qL9_namesToo_15, if_neg c1, qL9_namesToo_30, zm_e (zm_of hM d hs (by decide))]
    dsimp only
    rw [zm_e (zm_sets hM d hs (by decide) _)]
/-- whose names are named -/
def zt_nP (h : zv_H) (act x : Int) : Prop := zt_mk h x ∧ zv_I h 354 x.toNat = if act = 2 then 1 else 0
theorem zt_tries22 (d : Nat) {c : Nat → Int} {l : List Int} (hl : ∀ t ∈ l, zm_st c t) (hnd : l.Nodup) (h0l : l.getLast? = some 0) (hn : l.length ≤ 48) (act : Int) (h0 : zv_H) : ∀ (n i : Nat) (h : zv_H) (K : List Int), i + n = l.length → 1 ≤ i → K.length ≤ i → K.Nodup → (∀ x ∈ K, x ∈ l.reverse.take i ∧ 1 ≤ x) → (∀ x ∈ l.reverse.take i, 1 ≤ x → (x ∈ K ↔ zt_nP h0 act x)) → (∀ x : Int, 0 ≤ x → x < 48 → (zm_nm (zv_I h 348) 48 x ↔ x ∈ K)) → zv_I h 365 = zv_I h0 365 → zv_I h 354 = zv_I h0 354 → zm_lh (zv_I h 348) l h → zm_Tr c (zv_I h 348) act → zm_R (L9_triesNames_22 (d + 2) 347 act (K.length : Int) i h) (zm_I fun v h' => zm_F [348] [] h h' ∧ zm_Tr c (zv_I h' 348) act ∧ ∃ K' : List Int, v = (K'.length : Int) ∧ K'.Nodup ∧ (∀ x, x ∈ K' ↔ x ∈ l ∧ 1 ≤ x ∧ zt_nP h0 act x) ∧ ∀ x : Int, 0 ≤ x → x < 48 → (zm_nm (zv_I h' 348) 48 x ↔ x ∈ K')) := by
  intro n
  induction n with
  | zero =>
    intro i h K hi h1 kl knd k1 k2 k3 e5 e4 hh ht
    obtain ⟨hM, hc, h10, h351⟩ := hh
    rw [qL9_triesNames_22, zm_e (zm_gI hM 10), h10, if_neg (by omega)]
    have full : l.reverse.take i = l.reverse := List.take_of_length_le (by rw [List.length_reverse]; omega)
    rw [full] at k1 k2
    refine zm_iI ⟨zm_F_r _ _ h, ht, K, rfl, knd, fun x => ⟨fun q => ?_, fun q => ?_⟩, k3⟩
    · obtain ⟨a1, a2⟩ := k1 x q
      exact ⟨List.mem_reverse.mp a1, a2, (k2 x a1 a2).mp q⟩
    · exact (k2 x (List.mem_reverse.mpr q.1) q.2.1).mpr q.2.2
  | succ n ih =>
    intro i h K hi h1 kl knd k1 k2 k3 e5 e4 hh ht
    obtain ⟨hM, hc, h10, h351⟩ := id hh
    have w1 : zv_w ((i : Int) + 1) = ((i + 1 : Nat) : Int) := by
      rw [zm_w (by omega)]
      rfl
    have wa : zv_w ((K.length : Int) + 1) = ((K.length + 1 : Nat) : Int) := by
      rw [zm_w (by omega)]
      rfl
    have il : i < l.reverse.length := by rw [List.length_reverse]; omega
    obtain ⟨t, htg⟩ : ∃ t, l.reverse[i]? = some t := ⟨_, List.getElem?_eq_getElem il⟩
    have htl : t ∈ l := List.mem_reverse.mp (List.mem_of_getElem? htg)
    have tst := hl t htl
    have t48 := zm_st48 tst
    have t49 : t < ((49 : Nat) : Int) := by have := tst.1; omega
    have t47 := tst.1
    have et : zv_aI h 351 (i : Int) = some t := by
      rw [zm_aI hM zm_l351 rfl (by omega) (by omega), show ((i : Nat) : Int).toNat = i by omega, h351 i t htg]
    have etk : l.reverse.take (i + 1) = l.reverse.take i ++ [t] := zt_take_s htg
    have nt : ¬ t ∈ l.reverse.take i := fun q => by
      have nd : (l.reverse.take (i + 1)).Nodup := List.Nodup.sublist (List.take_sublist _ _) (zt_nd_rev hnd)
      rw [etk] at nd
      exact (List.nodup_append.mp nd).2.2 t q t (List.mem_singleton.mpr rfl) rfl
    have t1 : 1 ≤ t := by
      by_cases z : t = 0
      · exfalso
        have e0 : l.reverse[0]? = some 0 := by rw [← List.head?_eq_getElem?, List.head?_reverse]; exact h0l
        rw [z] at htg
        have := (List.getElem?_inj il (zt_nd_rev hnd)).mp (htg.trans e0.symm)
        omega
      · omega
    have skip : ¬ zt_nP h0 act t → zm_R (L9_triesNames_22 (d + 2) 347 act (K.length : Int) ((i + 1 : Nat) : Int) h) (zm_I fun v h' => zm_F [348] [] h h' ∧ zm_Tr c (zv_I h' 348) act ∧ ∃ K' : List Int, v = (K'.length : Int) ∧ K'.Nodup ∧ (∀ x, x ∈ K' ↔ x ∈ l ∧ 1 ≤ x ∧ zt_nP h0 act x) ∧ ∀ x : Int, 0 ≤ x → x < 48 → (zm_nm (zv_I h' 348) 48 x ↔ x ∈ K')) := fun no => by
      refine ih (i + 1) h K (by omega) (by omega) (by omega) knd (fun x hx => ?_) (fun x hx x1 => ?_) k3 e5 e4 hh ht
      · rw [etk]
        exact ⟨List.mem_append_left _ (k1 x hx).1, (k1 x hx).2⟩
      · rw [etk] at hx
        rcases List.mem_append.mp hx with q | q
        · exact k2 x q x1
        · rw [List.mem_singleton.mp q]
          exact ⟨fun z => absurd (k1 t z).1 nt, fun z => absurd z no⟩
    rw [qL9_triesNames_22, zm_e (zm_gI hM 10), h10, if_pos (by omega), zm_e (zm_f25 hM), zm_e (zm_f5 hM), zm_e et, zm_e (zm_aB hM zm_l365 (Or.inl rfl) rfl t48.1 t49), w1]
    refine zm_if (fun q => skip (fun z => z.1 (by rw [← e5]; exact q))) (fun mk => ?_)
    rw [zm_e (zm_f8 hM), zm_e (zm_f5 hM), zm_e et, zm_e (zm_aB hM zm_l354 (Or.inl rfl) rfl t48.1 t49)]
    have l65 : ∀ z : Int, z = (if act = 2 then 1 else 0) → zm_R (L9_triesNames_65 (d + 2) 347 act (K.length : Int) i (zv_I h 354 t.toNat) z h) (zm_I fun v h' => zm_F [348] [] h h' ∧ zm_Tr c (zv_I h' 348) act ∧ ∃ K' : List Int, v = (K'.length : Int) ∧ K'.Nodup ∧ (∀ x, x ∈ K' ↔ x ∈ l ∧ 1 ≤ x ∧ zt_nP h0 act x) ∧ ∀ x : Int, 0 ≤ x → x < 48 → (zm_nm (zv_I h' 348) 48 x ↔ x ∈ K')) := by
      intro z hz
      rw [qL9_triesNames_65, w1, wa]
      refine zm_if (fun eq => ?_) (fun ne => skip (fun q => ne (by
        have q2 := q.2
        rw [← e4] at q2
        rw [q2, hz])))
      have hP : zt_nP h0 act t := by
        unfold zt_nP zt_mk
        rw [← e5, ← e4, eq, hz]
        exact ⟨mk, rfl⟩
      obtain ⟨w, v, hw, ew, hb⟩ := zt_namesToo hM rfl d (s := 48) (by decide) t47.1 (by omega)
      rw [zm_e (zm_f5 hM), zm_e et, zm_e ew]
      have f : zm_F [348] [] h (zv_sI h 348 (432 + 76 * (48 : Int).toNat + w.toNat) v) := zm_F_I (zm_F_r _ _ h) rfl _ _
      have e1 : zv_I (zv_sI h 348 (432 + 76 * (48 : Int).toNat + w.toNat) v) 348 = zm_os (zv_I h 348) 48 w v := zm_ss _ _ _ _
      have g10 : zv_I (zv_sI h 348 (432 + 76 * (48 : Int).toNat + w.toNat) v) 347 10 = l.length := (zm_F_g f 10).trans h10
      have g351 : zv_I (zv_sI h 348 (432 + 76 * (48 : Int).toNat + w.toNat) v) 351 = zv_I h 351 := zm_so _ _ _
      have g365 : zv_I (zv_sI h 348 (432 + 76 * (48 : Int).toNat + w.toNat) v) 365 = zv_I h 365 := zm_so _ _ _
      have g354 : zv_I (zv_sI h 348 (432 + 76 * (48 : Int).toNat + w.toNat) v) 354 = zv_I h 354 := zm_so _ _ _
      generalize zv_sI h 348 (432 + 76 * (48 : Int).toNat + w.toNat) v = h1 at f e1 g10 g351 g365 g354
      have nK : ¬ t ∈ K := fun q => nt (k1 t q).1
      refine zm_mono (ih (i + 1) h1 (t :: K) (by omega) (by omega) (by rw [List.length_cons]; omega) (List.nodup_cons.mpr ⟨nK, knd⟩) (fun x hx => ?_) (fun x hx x1 => ?_) (fun x x0 x1 => ?_) (g365.trans e5) (g354.trans e4) ⟨zm_F_M f hM, rfl, g10, fun k x hx => by rw [g351]; exact h351 k x hx⟩ (by rw [e1]; exact zm_Tr_s ht hw v)) ?_
      · rw [etk]
        rcases List.mem_cons.mp hx with q | q
        · rw [q]
          exact ⟨List.mem_append_right _ (List.mem_singleton.mpr rfl), t1⟩
        · exact ⟨List.mem_append_left _ (k1 x q).1, (k1 x q).2⟩
      · rw [etk] at hx
        rcases List.mem_append.mp hx with q | q
        · rw [← k2 x q x1]
          exact ⟨fun z => (List.mem_cons.mp z).resolve_left (fun e => nt (by rw [← e]; exact q)), fun z => List.mem_cons_of_mem _ z⟩
        · rw [List.mem_singleton.mp q]
          exact ⟨fun _ => hP, fun _ => List.mem_cons_self⟩
      · rw [e1, hb x x0 x1, k3 x x0 x1, List.mem_cons]
        exact Or.comm
      · rintro ⟨ov, h'⟩ ⟨v', ev, f2, q2⟩
        exact ⟨v', ev, zm_F_t f f2, q2⟩
    by_cases a2 : act = 2
    · rw [if_pos a2]
      exact l65 1 (by rw [if_pos a2])
    · rw [if_neg a2]
      exact l65 0 (by rw [if_neg a2])
/-- what is named -/
def zt_nk (c c2 : Nat → Int) (L : List Int) (act back s : Int) (K : List Int) : Prop := K.Nodup ∧ (∀ x, x ∈ K ↔ x ∈ L ∧ 1 ≤ x ∧ zt_tb c back s x ∧ zm_fc c L x = if act = 2 then 1 else 0) ∧ ∀ x : Int, 0 ≤ x → x < 48 → (zm_nm c2 48 x ↔ x ∈ K)
theorem zt_triesNames {h : zv_H} {c : Nat → Int} (hM : zm_M h) (hc : zv_I h 348 = c) (W : zm_W c) (d : Nat) {act : Int} (ha : act = 2 ∨ act = 3) {l : List Int} (hl : zm_Ln c (c 0 :: l) (c 0)) (s back : Int) (mk : ∀ x ∈ c 0 :: l, 1 ≤ x → (zt_mk h x ↔ zt_tb c back s x)) : zm_R (C9_triesNames (d + 5) 347 act h) (fun q => zm_F [348, 351, 352, 353, 354, 355] [10, 11, 12] h q.2 ∧ zm_Tr c (zv_I q.2 348) act ∧ ∃ K, zt_nk c (zv_I q.2 348) (c 0 :: l) act back s K ∧ q.1 = (K.length : Int)) := by
  refine zm_cI (P := fun v h' => zm_F [348, 351, 352, 353, 354, 355] [10, 11, 12] h h' ∧ zm_Tr c (zv_I h' 348) act ∧ ∃ K, zt_nk c (zv_I h' 348) (c 0 :: l) act back s K ∧ v = (K.length : Int)) (lC9_triesNames (zm_ob hM)) ?_
  obtain ⟨ok, g, gt, W1⟩ := zt_line_u W W.2.1 hl
  have hl2 := zt_dep W W.2.1 hl
  obtain ⟨h1, e1, f1, hSn⟩ := zm_sees_st hM hc d W1 hl2 g gt
  have hM1 := zm_F_M f1 hM
  have c1 : zv_I h1 348 = c := (zm_F_a f1 348).trans hc
  have c047 : 0 ≤ c 0 ∧ c 0 ≤ 47 := W.2.1.1
  obtain ⟨h2, e2, f2, b2⟩ := zm_begins hM1 c1 (d + 2) (s := 48) (by decide) c047 (by omega) act (-1) 0 0
  obtain ⟨⟨b20, b21, b22, b23, b24, b25, b26⟩, b28, b29, b2k⟩ := b2
  rw [qE9_triesNames, zm_e (zm_here hM _), hc]
  dsimp only
  rw [zm_e e1, zm_e e2]
  have l1 : 1 + l.length = (c 0 :: l).length := by
    rw [List.length_cons, Nat.add_comm]
  have hlh : zm_lh (zv_I h2 348) (c 0 :: l) h2 := ⟨zm_F_M f2 hM1, rfl, (zm_F_g f2 10).trans hSn.1.1, fun k x hx => by rw [zm_F_a f2 351]; exact hSn.1.2 k x hx⟩
  have e365 : zv_I h2 365 = zv_I h 365 := (zm_F_a f2 365).trans (zm_F_a f1 365)
  have e354 : zv_I h2 354 = zv_I h1 354 := zm_F_a f2 354
  have hP : ∀ x ∈ c 0 :: l, 1 ≤ x → (zt_nP h2 act x ↔ zt_tb c back s x ∧ zm_fc c (c 0 :: l) x = if act = 2 then 1 else 0) := fun x hx x1 => by
    unfold zt_nP
    rw [e354, hSn.2.2.1 x hx]
    have : zt_mk h2 x ↔ zt_mk h x := by
      unfold zt_mk
      rw [e365]
    rw [this, mk x hx x1]
  have e0 := ok.2.1
  refine zm_mono (zt_tries22 (d + 2) ok.2.2.1 ok.1 e0 ok.2.2.2 act h2 l.length 1 h2 [] l1 (Nat.le_refl _) (by decide) List.nodup_nil (fun x hx => by cases hx) (fun x hx x1 => ?_) (fun x x0 x1 => ?_) rfl rfl hlh ⟨fun k hk => b2k k hk, b21, b22, b25, b28⟩) ?_
  · exfalso
    rw [← List.head?_reverse] at e0
    cases hr : (c 0 :: l).reverse with
    | nil =>
      rw [hr] at hx
      cases hx
    | cons y r =>
      rw [hr] at hx e0
      have ey : y = 0 := Option.some.inj e0
      have : x = y := List.mem_singleton.mp hx
      omega
  · exact ⟨fun q => absurd q (zt_nm0 (b29 10 (by decide) (by decide)) (b29 11 (by decide) (by decide)) x0 x1), fun q => by cases q⟩
  · rintro ⟨ov, h'⟩ ⟨v', ev, f3, tr, K', kl, knd, k1, k2⟩
    refine ⟨v', ev, zm_F_t (zm_F_s f1 rfl rfl) (zm_F_t (zm_F_s f2 rfl rfl) (zm_F_s f3 rfl rfl)), tr, K', ⟨knd, fun x => ?_, k2⟩, kl⟩
    rw [k1 x]
    constructor
    · rintro ⟨q1, q2, q3⟩
      exact ⟨q1, q2, (hP x q1 q2).mp q3⟩
    · rintro ⟨q1, q2, q3⟩
      exact ⟨q1, q2, (hP x q1 q2).mpr q3⟩
/-- what comes of it: too many letters, or a new State -/
def zt_tu (c2 : Nat → Int) (L : List Int) (act : Int) (K : List Int) (v : Int) (c' : Nat → Int) : Prop := (v = -1 ∧ c' = c2 ∧ ¬ ((((zm_row c2 (48 :: L)).filter (zm_sn c2 (48 :: L))).length : Nat) : Int) ≤ 120) ∨ ((((((zm_row c2 (48 :: L)).filter (zm_sn c2 (48 :: L))).length : Nat) : Int) ≤ 120) ∧ zt_free c2 v ∧ zm_Nw c2 c' v ∧ zm_o c' v 2 = act ∧ zm_o c' v 3 = c2 1 ∧ zm_o c' v 4 = -1 ∧ zm_o c' v 5 = (K.length : Int) ∧ zm_o c' v 6 = v ∧ zm_o c' v 7 = zv_w (c2 2 + 1) ∧ zm_o c' v 8 = -1 ∧ zm_o c' v 10 = zm_o c2 48 10 ∧ zm_o c' v 11 = zm_o c2 48 11)
theorem zt_turn101 {h : zv_H} {c : Nat → Int} (hM : zm_M h) (hc : zv_I h 348 = c) (w : zm_W c) (cw : ∀ t, zm_st c t → zt_cw c t) (hn : zm_nst c ≠ 48) (d : Nat) {act : Int} (ha : act = 2 ∨ act = 3) {l : List Int} (hlL : zm_Ln c (c 0 :: l) (c 0)) {s : Int} (s1 : 1 ≤ s) (hsl : s ∈ c 0 :: l) (back : Int) : zm_R (L9_turnNow_101 (d + 6) 347 act 347 s back h) (zm_I fun v h' => ∃ c2 K, zm_Tr c c2 act ∧ zt_nk c c2 (c 0 :: l) act back s K ∧ zt_tu c2 (c 0 :: l) act K v (zv_I h' 348)) := by
  obtain ⟨h1, e1, f1, mk1⟩ := zt_marks hM hc w cw (d + 1) hlL s1 hsl back
  have hM1 := zm_F_M f1 hM
  have c1 : zv_I h1 348 = c := (zm_F_a f1 348).trans hc
  obtain ⟨⟨many, h2⟩, e2, f2, tr, K, nk, em⟩ := zt_triesNames hM1 c1 w (d + 1) ha hlL s back mk1
  dsimp only at f2 tr nk em
  have hM2 := zm_F_M f2 hM1
  have w2 := zm_Tr_W tr w
  generalize hc2 : zv_I h2 348 = c2 at tr w2 nk
  have c20 : c2 0 = c 0 := tr.1 0 (by omega)
  obtain ⟨_, g, gt, hl⟩ := zt_line_u w w.2.1 hlL
  have hl2 := zt_dep w w.2.1 hlL
  have hagl : ∀ t ∈ c 0 :: l, zm_ag c c2 t := fun t ht => by
    have hst := hl.2.1.2.2 t ht
    exact zm_Tr_ag tr hst.1.1 hst.1.2
  have hst2 : ∀ t ∈ c 0 :: l, zm_st c2 t := fun t ht => by
    have hst := hl.2.1.2.2 t ht
    have h3 := hst.1
    have h4 : zm_o c2 t 0 = zm_o c t 0 := tr.1 _ (by clear hst; omega)
    exact ⟨hst.1, h4.trans hst.2⟩
  have hl48 : zm_W1 c2 (c 0) l := zm_W1_cg hl g hagl hst2
  have n48 : ¬ (48 : Int) ∈ c 0 :: l := fun q => by
    have := (hl.2.1.2.2 48 q).1
    omega
  have hLn : zm_Ln c2 (48 :: c 0 :: l) 48 := by
    refine ⟨by decide, ?_⟩
    rw [tr.2.1]
    exact hl48.1
  have ned : ¬ zm_ed c2 48 := by
    intro q
    have h3 := tr.2.2.1
    rcases q with q | q
    · rw [h3] at q
      omega
    · rw [h3] at q
      omega
  have g2 : zm_G0 c2 (c 0 :: l) := by
    obtain ⟨a1, a2, a3, a4, a5⟩ := g
    have a0 := hagl 0 (List.mem_of_getLast? a2)
    refine ⟨a1, a2, by rw [a0 5 (by decide) (by decide) (by decide)]; exact a3, by rw [a0 2 (by decide) (by decide) (by decide)]; exact a4, fun t ht h0 he => ?_⟩
    rw [hagl t ht 5 (by decide) (by decide) (by decide)]
    exact a5 t ht h0 ((zm_ed_cg (hagl t ht)).mp he)
  have g48 : zm_G0 c2 (48 :: c 0 :: l) := by
    refine ⟨List.nodup_cons.mpr ⟨n48, g2.1⟩, by rw [List.getLast?_cons_cons]; exact g2.2.1, g2.2.2.1, g2.2.2.2.1, fun t ht h0 he => ?_⟩
    rcases List.mem_cons.mp ht with q | q
    · rw [q] at he
      exact absurd he ned
    · exact g2.2.2.2.2 t q h0 he
  have r48 : zm_row c2 (48 :: c 0 :: l) = zm_row c (c 0 :: l) := by
    rw [zm_row_c c2 48 (List.cons_ne_nil _ _), if_neg (fun q => ned (Or.inl q)), zm_row_cg hagl]
  have gt48 : ∀ t ∈ 48 :: c 0 :: l, zm_o c2 t 2 = 1 → ∀ p ∈ zm_tk c2 t, p ∈ zm_row c2 (48 :: c 0 :: l) := by
    intro t ht hk p hp
    rcases List.mem_cons.mp ht with q | q
    · rw [q] at hk
      exact absurd (Or.inr hk) ned
    · rw [hagl t q 2 (by decide) (by decide) (by decide)] at hk
      rw [zm_tk_cg (hagl t q) (zm_cut12 g t q hk)] at hp
      rw [r48]
      exact gt t q hk p hp
  have ln : (48 :: c 0 :: l).length ≤ 49 := by
    rw [List.length_cons, List.length_cons]
    omega
  obtain ⟨⟨n, h3⟩, e3, en, f3, _⟩ := zm_lettersOf hM2 (d + 1) (zm_sees hM2 hc2 (d + 1) (by decide) hLn ln g48 gt48)
  dsimp only at en f3
  have hM3 := zm_F_M f3 hM2
  have c3 : zv_I h3 348 = c2 := (zm_F_a f3 348).trans hc2
  have f03 : zm_F [348, 351, 352, 353, 354, 355, 365] [3, 10, 11, 12] h h3 := zm_F_t (zm_F_s f1 rfl rfl) (zm_F_t (zm_F_s f2 rfl rfl) (zm_F_s f3 rfl rfl))
  rw [qL9_turnNow_101, zm_e e1, zm_e e2]
  dsimp only
  rw [zm_e e3]
  dsimp only
  refine zm_if (fun hfit => ?_) (fun nfit => by
    rw [zm_e (zm_refuse hM3 _ 6)]
    have e : zv_I (zv_sI h3 347 3 6) 348 = c2 := (zm_so h3 _ _).trans c3
    exact zm_iI ⟨c2, K, tr, nk, Or.inl ⟨rfl, e, by rw [← en]; exact nfit⟩⟩)
  have hn2 : zm_nst c2 ≠ 48 := by
    have : zm_nst c2 = zm_nst c := zm_sum_cg 48 (fun k hk => tr.1 _ (by omega))
    rw [this]
    exact hn
  obtain ⟨t, et, ht, hlow, hd⟩ := zm_free hM3 (d + 4) (by rw [c3]; exact hn2)
  rw [c3] at hd hlow
  have hnst : ¬ zm_st c2 t := fun q => hd q.2
  have hne : t ≠ c2 0 := fun e => hnst (by rw [e]; exact w2.2.1)
  obtain ⟨h4, e4, f4, b4⟩ := zm_begins hM3 c3 (d + 4) (s := t) (by omega) w2.2.1.1 hne act (-1) many 0
  obtain ⟨⟨b40, b41, b42, b43, b44, b45, b46⟩, b48, b49, b4k⟩ := b4
  have hM4 := zm_F_M f4 hM3
  have o48 : ∀ w : Int, 0 ≤ w → w < 76 → zm_o (zv_I h4 348) 48 w = zm_o c2 48 w := fun w w0 w1 => b4k _ (by omega)
  have t48 : 0 ≤ t ∧ t ≤ 48 := by omega
  rw [zm_e et]
  dsimp only
  rw [zm_e e4, zm_e (zm_of hM4 _ (by decide) (by decide)), o48 10 (by decide) (by decide)]
  dsimp only
  rw [zm_e (zm_sets hM4 _ t48 (by decide) _)]
  have f5 : zm_F [348] [] h4 (zv_sI h4 348 (432 + 76 * t.toNat + Int.toNat 10) (zm_o c2 48 10)) := zm_F_I (zm_F_r _ _ h4) rfl _ _
  have e5 : zv_I (zv_sI h4 348 (432 + 76 * t.toNat + Int.toNat 10) (zm_o c2 48 10)) 348 = zm_os (zv_I h4 348) t 10 (zm_o c2 48 10) := zm_ss _ _ _ _
  generalize zv_sI h4 348 (432 + 76 * t.toNat + Int.toNat 10) (zm_o c2 48 10) = h5 at f5 e5
  have hM5 := zm_F_M f5 hM4
  have tne : ¬ ((48 : Int) = t) := by omega
  rw [zm_e (zm_of hM5 _ (by decide) (by decide)), e5, zm_os_o _ _ t48.1 (by decide) (by decide) (by decide) (fun q => tne q.1), o48 11 (by decide) (by decide)]
  dsimp only
  rw [zm_e (zm_sets hM5 _ t48 (by decide) _)]
  have f6 : zm_F [348] [] h5 (zv_sI h5 348 (432 + 76 * t.toNat + Int.toNat 11) (zm_o c2 48 11)) := zm_F_I (zm_F_r _ _ h5) rfl _ _
  have e6 : zv_I (zv_sI h5 348 (432 + 76 * t.toNat + Int.toNat 11) (zm_o c2 48 11)) 348 = zm_os (zm_os (zv_I h4 348) t 10 (zm_o c2 48 10)) t 11 (zm_o c2 48 11) := by
    rw [← e5]
    exact zm_ss _ _ _ _
  generalize zv_sI h5 348 (432 + 76 * t.toNat + Int.toNat 11) (zm_o c2 48 11) = h6 at f6 e6
  have hM6 := zm_F_M f6 hM5
  have O : ∀ w : Int, 0 ≤ w → w < 76 → w ≠ 10 → w ≠ 11 → zm_o (zv_I h6 348) t w = zm_o (zv_I h4 348) t w := by
    intro w w0 w1 wa wb
    rw [e6, zm_os_o _ _ t48.1 (by decide) t48.1 ⟨w0, w1⟩ (fun q => wb q.2), zm_os_o _ _ t48.1 (by decide) t48.1 ⟨w0, w1⟩ (fun q => wa q.2)]
  have O10 : zm_o (zv_I h6 348) t 10 = zm_o c2 48 10 := by
    rw [e6, zm_os_o _ _ t48.1 (by decide) t48.1 (by decide) (fun q => by cases q.2), zm_os_s]
  have O11 : zm_o (zv_I h6 348) t 11 = zm_o c2 48 11 := by
    rw [e6, zm_os_s]
  have k6 : ∀ k : Nat, ¬ (432 + 76 * t.toNat ≤ k ∧ k < 432 + 76 * t.toNat + 76) → zv_I h6 348 k = c2 k := by
    intro k hk
    rw [e6, zm_os_k _ _ (by decide) hk, zm_os_k _ _ (by decide) hk]
    exact b4k k hk
  obtain ⟨h7, e7, f7, c7⟩ := zm_visits hM6 rfl (d + 4) ht
  have c60 : zv_I h6 348 0 = c2 0 := k6 0 (by omega)
  rw [if_neg (by rw [c60]; exact hne)] at c7
  obtain ⟨nw, rw7⟩ := zm_Nw_of ht k6 (by rw [O 0 (by decide) (by decide) (by decide) (by decide)]; exact b40) (by rw [O 1 (by decide) (by decide) (by decide) (by decide), b41])
  rw [zm_e e7]
  rw [← c7] at nw rw7
  have R : ∀ w : Int, 0 ≤ w → w < 76 → w ≠ 7 → w ≠ 10 → w ≠ 11 → zm_o (zv_I h7 348) t w = zm_o (zv_I h4 348) t w := fun w w0 w1 w7 wa wb => (rw7 w w0 w1 w7).trans (O w w0 w1 wa wb)
  have a2 : zm_o (zv_I h7 348) t 2 = act := by rw [R 2 (by decide) (by decide) (by decide) (by decide) (by decide), b42]
  have a6 : zm_o (zv_I h7 348) t 6 = t := by
    rw [R 6 (by decide) (by decide) (by decide) (by decide) (by decide), b46, if_pos rfl]
  have a8 : zm_o (zv_I h7 348) t 8 = -1 := by rw [R 8 (by decide) (by decide) (by decide) (by decide) (by decide), b48]
  have a3 : zm_o (zv_I h7 348) t 3 = c2 1 := by rw [R 3 (by decide) (by decide) (by decide) (by decide) (by decide), b43]
  have a4 : zm_o (zv_I h7 348) t 4 = -1 := by rw [R 4 (by decide) (by decide) (by decide) (by decide) (by decide), b44]
  have a5 : zm_o (zv_I h7 348) t 5 = many := by rw [R 5 (by decide) (by decide) (by decide) (by decide) (by decide), b45]
  have a7 : zm_o (zv_I h7 348) t 7 = zv_w (c2 2 + 1) := by rw [c7, zt_vc7 _ ht, k6 2 (by omega)]
  exact zm_iI ⟨c2, K, tr, nk, Or.inr ⟨by rw [← en]; exact hfit, ⟨ht, hlow, hd⟩, nw, a2, a3, a4, a5.trans em, a6, a7, a8, (rw7 10 (by decide) (by decide) (by decide)).trans O10, (rw7 11 (by decide) (by decide) (by decide)).trans O11⟩⟩
/-- what turning wants -/
def zt_tw (c : Nat → Int) (L : List Int) (act s : Int) : Prop := zm_st c s ∧ s ∈ L ∧ zm_ed c s ∧ zm_fc c L s = (if act = 2 then 1 else 0) ∧ zm_nst c ≠ 48
theorem zt_turnNow {h : zv_H} {c : Nat → Int} (hM : zm_M h) (hc : zv_I h 348 = c) (W : zm_W c) (cw : ∀ t, zm_st c t → zt_cw c t) (d : Nat) {act : Int} (ha : act = 2 ∨ act = 3) {l : List Int} (hl : zm_Ln c (c 0 :: l) (c 0)) (s : Int) : zm_R (C9_turnNow (d + 7) 347 s act h) (fun q => (q.1 = -1 ∧ zv_I q.2 348 = c ∧ ¬ zt_tw c (c 0 :: l) act s) ∨ (zt_tw c (c 0 :: l) act s ∧ ∃ c2 K, zm_Tr c c2 act ∧ zt_nk c c2 (c 0 :: l) act (if act = 3 then 1 else 0) s K ∧ zt_tu c2 (c 0 :: l) act K q.1 (zv_I q.2 348))) := by
  refine zm_cI (P := fun v h' => (v = -1 ∧ zv_I h' 348 = c ∧ ¬ zt_tw c (c 0 :: l) act s) ∨ (zt_tw c (c 0 :: l) act s ∧ ∃ c2 K, zm_Tr c c2 act ∧ zt_nk c c2 (c 0 :: l) act (if act = 3 then 1 else 0) s K ∧ zt_tu c2 (c 0 :: l) act K v (zv_I h' 348))) (lC9_turnNow (zm_ob hM)) ?_
  have refu : ∀ (v : Int) (g : zv_H), zm_M g → zv_I g 348 = c → ¬ zt_tw c (c 0 :: l) act s → zm_R ((C9_refuse (d + 6) 347 v g).bind fun q => (some (some (zv_i q.1), q.2) : zv_O)) (zm_I fun v h' => (v = -1 ∧ zv_I h' 348 = c ∧ ¬ zt_tw c (c 0 :: l) act s) ∨ (zt_tw c (c 0 :: l) act s ∧ ∃ c2 K, zm_Tr c c2 act ∧ zt_nk c c2 (c 0 :: l) act (if act = 3 then 1 else 0) s K ∧ zt_tu c2 (c 0 :: l) act K v (zv_I h' 348))) := by
    intro v g gM e0 no
    rw [zm_e (zm_refuse gM _ v)]
    have e : zv_I (zv_sI g 347 3 v) 348 = c := (zm_so g _ _).trans e0
    exact zm_iI (Or.inl ⟨rfl, e, no⟩)
  obtain ⟨ok, g, gt, W1⟩ := zt_line_u W W.2.1 hl
  have hl2 := zt_dep W W.2.1 hl
  rw [qE9_turnNow]
  refine zm_gb (zm_isState hM _ s) (fun q => refu 2 h hM hc (fun z => q (by rw [hc]; exact z.1))) (fun hs => ?_)
  rw [hc] at hs
  dsimp only
  rw [zm_e (zm_here hM _), hc]
  dsimp only
  refine zm_gb (zm_isOfLine hM _ s (by rw [hc]; exact hl)) (fun q => ?_) (fun hin => ?_)
  · rw [qL9_turnNow_34]
    exact refu 7 h hM hc (fun z => q z.2.1)
  dsimp only
  refine zm_gb (zm_isEdit hM _ (zm_st48 hs)) (fun q => ?_) (fun he => ?_)
  · rw [qL9_turnNow_34]
    exact refu 7 h hM hc (fun z => q (by rw [hc]; exact z.2.2.1))
  rw [hc] at he
  obtain ⟨h1, e1, f1, hSn⟩ := zm_sees_st hM hc (d + 2) W1 hl2 g gt
  have hM1 := zm_F_M f1 hM
  have c1 : zv_I h1 348 = c := (zm_F_a f1 348).trans hc
  have s48 := zm_st48 hs
  have s49 : s < ((49 : Nat) : Int) := by have := hs.1; omega
  have s1 : 1 ≤ s := by
    have h47 := hs.1
    by_cases z : s = 0
    · have h0 := W.1.2.1.2.2.1
      rw [z] at he
      rcases he with q | q <;> omega
    · omega
  dsimp only
  rw [zm_e (zm_here hM _), hc]
  dsimp only
  rw [zm_e e1, zm_e (zm_f8 hM1), zm_e (zm_aB hM1 zm_l354 (Or.inl rfl) rfl s48.1 s49), hSn.2.2.1 s hin]
  have l65 : ∀ z : Int, z = (if act = 2 then 1 else 0) → zm_R (L9_turnNow_65 (d + 6) 347 s act (zm_fc c (c 0 :: l) s) z h1) (zm_I fun v h' => (v = -1 ∧ zv_I h' 348 = c ∧ ¬ zt_tw c (c 0 :: l) act s) ∨ (zt_tw c (c 0 :: l) act s ∧ ∃ c2 K, zm_Tr c c2 act ∧ zt_nk c c2 (c 0 :: l) act (if act = 3 then 1 else 0) s K ∧ zt_tu c2 (c 0 :: l) act K v (zv_I h' 348))) := by
    intro z hz
    rw [qL9_turnNow_65]
    refine zm_if (fun eq => ?_) (fun ne => refu 4 h1 hM1 c1 (fun y => ne (y.2.2.2.1.trans hz.symm)))
    rw [zm_e (zm_states hM1 _ (by rw [c1]; exact W.1.1)), c1]
    dsimp only
    refine zm_if (fun q => refu 3 h1 hM1 c1 (fun y => y.2.2.2.2 q)) (fun hns => ?_)
    have go : ∀ b : Int, b = (if act = 3 then 1 else 0) → zm_R (L9_turnNow_101 (d + 6) 347 act 347 s b h1) (zm_I fun v h' => (v = -1 ∧ zv_I h' 348 = c ∧ ¬ zt_tw c (c 0 :: l) act s) ∨ (zt_tw c (c 0 :: l) act s ∧ ∃ c2 K, zm_Tr c c2 act ∧ zt_nk c c2 (c 0 :: l) act (if act = 3 then 1 else 0) s K ∧ zt_tu c2 (c 0 :: l) act K v (zv_I h' 348))) := by
      intro b hb
      refine zm_mono (zt_turn101 hM1 c1 W cw hns d ha hl s1 hin b) ?_
      rintro ⟨ov, h'⟩ ⟨v', ev, R⟩
      rw [hb] at R
      exact ⟨v', ev, Or.inr ⟨⟨hs, hin, he, eq.trans hz, hns⟩, R⟩⟩
    by_cases a3 : act = 3
    · rw [if_pos a3]
      exact go 1 (by rw [if_pos a3])
    · rw [if_neg a3]
      exact go 0 (by rw [if_neg a3])
  by_cases a2 : act = 2
  · rw [if_pos a2]
    exact l65 1 (by rw [if_pos a2])
  · rw [if_neg a2]
    exact l65 0 (by rw [if_neg a2])
