/-! ===== the object and the reference are made ===== -/
/-- a field with an object of its own, of which something more is known -/
theorem zk_fo2 {α : Type} {r c : Nat} {h0 h : zv_H} {m w : Nat} {f : Nat → Nat} {P : α → Prop} {X : zv_H → Prop} {g : zv_H → Option α} (k ci e w' : Nat) {con : Nat → zv_H → Option zv_H} (b : zk_B r c h0 h m w f) (hl : zv_lay (m + 1) = (1, ci)) (he : m + 1 ≤ e) (hc : ∀ h1, zk_I h1 → zv_n h1 = m + 1 → (∀ k, zv_R h1 (m + 1) k = 0) → (∀ k, zv_I h1 (m + 1) k = 0) → zm_R (con (m + 1) h1) (fun h' => zk_P (m + 1) e w' h1 h' ∧ X h')) (nx : ∀ g2 h', X g2 → (∀ r', r' ≠ r → zk_o g2 h' r') → (∀ r', r' ≤ m → r' ≠ r → zk_o h h' r') → zk_B r c h0 h' e (w + zv_nf ci + w') (fun k' => if k' = k then m + 1 else f k') → zm_R (g h') P) : zm_R ((zv_nO h ci).bind fun g1 => (con (zv_n h + 1) g1).bind fun g2 => (zv_pR g2 r c k (zv_n h + 1)).bind g) P := by
  obtain ⟨b1, b2, b3, b4, b5, b6, b7, b8, b9, b10⟩ := b
  have e1 : zv_nO h ci = some (zv_mk h (zv_nf ci)) := if_pos (by rw [b2, hl])
  have n1 : zv_n (zv_mk h (zv_nf ci)) = m + 1 := by show h.1.1 + 1 = m + 1; have : zv_n h = h.1.1 := rfl; omega
  have z := zk_mk_0 h (zv_nf ci)
  rw [b2] at z
  obtain ⟨g2, e2, ⟨p1, p2, p3, p4, p5, p6⟩, px⟩ := hc (zv_mk h (zv_nf ci)) (zk_I_mk b1 _) n1 (fun k => (z k).1) (fun k => (z k).2)
  rw [zm_e e1, b2, zm_e e2]
  have ob : zv_ob g2 r c := ⟨by rw [p2]; omega, b5⟩
  rw [zm_e (show zv_pR g2 r c k (m + 1) = some _ from if_pos ob)]
  have om : ∀ r', r' ≤ m → zk_o h g2 r' := fun r' hr => zk_o_t (zk_mk_o h _ (by omega)) (p5 r' (by omega))
  have os : ∀ r', r' ≠ r → zk_o g2 (zv_sR g2 r k (m + 1)) r' := fun r' hr => ⟨rfl, rfl, zc_sRo _ _ _ _ hr⟩
  refine nx g2 _ px os (fun r' h1 h2 => zk_o_t (om r' h1) (os r' h2)) ⟨zk_I_sR p1 ob.1 (zk_obn b5), p2, ?_, by omega, b5, p4.trans b6, fun r' hr => zk_o_t (b7 r' hr) (zk_o_t (om r' (by omega)) (os r' (by omega))), ?_, fun k' => ?_, fun r' h1 h2' => ?_⟩
  · show zv_s g2 = _
    rw [p3]
    show h.1.2 + zv_nf ci + w' = _
    have : zv_s h = h.1.2 := rfl
    omega
  · exact (om r b4).1.trans b8
  · show (if r = r ∧ k' = k then m + 1 else zv_R g2 r k') = if k' = k then m + 1 else f k'
    by_cases q : k' = k
    · rw [if_pos ⟨rfl, q⟩, if_pos q]
    · rw [if_neg (fun x => q x.2), if_neg q]
      exact (congrFun (om r b4).2.2 k').trans (b9 k')
  · by_cases q : r' ≤ m
    · exact zk_fin_o (zk_o_t (om r' q) (os r' (by omega))) (b10 r' h1 q)
    · exact zk_fin_o (os r' (by omega)) (p6 r' (by omega) h2')
theorem zk_C3I {d : Nat} {h : zv_H} (hI : zk_I h) (hn : zv_n h = 5) (hR : ∀ k, zv_R h 5 k = 0) (h0 : ∀ k, zv_I h 5 k = 0) : zm_R (C3_init (d + 2) 5 h) (fun h' => zk_P 5 8 742 h h' ∧ zv_I h' 5 2 = 0) := by
  have l : zv_lay 5 = (1, 3) := rfl
  refine zm_cV (fun e => lC3_init ⟨by omega, l⟩ e) ?_
  rw [qE3_init, if_neg (zc_nz l)]
  refine zk_fa 0 2 700 (zk_B0 hI hn l hR) rfl rfl rfl fun h1 b => ?_
  refine zk_fo 1 7 8 40 (con := C7_init (d + 1)) b rfl (by omega) (fun h1 i n z _ => zk_C7 i n z rfl rfl) fun h' b => ?_
  refine zm_iV ⟨zk_end b (fun k hk => ?_), ?_⟩
  · match k with
    | 0 => rfl
    | 1 => rfl
    | n + 2 => exact absurd rfl hk
  · exact (congrFun b.2.2.2.2.2.2.2.1 2).trans (h0 2)
theorem zk_fresh_o {a : Nat} {h h' : zv_H} (ha : a = 9 ∨ a = 178) (f : zk_fresh a h) (o : ∀ r, a ≤ r → r < a + 169 → zk_o h h' r) : zk_fresh a h' := by
  refine ⟨(congrFun (o a (by omega) (by omega)).2.2 10).trans f.1, fun i hi => ?_⟩
  have sb := zc_sttb (a := a) hi
  have os := o (zc_stt a i) (by omega) (by omega)
  have f2 := f.2 i hi
  exact ⟨(congrFun (o (a + 4) (by omega) (by omega)).2.2 i).trans f2.1, (congrFun os.1 0).trans f2.2.1, (congrFun os.1 3).trans f2.2.2.1, (congrFun os.2.2 4).trans f2.2.2.2.1, (congrFun os.2.2 5).trans f2.2.2.2.2.1, (congrFun os.1 10).trans f2.2.2.2.2.2.1, (congrFun os.1 11).trans f2.2.2.2.2.2.2⟩
theorem zk_sI0 (g : zv_H) (r k : Nat) (v : Int) : zv_I (zv_sI g r k v) r k = v := if_pos ⟨rfl, rfl⟩
theorem zk_from_o {a : Nat} {h h' : zv_H} (f : zk_from a h) (o : ∀ r, a ≤ r → r < a + 169 → zk_o h h' r) : zk_from a h' := by
  obtain ⟨d, z, hb, x1, x2, x3, x4⟩ := f
  exact ⟨d, z, hb, x1, x2, x3, fun r h1 h2 => zk_o_t (x4 r h1 h2) (o r h1 h2)⟩
/-- what the object is, as it is made -/
def zk_ob8 (h : zv_H) : Prop := zk_I h ∧ (∀ r, 1 ≤ r → r ≤ 346 → zk_fin h r) ∧ zv_R h 1 3 = 9 ∧ zv_R h 1 4 = 178 ∧ zk_fresh 9 h ∧ zk_fresh 178 h ∧ zv_I h 5 2 = 0 ∧ zv_I h 1 7 = 0 ∧ zk_from 9 h ∧ zk_from 178 h
theorem zk_C8 {d : Nat} {h : zv_H} (hI : zk_I h) (hn : zv_n h = 1) (hR : ∀ k, zv_R h 1 k = 0) : zm_R (C8_init (d + 6) 1 h) (fun h' => zk_ob8 h' ∧ zv_n h' = 346 ∧ zv_s h' = zv_s h + 23171 ∧ h'.2.2.2.2 = h.2.2.2.2) := by
  have l : zv_lay 1 = (1, 8) := rfl
  refine zm_cV (fun e => lC8_init ⟨by omega, l⟩ e) ?_
  rw [qE8_init, if_neg (zc_nz l)]
  refine zk_fa 0 2 160 (zk_B0 hI hn l hR) rfl rfl rfl fun h1 b => ?_
  refine zk_fo 1 7 4 40 (con := C7_init (d + 5)) b rfl (by omega) (fun h1 i n z _ => zk_C7 i n z rfl rfl) fun h1 b => ?_
  refine zk_fo2 2 3 8 742 (X := fun h => zv_I h 5 2 = 0) (con := C3_init (d + 5)) b rfl (by omega) (fun h1 i n z z0 => zk_C3I i n z z0) fun g2 h2 x1 o1 _ b => ?_
  refine zk_fo2 3 0 177 11093 (X := fun h => zk_fresh 9 h ∧ zk_from 9 h) (con := C0_init (d + 5)) b rfl (by omega) (fun h1 i n z _ => zk_C0 i (Or.inl rfl) n z) fun g3 h3 x3 o3 p3 b => ?_
  refine zk_fo2 4 0 346 11093 (X := fun h => zk_fresh 178 h ∧ zk_from 178 h) (con := C0_init (d + 5)) b rfl (by omega) (fun h1 i n z _ => zk_C0 i (Or.inr rfl) n z) fun g4 h4 x4 o4 p4 b => ?_
  have t5 : zv_I h4 5 2 = 0 := (congrFun (p4 5 (by decide) (by decide)).1 2).trans ((congrFun (p3 5 (by decide) (by decide)).1 2).trans ((congrFun (o1 5 (by decide)).1 2).trans x1))
  have F9 : zk_fresh 9 h4 := zk_fresh_o (Or.inl rfl) x3.1 (fun r h1 h2 => zk_o_t (o3 r (by omega)) (p4 r (by omega) (by omega)))
  have F178 : zk_fresh 178 h4 := zk_fresh_o (Or.inr rfl) x4.1 (fun r h1 h2 => o4 r (by omega))
  have G9 : zk_from 9 h4 := zk_from_o x3.2 (fun r h1 h2 => zk_o_t (o3 r (by omega)) (p4 r (by omega) (by omega)))
  have G178 : zk_from 178 h4 := zk_from_o x4.2 (fun r h1 h2 => o4 r (by omega))
  have fk := b.2.2.2.2.2.2.2.2.1
  obtain ⟨q1, q2, q3, q4, q5, q6⟩ := zk_end b (fun k hk => by
    match k with
    | 0 => rfl
    | 1 => rfl
    | 2 => rfl
    | n + 3 => exact absurd rfl hk)
  have ob : zv_ob h4 1 8 := ⟨by omega, l⟩
  refine zc_dI ob ?_
  refine zc_dI ob ?_
  refine zc_dZ ob (Or.inl rfl) ?_
  have nb : ∀ c m, zv_lay 1 = (1, c) → ∀ k, zc_bd c k = some m → (0 : Int) = 0 := fun _ _ _ _ _ => rfl
  have r0 : zv_rg 0 := by unfold zv_rg; omega
  have oo : ∀ r, r ≠ 1 → zk_o h4 (zv_sI (zv_sI (zv_sI h4 1 5 0) 1 6 0) 1 7 0) r := fun r hr => ⟨by rw [zc_sIo _ _ _ _ hr, zc_sIo _ _ _ _ hr, zc_sIo _ _ _ _ hr], rfl, rfl⟩
  refine zm_iV ⟨⟨zk_I_sI (zk_I_sI (zk_I_sI q1 ob.1 r0 (fun _ _ _ _ => rfl) (fun _ _ => rfl)) ob.1 r0 (fun _ _ _ _ => rfl) (fun _ _ => rfl)) ob.1 r0 (fun _ _ _ _ => rfl) (fun _ _ => rfl), fun r h1 h2 => q6 r h1 h2, fk 3, fk 4, zk_fresh_o (Or.inl rfl) F9 (fun r h1 h2 => oo r (by omega)), zk_fresh_o (Or.inr rfl) F178 (fun r h1 h2 => oo r (by omega)), (congrFun (oo 5 (by decide)).1 2).trans t5, zk_sI0 _ _ _ _, zk_from_o G9 (fun r h1 h2 => oo r (by omega)), zk_from_o G178 (fun r h1 h2 => oo r (by omega))⟩, q2, ?_, q4⟩
  show zv_s h4 = _
  rw [q3]
  exact congrArg (zv_s h + ·) (show _ = 23171 by decide)
/-! the reference -/
def zk_D (h0 h : zv_H) (m w : Nat) (f : Nat → Nat) (g : Nat → Int) (j : Nat → Nat → Int64) : Prop := (∀ r, r < 347 → zk_o h0 h r) ∧ zv_n h = m ∧ zv_s h = zv_s h0 + w ∧ 347 ≤ m ∧ h.2.2.2.2 = h0.2.2.2.2 ∧ (∀ k, zv_R h 347 k = f k) ∧ (∀ k, zv_I h 347 k = g k) ∧ ∀ r k, 347 < r → r ≤ m → zv_J h r k = j r k
section
variable {α : Type} {h0 h : zv_H} {m w : Nat} {f : Nat → Nat} {g : Nat → Int} {j : Nat → Nat → Int64} {P : α → Prop} {G : zv_H → Option α}
theorem zk_dA (kd n : Nat) (b : zk_D h0 h m w f g j) (hl : zv_lay (m + 1) = (kd, n)) (hn : Nat.ble n 60000 = true) (nx : ∀ h', zk_D h0 h' (m + 1) (w + n) f g (fun a c => if a = m + 1 then 0 else j a c) → zv_n h + 1 = m + 1 → zm_R (G h') P) : zm_R ((zv_nA h kd (n : Int)).bind G) P := by
  obtain ⟨b1, b2, b3, b4, b5, b6, b7, b8⟩ := b
  have hn' := Nat.ble_eq.mp hn
  have e1 : zv_nA h kd (n : Int) = some (zv_mk h n) := if_pos ⟨by omega, by rw [b2, hl]; rfl⟩
  rw [zm_e e1]
  have om : ∀ r', r' ≤ m → zk_o h (zv_mk h n) r' := fun r' hr => zk_mk_o h n (by omega)
  refine nx _ ⟨fun r hr => zk_o_t (b1 r hr) (om r (by omega)), ?_, ?_, by omega, b5, fun k => (congrFun (om 347 b4).2.2 k).trans (b6 k), fun k => (congrFun (om 347 b4).1 k).trans (b7 k), fun r k h1 h2 => ?_⟩ (by omega)
  · show h.1.1 + 1 = m + 1
    have : zv_n h = h.1.1 := rfl
    omega
  · show h.1.2 + n = _
    have : zv_s h = h.1.2 := rfl
    omega
  · show (if r = h.1.1 + 1 then 0 else zv_J h r k) = if r = m + 1 then 0 else j r k
    have : zv_n h = h.1.1 := rfl
    by_cases c : r = m + 1
    · rw [if_pos (by omega), if_pos c]
    · rw [if_neg (by omega), if_neg c]
      exact b8 r k h1 (by omega)
theorem zk_dR (k : Nat) {v : Nat} (b : zk_D h0 h m w f g j) (nx : ∀ h', zk_D h0 h' m w (fun k' => if k' = k then v else f k') g j → zm_R (G h') P) : zm_R ((zv_pR h 347 9 k v).bind G) P := by
  obtain ⟨b1, b2, b3, b4, b5, b6, b7, b8⟩ := b
  refine zc_dR ⟨by omega, rfl⟩ (nx _ ⟨fun r hr => zk_o_t (b1 r hr) ⟨rfl, rfl, zc_sRo _ _ _ _ (by omega)⟩, b2, b3, b4, b5, fun k' => ?_, b7, b8⟩)
  show (if 347 = 347 ∧ k' = k then v else zv_R h 347 k') = if k' = k then v else f k'
  by_cases q : k' = k
  · rw [if_pos ⟨rfl, q⟩, if_pos q]
  · rw [if_neg (fun x => q x.2), if_neg q]
    exact b6 k'
theorem zk_dI {k : Nat} {v : Int} (b : zk_D h0 h m w f g j) (_ : zv_rg v) (nx : ∀ h', zk_D h0 h' m w f (fun k' => if k' = k then v else g k') j → zm_R (G h') P) : zm_R ((zv_pI h 347 9 k v).bind G) P := by
  obtain ⟨b1, b2, b3, b4, b5, b6, b7, b8⟩ := b
  refine zc_dI ⟨by omega, rfl⟩ (nx _ ⟨fun r hr => zk_o_t (b1 r hr) ⟨zc_sIo _ _ _ _ (by omega), rfl, rfl⟩, b2, b3, b4, b5, b6, fun k' => ?_, b8⟩)
  show (if 347 = 347 ∧ k' = k then v else zv_I h 347 k') = if k' = k then v else g k'
  by_cases q : k' = k
  · rw [if_pos ⟨rfl, q⟩, if_pos q]
  · rw [if_neg (fun x => q x.2), if_neg q]
    exact b7 k'
theorem zk_dW {r i : Nat} {v : Int64} (b : zk_D h0 h m w f g j) (h1 : Nat.ble 348 r = true) (h2 : Nat.ble r m = true) (h3 : (Nat.beq (zv_lay r).1 5 && Nat.blt i (zv_lay r).2) = true) (nx : ∀ h', zk_D h0 h' m w f g (fun a c => if a = r ∧ c = i then v else j a c) → zm_R (G h') P) : zm_R ((zv_wJ h r (i : Int) v).bind G) P := by
  obtain ⟨b1, b2, b3, b4, b5, b6, b7, b8⟩ := b
  have q1 := Nat.ble_eq.mp h1
  have q2 := Nat.ble_eq.mp h2
  rw [Bool.and_eq_true] at h3
  have q3 := Nat.eq_of_beq_eq_true h3.1
  have q4 := Nat.blt_eq.mp h3.2
  have e : zv_wJ h r (i : Int) v = some (zv_sJ h r i v) := if_pos ⟨by omega, q3, by omega, by omega⟩
  rw [zm_e e]
  refine nx _ ⟨fun r' hr => zk_o_t (b1 r' hr) ⟨rfl, ?_, rfl⟩, b2, b3, b4, b5, b6, b7, fun r' k' a1 a2 => ?_⟩
  · funext k
    exact if_neg (fun q => by omega)
  · show (if r' = r ∧ k' = i then v else zv_J h r' k') = if r' = r ∧ k' = i then v else j r' k'
    by_cases q : r' = r ∧ k' = i
    · rw [if_pos q, if_pos q]
    · rw [if_neg q, if_neg q]
      exact b8 r' k' a1 a2
end
theorem zm_F_a' {A B : List Nat} {h h' : zv_H} (f : zm_F A B h h') {r : Nat} (hr : r < 347) (hA : (A.all fun x => Nat.ble 347 x) = true := by decide) : h'.2.1 r = h.2.1 r := by
  refine f.2.2.2.1 r ?_ ?_
  · cases e : A.contains r with
    | false => rfl
    | true =>
      have := Nat.ble_eq.mp (List.all_eq_true.mp hA r (List.contains_iff_mem.mp e))
      omega
  · cases e : Nat.beq r 347 with
    | false => rfl
    | true =>
      have := Nat.eq_of_beq_eq_true e
      omega
set_option maxRecDepth 100000 in
theorem zk_C9 {d : Nat} {h : zv_H} (hn : zv_n h = 347) (hR : ∀ k, zv_R h 347 k = 0) (hI : ∀ k, zv_I h 347 k = 0) : zm_R (C9_init (d + 3) 347 h) (fun h' => (∀ r, r < 347 → zk_o h h' r) ∧ zm_MI h' ∧ zv_I h' 347 27 = 0 ∧ h'.2.2.2.2 = h.2.2.2.2 ∧ zv_s h' = zv_s h + 33523 ∧ ∃ z, zm_M z ∧ C9_clears (d + 2) 347 z = some h' ∧ ∀ k, zv_I z 347 k = if k = 29 then -1 else if k = 28 then -1 else 0) := by
  refine zm_cV (fun e => lC9_init ⟨by omega, rfl⟩ e) ?_
  have b : zk_D h h 347 0 (fun _ => 0) (fun _ => 0) (fun _ _ => 0) := ⟨fun _ _ => ⟨rfl, rfl, rfl⟩, hn, rfl, Nat.le_refl _, rfl, hR, hI, fun r k h1 h2 => absurd h1 (by omega)⟩
  rw [qE9_init, if_neg (by decide)]
  refine zk_dA 2 4236 b rfl rfl fun g1 b e_g1 => ?_
  rw [e_g1]
  refine zk_dR 0 b fun g2 b => ?_
  refine zk_dA 2 4236 b rfl rfl fun g3 b e_g3 => ?_
  rw [e_g3]
  refine zk_dR 1 b fun g4 b => ?_
  refine zk_dA 2 4236 b rfl rfl fun g5 b e_g5 => ?_
  rw [e_g5]
  refine zk_dR 2 b fun g6 b => ?_
  refine zk_dA 2 49 b rfl rfl fun g7 b e_g7 => ?_
  rw [e_g7]
  refine zk_dR 5 b fun g8 b => ?_
  refine zk_dA 2 640 b rfl rfl fun g9 b e_g9 => ?_
  rw [e_g9]
  refine zk_dR 6 b fun g10 b => ?_
  refine zk_dA 2 640 b rfl rfl fun g11 b e_g11 => ?_
  rw [e_g11]
  refine zk_dR 7 b fun g12 b => ?_
  refine zk_dA 3 49 b rfl rfl fun g13 b e_g13 => ?_
  rw [e_g13]
  refine zk_dR 8 b fun g14 b => ?_
  refine zk_dA 3 640 b rfl rfl fun g15 b e_g15 => ?_
  rw [e_g15]
  refine zk_dR 9 b fun g16 b => ?_
  refine zk_dA 2 640 b rfl rfl fun g17 b e_g17 => ?_
  rw [e_g17]
  refine zk_dR 13 b fun g18 b => ?_
  refine zk_dA 2 640 b rfl rfl fun g19 b e_g19 => ?_
  rw [e_g19]
  refine zk_dR 14 b fun g20 b => ?_
  refine zk_dA 2 6 b rfl rfl fun g21 b e_g21 => ?_
  rw [e_g21]
  refine zk_dR 15 b fun g22 b => ?_
  refine zk_dA 3 400 b rfl rfl fun g23 b e_g23 => ?_
  rw [e_g23]
  refine zk_dR 16 b fun g24 b => ?_
  refine zk_dA 2 700 b rfl rfl fun g25 b e_g25 => ?_
  rw [e_g25]
  refine zk_dR 17 b fun g26 b => ?_
  refine zk_dA 2 12 b rfl rfl fun g27 b e_g27 => ?_
  rw [e_g27]
  refine zk_dR 18 b fun g28 b => ?_
  refine zk_dA 2 48 b rfl rfl fun g29 b e_g29 => ?_
  rw [e_g29]
  refine zk_dR 21 b fun g30 b => ?_
  refine zk_dA 2 49 b rfl rfl fun g31 b e_g31 => ?_
  rw [e_g31]
  refine zk_dR 22 b fun g32 b => ?_
  refine zk_dA 3 49 b rfl rfl fun g33 b e_g33 => ?_
  rw [e_g33]
  refine zk_dR 23 b fun g34 b => ?_
  refine zk_dA 3 49 b rfl rfl fun g35 b e_g35 => ?_
  rw [e_g35]
  refine zk_dR 25 b fun g36 b => ?_
  refine zk_dA 4 700 b rfl rfl fun g37 b e_g37 => ?_
  rw [e_g37]
  refine zk_dR 26 b fun g38 b => ?_
  refine zk_dI b (by unfold zv_rg; omega) fun g39 b => ?_
  refine zk_dI b (by unfold zv_rg; omega) fun g40 b => ?_
  refine zk_dA 5 12 b rfl rfl fun g41 b e_g41 => ?_
  rw [e_g41]
  refine zk_dW (i := 0) b rfl rfl rfl fun g42 b => ?_
  refine zk_dW (i := 1) b rfl rfl rfl fun g43 b => ?_
  refine zk_dW (i := 2) b rfl rfl rfl fun g44 b => ?_
  refine zk_dW (i := 3) b rfl rfl rfl fun g45 b => ?_
  refine zk_dW (i := 4) b rfl rfl rfl fun g46 b => ?_
  refine zk_dW (i := 5) b rfl rfl rfl fun g47 b => ?_
  refine zk_dW (i := 6) b rfl rfl rfl fun g48 b => ?_
  refine zk_dW (i := 7) b rfl rfl rfl fun g49 b => ?_
  refine zk_dW (i := 8) b rfl rfl rfl fun g50 b => ?_
  refine zk_dW (i := 9) b rfl rfl rfl fun g51 b => ?_
  refine zk_dW (i := 10) b rfl rfl rfl fun g52 b => ?_
  refine zk_dW (i := 11) b rfl rfl rfl fun g53 b => ?_
  refine zk_dR 39 b fun g54 b => ?_
  refine zk_dA 5 5 b rfl rfl fun g55 b e_g55 => ?_
  rw [e_g55]
  refine zk_dW (i := 0) b rfl rfl rfl fun g56 b => ?_
  refine zk_dW (i := 1) b rfl rfl rfl fun g57 b => ?_
  refine zk_dW (i := 2) b rfl rfl rfl fun g58 b => ?_
  refine zk_dW (i := 3) b rfl rfl rfl fun g59 b => ?_
  refine zk_dW (i := 4) b rfl rfl rfl fun g60 b => ?_
  refine zk_dR 40 b fun g61 b => ?_
  refine zk_dA 5 6 b rfl rfl fun g62 b e_g62 => ?_
  rw [e_g62]
  refine zk_dW (i := 0) b rfl rfl rfl fun g63 b => ?_
  refine zk_dW (i := 1) b rfl rfl rfl fun g64 b => ?_
  refine zk_dW (i := 2) b rfl rfl rfl fun g65 b => ?_
  refine zk_dW (i := 3) b rfl rfl rfl fun g66 b => ?_
  refine zk_dW (i := 4) b rfl rfl rfl fun g67 b => ?_
  refine zk_dW (i := 5) b rfl rfl rfl fun g68 b => ?_
  refine zk_dR 41 b fun g69 b => ?_
  refine zk_dA 2 640 b rfl rfl fun g70 b e_g70 => ?_
  rw [e_g70]
  refine zk_dR 44 b fun g71 b => ?_
  refine zk_dA 2 14641 b rfl rfl fun g72 b e_g72 => ?_
  rw [e_g72]
  refine zk_dR 45 b fun g73 b => ?_
  refine zk_dA 2 200 b rfl rfl fun g74 b e_g74 => ?_
  rw [e_g74]
  refine zk_dR 46 b fun g75 b => ?_
  obtain ⟨b1, b2, b3, b4, b5, b6, b7, b8⟩ := b
  have hM : zm_M g75 := by
    have H : ∀ k : Nat, k < 48 → zm_fr.getD k 0 ≠ 0 → zv_R g75 347 k = zm_fr.getD k 0 := by
      intro k hk
      rw [b6 k]
      revert k hk
      decide
    refine ⟨b2, fun k hk => ?_⟩
    by_cases c : k < 48
    · exact H k c hk
    · exact absurd (show zm_fr.getD k 0 = 0 from by
        rw [List.getD_eq_getElem?_getD, List.getElem?_eq_none (show zm_fr.length ≤ k from by show 48 ≤ k; omega)]
        rfl) hk
  have g35 : zv_I g75 347 35 = 0 := b7 35
  have g27 : zv_I g75 347 27 = 0 := b7 27
  have g20 : zv_I g75 347 20 = 0 := b7 20
  have g47 : zv_I g75 347 47 = 0 := b7 47
  have K7 : ∀ j : Nat, j < 12 → zv_J g75 367 j = zm_t7.getD j 0 := fun j hj => (b8 367 j (by decide) (by decide)).trans (by
    revert j
    decide)
  have K8 : ∀ j : Nat, j < 5 → zv_J g75 368 j = zm_t8.getD j 0 := fun j hj => (b8 368 j (by decide) (by decide)).trans (by
    revert j
    decide)
  have K9 : ∀ j : Nat, j < 6 → zv_J g75 369 j = zm_t9.getD j 0 := fun j hj => (b8 369 j (by decide) (by decide)).trans (by
    revert j
    decide)
  have K : zm_K g75 := ⟨b8 368 2 (by decide) (by decide), b8 368 3 (by decide) (by decide), b8 368 4 (by decide) (by decide), K7, K8, K9⟩
  obtain ⟨h', e, f, O, c4⟩ := zm_clears hM d
  rw [zm_e e]
  have W : zm_W (zv_I h' 348) := zm_W_O O (by decide) (by rw [c4]; decide) (Or.inl c4)
  refine zm_iV ⟨fun r hr => zk_o_t (b1 r hr) ⟨zm_F_a' f hr, by funext k; exact f.2.2.2.2.2 r k (fun q => by omega), congrFun f.2.1 r⟩, ⟨zm_F_M f hM, W, zm_K_F K f, ?_, ?_, ?_, ?_⟩, (zm_F_g f 27).trans g27, f.2.2.1.trans b5, ?_, g75, hM, e, b7⟩
  · rw [zm_F_g f 27, g27]; decide
  · rw [zm_F_g f 35, g35]; decide
  · rw [zm_F_g f 20, g20]; decide
  · rw [zm_F_g f 47, g47]; decide
  · unfold zv_s
    rw [f.1]
    exact b3
