/-! ===== the class: its constructors ===== -/
def zk_I (h : zv_H) : Prop := (∀ r k, r < 347 → zv_rg (zv_I h r k)) ∧ (∀ r c k m, zv_lay r = (1, c) → zc_bd c k = some m → zv_I h r k = 0) ∧ (∀ r k, zv_lay r = (1, 4) → zv_R h (r + 1) k = 0) ∧ (∀ r, zv_n h < r → ∀ k, zv_I h r k = 0 ∧ zv_R h r k = 0) ∧ ∀ r, r = 10 ∨ r = 179 → zv_I h r 0 = 0
def zk_fin (h : zv_H) (r : Nat) : Prop := (zv_lay r).1 = 1 → ∀ k, zc_off (zv_lay r).2 k ≠ 0 → zv_R h r k = r + zc_off (zv_lay r).2 k
def zk_o (h h' : zv_H) (r : Nat) : Prop := h'.2.1 r = h.2.1 r ∧ h'.2.2.1 r = h.2.2.1 r ∧ h'.2.2.2.1 r = h.2.2.2.1 r
theorem zk_o_t {h h1 h2 : zv_H} {r : Nat} (f : zk_o h h1 r) (g : zk_o h1 h2 r) : zk_o h h2 r := ⟨g.1.trans f.1, g.2.1.trans f.2.1, g.2.2.trans f.2.2⟩
theorem zk_fin_o {h h' : zv_H} {r : Nat} (f : zk_o h h' r) (g : zk_fin h r) : zk_fin h' r := fun l k hk => (congrFun f.2.2 k).trans (g l k hk)
/-- what a constructor leaves: of the cells from r to e -/
def zk_P (r e w : Nat) (h h' : zv_H) : Prop := zk_I h' ∧ zv_n h' = e ∧ zv_s h' = zv_s h + w ∧ h'.2.2.2.2 = h.2.2.2.2 ∧ (∀ r', r' < r → zk_o h h' r') ∧ ∀ r', r ≤ r' → r' ≤ e → zk_fin h' r'
/-- under way -/
def zk_B (r c : Nat) (h0 h : zv_H) (m w : Nat) (f : Nat → Nat) : Prop := zk_I h ∧ zv_n h = m ∧ zv_s h = zv_s h0 + w ∧ r ≤ m ∧ zv_lay r = (1, c) ∧ h.2.2.2.2 = h0.2.2.2.2 ∧ (∀ r', r' < r → zk_o h0 h r') ∧ h.2.1 r = h0.2.1 r ∧ (∀ k, zv_R h r k = f k) ∧ ∀ r', r < r' → r' ≤ m → zk_fin h r'
theorem zk_B0 {r c : Nat} {h : zv_H} (hI : zk_I h) (hn : zv_n h = r) (hl : zv_lay r = (1, c)) (hR : ∀ k, zv_R h r k = 0) : zk_B r c h h r 0 (fun _ => 0) := ⟨hI, hn, rfl, Nat.le_refl _, hl, rfl, fun _ _ => ⟨rfl, rfl, rfl⟩, rfl, hR, fun r' h1 h2 => absurd h1 (by omega)⟩
theorem zk_end {r c m w : Nat} {h0 h : zv_H} {f : Nat → Nat} (b : zk_B r c h0 h m w f) (hf : ∀ k, zc_off c k ≠ 0 → f k = r + zc_off c k) : zk_P r m w h0 h := by
  obtain ⟨b1, b2, b3, b4, b5, b6, b7, b8, b9, b10⟩ := b
  refine ⟨b1, b2, b3, b6, b7, fun r' h1 h2 => ?_⟩
  by_cases e : r' = r
  · subst e
    intro l k hk
    rw [b5] at hk ⊢
    exact (b9 k).trans (hf k hk)
  · exact b10 r' (by omega) h2
theorem zk_I_mk {h : zv_H} (hI : zk_I h) (w : Nat) : zk_I (zv_mk h w) := by
  obtain ⟨i1, i2, i3, i4, i5⟩ := hI
  have r0 : zv_rg 0 := by unfold zv_rg; omega
  have eI : ∀ r k, zv_I (zv_mk h w) r k = if r = zv_n h + 1 then 0 else zv_I h r k := fun _ _ => rfl
  have eR : ∀ r k, zv_R (zv_mk h w) r k = if r = zv_n h + 1 then 0 else zv_R h r k := fun _ _ => rfl
  refine ⟨fun r k hr => ?_, fun r c k m h1 h2 => ?_, fun r k h1 => ?_, fun r h1 k => ?_, fun r h1 => ?_⟩
  · rw [eI]; split
    · exact r0
    · exact i1 r k hr
  · rw [eI]; split
    · rfl
    · exact i2 r c k m h1 h2
  · rw [eR]; split
    · rfl
    · exact i3 r k h1
  · rw [eI, eR]
    have h1' : zv_n h + 1 < r := h1
    rw [if_neg (by omega), if_neg (by omega)]
    exact i4 r (by omega) k
  · rw [eI]; split
    · rfl
    · exact i5 r h1
theorem zk_mk_o (h : zv_H) (w : Nat) {r : Nat} (hr : r ≤ zv_n h) : zk_o h (zv_mk h w) r := by
  have hr' : ¬ r = h.1.1 + 1 := by
    have : zv_n h = h.1.1 := rfl
    omega
  refine ⟨?_, ?_, ?_⟩
  · funext k
    exact if_neg hr'
  · funext k
    exact if_neg hr'
  · funext k
    exact if_neg hr'
theorem zk_mk_0 (h : zv_H) (w k : Nat) : zv_R (zv_mk h w) (zv_n h + 1) k = 0 ∧ zv_I (zv_mk h w) (zv_n h + 1) k = 0 := ⟨if_pos rfl, if_pos rfl⟩
theorem zk_I_sR {h : zv_H} (hI : zk_I h) {r k v : Nat} (hr : r ≤ zv_n h) (hl : ∀ r', zv_lay r' = (1, 4) → r' + 1 ≠ r) : zk_I (zv_sR h r k v) := by
  obtain ⟨i1, i2, i3, i4, i5⟩ := hI
  refine ⟨i1, i2, fun r' k' h1 => ?_, fun r' h1 k' => ⟨(i4 r' h1 k').1, ?_⟩, i5⟩
  · exact (if_neg (fun q => hl r' h1 q.1)).trans (i3 r' k' h1)
  · exact (if_neg (fun q => by have : zv_n h < r' := h1; omega)).trans (i4 r' h1 k').2
theorem zk_I_sI {h : zv_H} (hI : zk_I h) {r k : Nat} {v : Int} (hr : r ≤ zv_n h) (hv : zv_rg v) (hb : ∀ c m, zv_lay r = (1, c) → zc_bd c k = some m → v = 0) (h5 : k = 0 → r = 10 ∨ r = 179 → v = 0) : zk_I (zv_sI h r k v) := by
  obtain ⟨i1, i2, i3, i4, i5⟩ := hI
  refine ⟨zc_rg_s i1 hv, fun r' c k' m h1 h2 => ?_, i3, fun r' h1 k' => ⟨?_, (i4 r' h1 k').2⟩, fun r' h1 => ?_⟩
  · by_cases q : r' = r ∧ k' = k
    · rw [q.1, q.2, zc_sI2]
      rw [q.1] at h1
      rw [q.2] at h2
      exact hb c m h1 h2
    · rw [zc_sI1 _ _ _ _ q]
      exact i2 r' c k' m h1 h2
  · exact (zc_sI1 _ _ _ _ (fun q => by have : zv_n h < r' := h1; omega)).trans (i4 r' h1 k').1
  · by_cases q : r' = r ∧ 0 = k
    · rw [q.1, q.2, zc_sI2]
      exact h5 q.2.symm (by rw [← q.1]; exact h1)
    · rw [zc_sI1 _ _ _ _ q]
      exact i5 r' h1
theorem zk_obn {r c : Nat} (hl : zv_lay r = (1, c)) : ∀ r', zv_lay r' = (1, 4) → r' + 1 ≠ r := fun r' h1 e => by
  have : zv_lay (r' + 1) = (6, 48) := by cases zc_l4 h1 with
    | inl q => rw [q]; rfl
    | inr q => rw [q]; rfl
  rw [e, hl] at this
  cases this
/-- a field with an array of its own -/
theorem zk_fa {α : Type} {r c : Nat} {h0 h : zv_H} {m w : Nat} {f : Nat → Nat} {P : α → Prop} {g : zv_H → Option α} (k kd n : Nat) (b : zk_B r c h0 h m w f) (hl : zv_lay (m + 1) = (kd, n)) (h2 : Nat.blt 1 kd = true) (hn : Nat.ble n 60000 = true) (nx : ∀ h', zk_B r c h0 h' (m + 1) (w + n) (fun k' => if k' = k then m + 1 else f k') → zm_R (g h') P) : zm_R ((zv_nA h kd (n : Int)).bind fun g1 => (zv_pR g1 r c k (zv_n h + 1)).bind g) P := by
  obtain ⟨b1, b2, b3, b4, b5, b6, b7, b8, b9, b10⟩ := b
  have hn' := Nat.ble_eq.mp hn
  have e1 : zv_nA h kd (n : Int) = some (zv_mk h n) := if_pos ⟨by omega, by rw [b2, hl]; rfl⟩
  have ob : zv_ob (zv_mk h n) r c := ⟨by show r ≤ h.1.1 + 1; have : zv_n h = h.1.1 := rfl; omega, b5⟩
  rw [zm_e e1, zm_e (show zv_pR (zv_mk h n) r c k (zv_n h + 1) = some _ from if_pos ob)]
  have om : ∀ r', r' ≤ m → zk_o h (zv_mk h n) r' := fun r' hr => zk_mk_o h n (by omega)
  have os : ∀ r', r' ≠ r → zk_o (zv_mk h n) (zv_sR (zv_mk h n) r k (zv_n h + 1)) r' := fun r' hr => ⟨rfl, rfl, zc_sRo _ _ _ _ hr⟩
  refine nx _ ⟨zk_I_sR (zk_I_mk b1 n) ob.1 (zk_obn b5), ?_, ?_, by omega, b5, b6, fun r' hr => zk_o_t (b7 r' hr) (zk_o_t (om r' (by omega)) (os r' (by omega))), ?_, fun k' => ?_, fun r' h1 h2' => ?_⟩
  · show h.1.1 + 1 = m + 1
    have : zv_n h = h.1.1 := rfl
    omega
  · show h.1.2 + n = _
    have : zv_s h = h.1.2 := rfl
    omega
  · exact (om r b4).1.trans b8
  · show (if r = r ∧ k' = k then zv_n h + 1 else zv_R (zv_mk h n) r k') = if k' = k then m + 1 else f k'
    by_cases q : k' = k
    · rw [if_pos ⟨rfl, q⟩, if_pos q, b2]
    · rw [if_neg (fun x => q x.2), if_neg q]
      exact (congrFun (om r b4).2.2 k').trans (b9 k')
  · by_cases q : r' = m + 1
    · intro l
      rw [q, hl] at l
      have := Nat.ble_eq.mp h2
      have l' : kd = 1 := l
      omega
    · exact zk_fin_o (zk_o_t (om r' (by omega)) (os r' (by omega))) (b10 r' h1 (by omega))
/-- a field with an object of its own -/
theorem zk_fo {α : Type} {r c : Nat} {h0 h : zv_H} {m w : Nat} {f : Nat → Nat} {P : α → Prop} {g : zv_H → Option α} (k ci e w' : Nat) {con : Nat → zv_H → Option zv_H} (b : zk_B r c h0 h m w f) (hl : zv_lay (m + 1) = (1, ci)) (he : m + 1 ≤ e) (hc : ∀ h1, zk_I h1 → zv_n h1 = m + 1 → (∀ k, zv_R h1 (m + 1) k = 0) → (∀ k, zv_I h1 (m + 1) k = 0) → zm_R (con (m + 1) h1) (fun h' => zk_P (m + 1) e w' h1 h')) (nx : ∀ h', zk_B r c h0 h' e (w + zv_nf ci + w') (fun k' => if k' = k then m + 1 else f k') → zm_R (g h') P) : zm_R ((zv_nO h ci).bind fun g1 => (con (zv_n h + 1) g1).bind fun g2 => (zv_pR g2 r c k (zv_n h + 1)).bind g) P := by
  obtain ⟨b1, b2, b3, b4, b5, b6, b7, b8, b9, b10⟩ := b
  have e1 : zv_nO h ci = some (zv_mk h (zv_nf ci)) := if_pos (by rw [b2, hl])
  have n1 : zv_n (zv_mk h (zv_nf ci)) = m + 1 := by show h.1.1 + 1 = m + 1; have : zv_n h = h.1.1 := rfl; omega
  have z := zk_mk_0 h (zv_nf ci)
  rw [b2] at z
  obtain ⟨g2, e2, p1, p2, p3, p4, p5, p6⟩ := hc (zv_mk h (zv_nf ci)) (zk_I_mk b1 _) n1 (fun k => (z k).1) (fun k => (z k).2)
  rw [zm_e e1, b2, zm_e e2]
  have ob : zv_ob g2 r c := ⟨by rw [p2]; omega, b5⟩
  rw [zm_e (show zv_pR g2 r c k (m + 1) = some _ from if_pos ob)]
  have om : ∀ r', r' ≤ m → zk_o h g2 r' := fun r' hr => zk_o_t (zk_mk_o h _ (by omega)) (p5 r' (by omega))
  have os : ∀ r', r' ≠ r → zk_o g2 (zv_sR g2 r k (m + 1)) r' := fun r' hr => ⟨rfl, rfl, zc_sRo _ _ _ _ hr⟩
  refine nx _ ⟨zk_I_sR p1 ob.1 (zk_obn b5), p2, ?_, by omega, b5, p4.trans b6, fun r' hr => zk_o_t (b7 r' hr) (zk_o_t (om r' (by omega)) (os r' (by omega))), ?_, fun k' => ?_, fun r' h1 h2' => ?_⟩
  · show zv_s g2 = _
    rw [p3]
    show h.1.2 + zv_nf ci + w' = _
    have : zv_s h = h.1.2 := rfl
    omega
  · exact (om r b4).1.trans b8
  · show (if r = r ∧ k' = k then m + 1 else zv_R g2 r k') = if k' = k then m + 1 else f k'
    by_cases q : k' = k
    · rw [if_pos ⟨rfl, q⟩, if_pos q]
    · rw [if_neg (fun x => q x.2), if_neg q]
      exact (congrFun (om r b4).2.2 k').trans (b9 k')
  · by_cases q : r' ≤ m
    · exact zk_fin_o (zk_o_t (om r' q) (os r' (by omega))) (b10 r' h1 q)
    · exact zk_fin_o (os r' (by omega)) (p6 r' (by omega) h2')
section
variable {d : Nat} {h : zv_H} {r : Nat}
theorem zk_C7 (hI : zk_I h) (hn : zv_n h = r) (hR : ∀ k, zv_R h r k = 0) (l : zv_lay r = (1, 7)) (l1 : zv_lay (r + 1) = (2, 40)) : zm_R (C7_init (d + 1) r h) (fun h' => zk_P r (r + 1) 40 h h') := by
  refine zm_cV (fun e => lC7_init ⟨by omega, l⟩ e) ?_
  rw [qE7_init, if_neg (zc_nz l)]
  refine zk_fa 0 2 40 (zk_B0 hI hn l hR) l1 rfl rfl fun h' b => ?_
  refine zm_iV (zk_end b (fun k hk => ?_))
  match k with
  | 0 => rfl
  | n + 1 => exact absurd rfl hk
theorem zk_C3 (hI : zk_I h) (hn : zv_n h = r) (hR : ∀ k, zv_R h r k = 0) (l : zv_lay r = (1, 3)) (l1 : zv_lay (r + 1) = (2, 700)) (l2 : zv_lay (r + 2) = (1, 7)) (l3 : zv_lay (r + 3) = (2, 40)) : zm_R (C3_init (d + 2) r h) (fun h' => zk_P r (r + 3) 742 h h') := by
  refine zm_cV (fun e => lC3_init ⟨by omega, l⟩ e) ?_
  rw [qE3_init, if_neg (zc_nz l)]
  refine zk_fa 0 2 700 (zk_B0 hI hn l hR) l1 rfl rfl fun h1 b => ?_
  refine zk_fo 1 7 (r + 3) 40 (con := C7_init (d + 1)) b l2 (by omega) (fun h1 i n z _ => zk_C7 i n z l2 l3) fun h' b => ?_
  refine zm_iV (zk_end b (fun k hk => ?_))
  match k with
  | 0 => rfl
  | 1 => rfl
  | n + 2 => exact absurd rfl hk
theorem zk_C4 (hI : zk_I h) (hn : zv_n h = r) (hR : ∀ k, zv_R h r k = 0) (l : zv_lay r = (1, 4)) (l1 : zv_lay (r + 1) = (6, 48)) (l2 : zv_lay (r + 2) = (2, 604)) (l3 : zv_lay (r + 3) = (3, 604)) (l4 : zv_lay (r + 4) = (3, 604)) (l5 : zv_lay (r + 5) = (2, 605)) : zm_R (C4_init (d + 1) r h) (fun h' => zk_P r (r + 5) 2465 h h') := by
  refine zm_cV (fun e => lC4_init ⟨by omega, l⟩ e) ?_
  rw [qE4_init, if_neg (zc_nz l)]
  refine zk_fa 0 6 48 (zk_B0 hI hn l hR) l1 rfl rfl fun h1 b => ?_
  refine zk_fa 1 2 604 b l2 rfl rfl fun h1 b => ?_
  refine zk_fa 2 3 604 b l3 rfl rfl fun h1 b => ?_
  refine zk_fa 3 3 604 b l4 rfl rfl fun h1 b => ?_
  refine zk_fa 4 2 605 b l5 rfl rfl fun h1 b => ?_
  refine zm_iV (zk_end b (fun k hk => ?_))
  match k with
  | 0 => rfl
  | 1 => rfl
  | 2 => rfl
  | 3 => rfl
  | 4 => rfl
  | n + 5 => exact absurd rfl hk
theorem zk_C2 (hI : zk_I h) (hn : zv_n h = r) (hR : ∀ k, zv_R h r k = 0) (l : zv_lay r = (1, 2)) (l1 : zv_lay (r + 1) = (2, 12)) (l2 : zv_lay (r + 2) = (2, 12)) : zm_R (C2_init (d + 1) r h) (fun h' => zk_P r (r + 2) 24 h h') := by
  refine zm_cV (fun e => lC2_init ⟨by omega, l⟩ e) ?_
  rw [qE2_init, if_neg (zc_nz l)]
  refine zk_fa 0 2 12 (zk_B0 hI hn l hR) l1 rfl rfl fun h1 b => ?_
  refine zk_fa 1 2 12 b l2 rfl rfl fun h1 b => ?_
  refine zm_iV (zk_end b (fun k hk => ?_))
  match k with
  | 0 => rfl
  | 1 => rfl
  | n + 2 => exact absurd rfl hk
theorem zk_C6 (hI : zk_I h) (hn : zv_n h = r) (hR : ∀ k, zv_R h r k = 0) (l : zv_lay r = (1, 6)) (l1 : zv_lay (r + 1) = (2, 40)) (l2 : zv_lay (r + 2) = (2, 40)) (l3 : zv_lay (r + 3) = (2, 40)) (l4 : zv_lay (r + 4) = (2, 40)) : zm_R (C6_init (d + 1) r h) (fun h' => zk_P r (r + 4) 160 h h') := by
  refine zm_cV (fun e => lC6_init ⟨by omega, l⟩ e) ?_
  rw [qE6_init, if_neg (zc_nz l)]
  refine zk_fa 0 2 40 (zk_B0 hI hn l hR) l1 rfl rfl fun h1 b => ?_
  refine zk_fa 1 2 40 b l2 rfl rfl fun h1 b => ?_
  refine zk_fa 2 2 40 b l3 rfl rfl fun h1 b => ?_
  refine zk_fa 3 2 40 b l4 rfl rfl fun h1 b => ?_
  refine zm_iV (zk_end b (fun k hk => ?_))
  match k with
  | 0 => rfl
  | 1 => rfl
  | 2 => rfl
  | 3 => rfl
  | n + 4 => exact absurd rfl hk
theorem zk_C1 (hI : zk_I h) (hn : zv_n h = r) (hR : ∀ k, zv_R h r k = 0) (l : zv_lay r = (1, 1)) (l1 : zv_lay (r + 1) = (2, 176)) (l2 : zv_lay (r + 2) = (2, 176)) (l3 : zv_lay (r + 3) = (2, 6)) : zm_R (C1_init (d + 1) r h) (fun h' => zk_P r (r + 3) 358 h h') := by
  refine zm_cV (fun e => lC1_init ⟨by omega, l⟩ e) ?_
  rw [qE1_init, if_neg (zc_nz l)]
  refine zk_fa 0 2 176 (zk_B0 hI hn l hR) l1 rfl rfl fun h1 b => ?_
  refine zk_fa 1 2 176 b l2 rfl rfl fun h1 b => ?_
  refine zk_fa 2 2 6 b l3 rfl rfl fun h1 b => ?_
  refine zm_iV (zk_end b (fun k hk => ?_))
  match k with
  | 0 => rfl
  | 1 => rfl
  | 2 => rfl
  | n + 3 => exact absurd rfl hk
theorem zk_C5 {i : Int} (hI : zk_I h) (hn : zv_n h = r) (hR : ∀ k, zv_R h r k = 0) (ri : zv_rg i) (hi : r = 10 ∨ r = 179 → i = 0) (l : zv_lay r = (1, 5)) (l1 : zv_lay (r + 1) = (2, 12)) (l2 : zv_lay (r + 2) = (2, 120)) : zm_R (C5_init (d + 1) r i h) (fun h' => zk_P r (r + 2) 132 h h' ∧ zv_I h' r 0 = i) := by
  refine zm_cV (fun e => lC5_init ⟨by omega, l⟩ e) ?_
  rw [qE5_init, if_neg (zc_nz l)]
  refine zk_fa 1 2 12 (zk_B0 hI hn l hR) l1 rfl rfl fun h1 b => ?_
  refine zk_fa 2 2 120 b l2 rfl rfl fun h1 b => ?_
  obtain ⟨p1, p2, p3, p4, p5, p6⟩ := zk_end b (fun k hk => by
    match k with
    | 0 => exact absurd rfl hk
    | 1 => rfl
    | 2 => rfl
    | n + 3 => exact absurd rfl hk)
  refine zc_dI ⟨by omega, l⟩ ?_
  refine zm_iV ⟨⟨zk_I_sI p1 (by omega) ri (fun c m q q1 => ?_) (fun _ q => hi q), p2, p3, p4, fun r' hr => zk_o_t (p5 r' hr) ⟨zc_sIo _ _ _ _ (by omega), rfl, rfl⟩, fun r' a1 a2 => p6 r' a1 a2⟩, zc_sI2 _ _ _ _⟩
  rw [l] at q
  cases q
  cases q1
end
