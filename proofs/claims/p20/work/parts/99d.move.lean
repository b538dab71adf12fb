/-! ===== the class: going about ===== -/
def zc_Y (h h' : zv_H) : Prop := zc_X h h' ∧ ∀ t, zc_V h t → zc_V h' t
theorem zc_Y_t {h h1 h2 : zv_H} (f : zc_Y h h1) (g : zc_Y h1 h2) : zc_Y h h2 := ⟨zc_X_t f.1 g.1, fun t q => g.2 t (f.2 t q)⟩
theorem zc_QY {h h' : zv_H} (f : zc_Q h h') : zc_Y h h' := ⟨zc_QX f, fun _ q => zc_Vq f.1 q⟩
/-- a State of this History, or none -/
def zc_U (h : zv_H) (a s : Nat) : Prop := s = 0 ∨ (zc_V h s ∧ zc_hf s = a)
theorem zc_Uq {h h' : zv_H} (f : zc_q h h') {a s : Nat} (u : zc_U h a s) : zc_U h' a s := u.imp id (fun q => ⟨zc_Vq f q.1, q.2⟩)
theorem zc_Ub {h h' : zv_H} (f : zc_q h h') {a s : Nat} (u : zc_U h' a s) : zc_U h a s := u.imp id (fun q => ⟨zc_Vb f q.1, q.2⟩)
theorem zc_at2 {d : Nat} {h : zv_H} (hA : zc_A h) {a : Nat} (ha : zv_lay a = (1, 0)) {i : Int} (hi : zv_rg i) : zm_R (C0_at (d + 1) a i h) (fun q => q.2 = h ∧ zc_U h a q.1) := by
  have F := zc_Q_r hA
  refine zm_cN (P := fun v h' => h' = h ∧ zc_U h a v) (fun e => lC0_at (zc_ob hA ha) e) ?_
  rw [qE0_at]
  refine zm_if (fun c => zm_iN ⟨rfl, Or.inl rfl⟩) (fun c => ?_)
  refine zm_if (fun c1 => ?_) (fun c1 => zm_iN ⟨rfl, Or.inl rfl⟩)
  refine zc_rF F 4 ha ?_
  refine zc_rS F ha (by omega) c1 fun v l f e n => ?_
  rw [if_neg (zc_nz l)]
  refine zc_rI F l fun v3 e3 r3 => ?_
  refine zm_if (fun c2 => zm_iN ⟨rfl, Or.inl rfl⟩) (fun c2 => ?_)
  refine zm_iN ⟨rfl, Or.inr ⟨⟨l, ?_⟩, f⟩⟩
  cases hA.2.1 v l with
  | inl t => exact absurd (e3.trans t.1) c2
  | inr t => exact t.1
theorem zc_behind1 {d : Nat} {h : zv_H} (hA : zc_A h) {a : Nat} (ha : zv_lay a = (1, 0)) : zm_R (C0_behind (d + 1) a 1 h) (fun q => q.2 = h ∧ zc_U h a q.1) := by
  have F := zc_Q_r hA
  have hV := zc_hV F ha
  have hf := zc_fV1 hA _ _ hV.1 rfl
  have dp := (zc_dep F hf.1).2
  refine zm_cN (P := fun v h' => h' = h ∧ zc_U h a v) (fun e => lC0_behind (zc_ob hA ha) e) ?_
  rw [qE0_behind, zm_e (zc_gR hA ha 10), qL0_behind_7, if_pos (by decide), if_neg (zc_nz hV.1.1), zm_e (zc_gR hA hV.1.1 5), if_neg (zc_nz hf.1.1), zm_e (zc_gR hA hV.1.1 5), zm_e (zc_gR hA hf.1.1 4), qL0_behind_7, if_neg (by rw [zm_w (by omega)]; omega)]
  refine zm_iN ⟨rfl, ?_⟩
  cases dp with
  | inl q => exact Or.inl q
  | inr q => exact Or.inr ⟨q.1, q.2.1.trans (hf.2.trans hV.2)⟩
theorem zc_newest {d : Nat} {h : zv_H} (hA : zc_A h) {a : Nat} (ha : zv_lay a = (1, 0)) {s : Nat} {b : Int} (hs : zv_lay s = (1, 5)) : zm_R (C0_newestChild (d + 2) a s b h) (fun q => q.2 = h ∧ zc_U h a q.1) := by
  have F := zc_Q_r hA
  refine zm_cN (P := fun v h' => h' = h ∧ zc_U h a v) (fun e => lC0_newestChild (zc_ob hA ha) e) ?_
  have loop : ∀ (n : Nat) (i : Int) (f : Nat), 0 ≤ i → zc_U h a f → (48 - i).toNat = n → zm_R (L0_newestChild_5 (d + 1) a s b f i h) (zm_N fun v h' => h' = h ∧ zc_U h a v) := by
    intro n
    induction n with
    | zero =>
      intro i f h0 hu hn
      rw [qL0_newestChild_5, if_neg (by omega)]
      exact zm_iN ⟨rfl, hu⟩
    | succ n ih =>
      intro i f h0 hu hn
      rw [qL0_newestChild_5, if_pos (by omega)]
      refine zc_pN (K := fun v => zc_U h a v) (zc_at2 hA ha (by unfold zv_rg; omega)) fun v u => ?_
      dsimp only
      rw [zm_w (show -2147483648 ≤ i + 1 ∧ i + 1 < 2147483648 by omega)]
      have nx : ∀ f, zc_U h a f → zm_R (L0_newestChild_5 (d + 1) a s b f (i + 1) h) (zm_N fun v h' => h' = h ∧ zc_U h a v) := fun f hf => ih _ f (by omega) hf (by omega)
      refine zm_if (fun c => nx f hu) (fun c => ?_)
      have u1 := u.resolve_left c
      have w1 := zv_lay_lt (zc_ly u1.1.1)
      have w2 := zv_lay_lt (zc_ly hs)
      refine zc_rR F u1.1.1 fun v2 e2 => ?_
      have w3 : v2 < 373 := by
        rw [e2]
        cases (zc_dep F u1.1).2 with
        | inl q => omega
        | inr q => exact zv_lay_lt (zc_ly q.1.1)
      rw [if_neg (by omega)]
      refine zm_if (fun c => ?_) (fun c => nx f hu)
      refine zc_rI F u1.1.1 fun v3 e3 r3 => ?_
      refine zm_if (fun c => ?_) (fun c => nx f hu)
      refine zm_if (fun c => nx v u) (fun c => ?_)
      refine zc_rI F u1.1.1 fun v4 e4 r4 => ?_
      refine zc_rI F (hu.resolve_left c).1.1 fun v5 e5 r5 => ?_
      exact zm_if (fun c => nx f hu) (fun c => nx v u)
  rw [qE0_newestChild]
  exact loop _ 0 0 (by omega) (Or.inl rfl) rfl
theorem zc_childOf {d : Nat} {h : zv_H} (hA : zc_A h) {a : Nat} (ha : zv_lay a = (1, 0)) {s : Nat} {i : Int} (hs : zv_lay s = (1, 5)) (hi : zv_rg i) : zm_R (C0_childOf (d + 3) a s i h) (fun q => zc_Q h q.2 ∧ zc_U h a q.1) := by
  have F := zc_Q_r hA
  refine zm_cN (P := fun v h' => zc_Q h h' ∧ zc_U h a v) (fun e => lC0_childOf (zc_ob hA ha) e) ?_
  have loop : ∀ (n : Nat) (k b : Int) (f : Nat) (h1 : zv_H), zc_Q h h1 → 0 ≤ k → zc_U h a f → (i + 1 - k).toNat = n → i < 2147483647 → zm_R (L0_childOf_34 (d + 2) a s i f b k h1) (zm_N fun v h' => zc_Q h h' ∧ zc_U h a v) := by
    intro n
    induction n with
    | zero =>
      intro k b f h1 F1 h0 hu hn hi2
      rw [qL0_childOf_34, if_neg (by omega)]
      exact zm_iN ⟨F1, hu⟩
    | succ n ih =>
      intro k b f h1 F1 h0 hu hn hi2
      rw [qL0_childOf_34, if_pos (by omega)]
      refine zc_pN (K := fun v => zc_U h1 a v) (zc_newest F1.2 ha hs) fun v u => ?_
      dsimp only
      have u' := zc_Ub F1.1 u
      refine zm_if (fun c => zm_iN ⟨F1, Or.inl rfl⟩) (fun c => ?_)
      refine zc_rI F1 (u'.resolve_left c).1.1 fun v2 e2 r2 => ?_
      rw [zm_w (by omega)]
      exact ih _ _ _ h1 F1 (by omega) u' (by omega) hi2
  rw [qE0_childOf]
  refine zm_if (fun c => zm_iN ⟨F, Or.inl rfl⟩) (fun c => ?_)
  refine zc_rI F hs fun v1 e1 r1 => ?_
  refine zm_if (fun c1 => ?_) (fun c1 => zm_iN ⟨F, Or.inl rfl⟩)
  refine zc_cV F (zc_C0_findNewest hA ha) fun g2 F2 => ?_
  refine zc_rF F2 17 ha ?_
  refine zc_rI F2 (zc_y0_7 ha).1 fun v4 e4 r4 => ?_
  exact loop _ 0 _ 0 g2 F2 (by omega) (Or.inl rfl) rfl (by unfold zv_rg at r1; omega)
theorem zc_hereA {h : zv_H} (hA : zc_A h) {a s : Nat} (ha : zv_lay a = (1, 0)) (hV : zc_V h s) (hf : zc_hf s = a) : zc_A (zv_sR h a 10 s) := by
  obtain ⟨b1, b2, b3, b4, b5, b6, b7, b8⟩ := hA.1
  have o : ∀ r k, ¬ (r = a ∧ k = 10) → zv_R (zv_sR h a 10 s) r k = zv_R h r k := fun r k c => if_neg c
  have n1 : ∀ r x, zv_lay r = x → x ≠ (1, 0) → r ≠ a := fun r x e n q => n (by rw [← e, q, ha])
  have o5 : ∀ t, zv_lay t = (1, 5) → ∀ k, zv_R (zv_sR h a 10 s) t k = zv_R h t k := fun t ht k => o t k (fun q => n1 t _ ht (by decide) q.1)
  have hl : ∀ a', zv_lay a' = (1, 0) → zv_lay (a' + 4) = (6, 48) := fun a' h' => by cases zc_lh h' with
    | inl e => rw [e]; rfl
    | inr e => rw [e]; rfl
  have l17 : ∀ r, zv_lay r = (1, 4) → zv_lay (r + 1) = (6, 48) := fun a' h' => by cases zc_l4 h' with
    | inl e => rw [e]; rfl
    | inr e => rw [e]; rfl
  refine ⟨⟨b1, fun r k hr hk => ?_, fun a' i h' hi => ?_, ?_, b5, b6, fun r k hr => ?_, b8⟩, fun t ht => ?_, fun b hb => ?_⟩
  · rw [o r k (fun q => ?_)]
    · exact b2 r k hr hk
    · rw [q.1, ha, q.2] at hk
      exact hk rfl
  · rw [o _ _ (fun q => n1 _ _ (hl a' h') (by decide) q.1)]
    exact b3 a' i h' hi
  · rw [o 1 3 (fun q => n1 1 (1, 8) rfl (by decide) q.1), o 1 4 (fun q => n1 1 (1, 8) rfl (by decide) q.1)]
    exact b4
  · rw [o _ _ (fun q => n1 _ _ (l17 r hr) (by decide) q.1)]
    exact b7 r k hr
  · have tt := hA.2.1 t ht
    have ec : zc_ch (zv_sR h a 10 s) t 48 = zc_ch h t 48 := by
      have : ∀ n, n ≤ 48 → zc_ch (zv_sR h a 10 s) t n = zc_ch h t n := by
        intro n
        induction n with
        | zero => intro _; rfl
        | succ n ih =>
          intro hn
          have l := (zc_stl (zc_hl t) (show n < 48 by omega)).1
          show zc_ch (zv_sR h a 10 s) t n + (if zv_R (zv_sR h a 10 s) (zc_stt (zc_hf t) n) 4 = t then 1 else 0) = zc_ch h t n + (if zv_R h (zc_stt (zc_hf t) n) 4 = t then 1 else 0)
          rw [ih (by omega), o5 _ l]
      exact this 48 (Nat.le_refl _)
    unfold zc_t
    rw [ec, o5 t ht, o5 t ht]
    cases tt with
    | inl u => exact Or.inl u
    | inr u =>
      refine Or.inr ⟨u.1, u.2.1, u.2.2.1, ?_, u.2.2.2.2⟩
      cases u.2.2.2.1 with
      | inl w => exact Or.inl w
      | inr w =>
        refine Or.inr ⟨w.1, ?_⟩
        cases u.2.2.1 with
        | inl y => exact absurd y.1 w.1
        | inr y => rw [o5 _ y.1]; exact w.2
  · by_cases e : b = a
    · have : zv_R (zv_sR h a 10 s) b 10 = s := if_pos ⟨e, rfl⟩
      rw [this, e]
      exact ⟨hV.1, hV.2, hf⟩
    · rw [o b 10 (fun q => e q.1)]
      exact hA.2.2 b hb
theorem zc_hereP {h : zv_H} {a s : Nat} (ha : zv_lay a = (1, 0)) : zc_P h (zv_sR h a 10 s) := by
  have := zc_lt ha (by decide)
  refine ⟨rfl, rfl, fun r hr => ⟨rfl, rfl, ?_⟩, rfl⟩
  exact zc_sRo _ _ _ _ (by omega)
theorem zc_C0_moveTo {d : Nat} {h : zv_H} (hA : zc_A h) {a s : Nat} (ha : zv_lay a = (1, 0)) (hV : zc_V h s) (hf : zc_hf s = a) : zm_R (C0_moveTo (d + 2) a s h) (fun q => zc_Y h q) := by
  refine zm_cV (fun e => lC0_moveTo (zc_ob hA ha) e) ?_
  rw [qE0_moveTo, zm_e (show zv_pR h a 0 10 s = some _ from if_pos (zc_ob hA ha))]
  have A1 := zc_hereA hA ha hV hf
  have P1 := zc_hereP (h := h) (s := s) ha
  have V1 : ∀ t, zc_V h t → zc_V (zv_sR h a 10 s) t := fun t q => q
  generalize zv_sR h a 10 s = g at A1 P1 V1
  have F := zc_Q_r A1
  refine zc_rF F 17 ha ?_
  refine zc_rI F ha fun v3 e3 r3 => ?_
  refine zc_cV F (zc_C6_add A1 (zc_y0_7 ha).1 hV.1 r3) fun g4 F4 => ?_
  exact zm_iV ⟨⟨zc_P_t P1 (zc_qP F4.1), F4.2⟩, fun t q => zc_Vq F4.1 (V1 t q)⟩
/-- an int is answered, and what holds holds -/
def zc_yI (h : zv_H) (q : Int × zv_H) : Prop := zc_Y h q.2 ∧ zv_rg q.1
theorem zc_cY {α : Type} {h : zv_H} {P : α → Prop} {o : Option zv_H} (e : zm_R o (fun q => zc_Y h q)) {g : zv_H → Option α} (n : ∀ h', zc_Y h h' → zm_R (g h') P) : zm_R (o.bind g) P := by
  obtain ⟨h', rfl, a⟩ := e
  exact n h' a
theorem zc_C0_stepBack {d : Nat} {h : zv_H} (hA : zc_A h) {a : Nat} (ha : zv_lay a = (1, 0)) : zm_R (C0_stepBack (d + 3) a h) (zc_yI h) := by
  refine zm_cI (P := fun v h' => zc_Y h h' ∧ zv_rg v) (fun e => lC0_stepBack (zc_ob hA ha) e) ?_
  rw [qE0_stepBack]
  refine zc_pN (K := fun v => zc_U h a v) (zc_behind1 hA ha) fun v u => ?_
  dsimp only
  refine zm_if (fun c => zm_iI ⟨zc_QY (zc_Q_r hA), by unfold zv_rg; omega⟩) (fun c => ?_)
  have u1 := u.resolve_left c
  refine zc_cY (zc_C0_moveTo hA ha u1.1 u1.2) fun g2 Y2 => ?_
  refine zc_rI (zc_Q_r Y2.1.2) u1.1.1 fun v3 e3 r3 => ?_
  exact zm_iI ⟨Y2, r3⟩
theorem zc_C0_goTo {d : Nat} {h : zv_H} (hA : zc_A h) {a : Nat} (ha : zv_lay a = (1, 0)) {i : Int} (hi : zv_rg i) : zm_R (C0_goTo (d + 4) a i h) (zc_yI h) := by
  have F := zc_Q_r hA
  have hV := zc_hV F ha
  refine zm_cI (P := fun v h' => zc_Y h h' ∧ zv_rg v) (fun e => lC0_goTo (zc_ob hA ha) e) ?_
  rw [qE0_goTo]
  refine zc_pN (K := fun v => zc_U h a v) (zc_at2 hA ha hi) fun v u => ?_
  dsimp only
  refine zm_if (fun c => zm_iI ⟨zc_QY F, by unfold zv_rg; omega⟩) (fun c => ?_)
  have u1 := u.resolve_left c
  refine zc_rRo F ha ?_
  have w1 := zv_lay_lt (zc_ly u1.1.1)
  have w2 := zv_lay_lt (zc_ly hV.1.1)
  rw [if_neg (by omega)]
  refine zm_if (fun c => zm_iI ⟨zc_QY F, by unfold zv_rg; omega⟩) (fun c => ?_)
  refine zc_rRo F ha ?_
  refine zc_pI (K := fun _ => True) (zc_C0_wayLength hA hV.1 u1.1) fun v4 r4 _ => ?_
  dsimp only
  refine zc_cY (zc_C0_moveTo hA ha u1.1 u1.2) fun g2 Y2 => ?_
  exact zm_iI ⟨Y2, r4⟩
theorem zc_C0_stepOn {d : Nat} {h : zv_H} (hA : zc_A h) {a : Nat} (ha : zv_lay a = (1, 0)) : zm_R (C0_stepOn (d + 4) a h) (zc_yI h) := by
  have F := zc_Q_r hA
  have hV := zc_hV F ha
  refine zm_cI (P := fun v h' => zc_Y h h' ∧ zv_rg v) (fun e => lC0_stepOn (zc_ob hA ha) e) ?_
  have fin : ∀ (h1 : zv_H) (s : Nat), zc_Q h h1 → zc_V h s → zc_hf s = a → zm_R (L0_stepOn_62 (d + 3) a s h1) (zm_I fun v h' => zc_Y h h' ∧ zv_rg v) := fun h1 s F1 v1 f1 => by
    rw [qL0_stepOn_62]
    refine zc_cY (zc_C0_moveTo F1.2 ha (zc_Vq F1.1 v1) f1) fun g2 Y2 => ?_
    refine zc_rI (zc_Q_r Y2.1.2) v1.1 fun v3 e3 r3 => ?_
    exact zm_iI ⟨zc_Y_t (zc_QY F1) Y2, r3⟩
  have loop : ∀ (n : Nat) (i : Int) (s b : Nat) (h1 : zv_H), zc_Q h h1 → 0 ≤ i → zc_V h s → zc_hf s = a → zc_U h a b → (48 - i).toNat = n → zm_R (L0_stepOn_26 (d + 3) a s b i h1) (zm_I fun v h' => zc_Y h h' ∧ zv_rg v) := by
    intro n
    induction n with
    | zero =>
      intro i s b h1 F1 h0 v1 f1 u hn
      rw [qL0_stepOn_26, if_neg (by omega)]
      exact fin h1 s F1 v1 f1
    | succ n ih =>
      intro i s b h1 F1 h0 v1 f1 u hn
      rw [qL0_stepOn_26, if_pos (by omega)]
      refine zm_if (fun c => fin h1 s F1 v1 f1) (fun c => ?_)
      have u1 := u.resolve_left c
      refine zc_rR5 F1 u1.1.1 ?_
      refine zc_rR5 F1 v1.1 ?_
      have w1 := zv_lay_lt (zc_ly (zc_fV F1 u1.1).1)
      have w2 := zv_lay_lt (zc_ly (zc_fV F1 v1).1)
      rw [if_neg (by omega)]
      refine zm_if (fun c => ?_) (fun c => fin h1 s F1 v1 f1)
      refine zc_cN (K := fun v => zc_U h1 a v) F1 (zc_childOf F1.2 ha u1.1.1 (by unfold zv_rg; omega)) fun v h' F2 u2 => ?_
      dsimp only
      rw [zm_w (by omega)]
      exact ih _ b v h' F2 (by omega) u1.1 u1.2 (zc_Ub F1.1 u2) (by omega)
  rw [qE0_stepOn]
  refine zc_rRo F ha ?_
  refine zc_cN (K := fun v => zc_U h a v) F (zc_childOf hA ha hV.1.1 (by unfold zv_rg; omega)) fun v h1 F1 u => ?_
  dsimp only
  refine zm_if (fun c => zm_iI ⟨zc_QY F1, by unfold zv_rg; omega⟩) (fun c => ?_)
  have u1 := u.resolve_left c
  refine zc_cN (K := fun v => zc_U h1 a v) F1 (zc_childOf F1.2 ha u1.1.1 (by unfold zv_rg; omega)) fun v2 h2 F2 u2 => ?_
  dsimp only
  exact loop _ 0 v v2 h2 F2 (by omega) u1.1 u1.2 (zc_Ub F1.1 u2) rfl
