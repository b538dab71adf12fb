/-! ===== the class: a call that changes reckoned cells alone ===== -/
/-- cells that are reckoned anew, or told -/
def zd_x (r k : Nat) : Prop := zt_x r k ∨ (r = 1 ∧ k = 5) ∨ r = 2
def zd_q (h h' : zv_H) : Prop := (∀ r k, ¬ zd_x r k → zv_I h' r k = zv_I h r k) ∧ ∀ r, zv_lay r ≠ (1, 4) → h'.2.2.1 r = h.2.2.1 r
theorem zd_q_r (h : zv_H) : zd_q h h := ⟨fun _ _ _ => rfl, fun _ _ => rfl⟩
theorem zd_q_t {h h1 h2 : zv_H} (f : zd_q h h1) (g : zd_q h1 h2) : zd_q h h2 := ⟨fun r k q => (g.1 r k q).trans (f.1 r k q), fun r q => (g.2 r q).trans (f.2 r q)⟩
def zd_Q (h h' : zv_H) : Prop := (zc_q h h' ∧ zd_q h h') ∧ zc_A h'
theorem zd_c {h h' : zv_H} (F : zd_Q h h') : zc_Q h h' := ⟨F.1.1, F.2⟩
theorem zd_of {h h' : zv_H} (F : zc_Q h h') (q : zd_q h h') : zd_Q h h' := ⟨⟨F.1, q⟩, F.2⟩
theorem zd_Q_r {h : zv_H} (hA : zc_A h) : zd_Q h h := zd_of (zc_Q_r hA) (zd_q_r h)
theorem zd_Q_t {h h1 h2 : zv_H} (F : zd_Q h h1) (G : zd_Q h1 h2) : zd_Q h h2 := zd_of (zc_Q_t (zd_c F) (zd_c G)) (zd_q_t F.1.2 G.1.2)
theorem zd_qI {h : zv_H} {r k : Nat} (hx : zd_x r k) (v : Int) : zd_q h (zv_sI h r k v) := ⟨fun a b q => zy_In _ _ (fun z => q (by rw [z.1, z.2]; exact hx)), fun _ _ => rfl⟩
/-- such fields -/
def zd_ck (c k : Nat) : Bool := (Nat.beq c 4 && (Nat.beq k 5 || (Nat.beq k 6 || Nat.beq k 7))) || ((Nat.beq c 5 && Nat.beq k 14) || (Nat.beq c 8 && (Nat.beq k 5 || Nat.beq k 6)))
theorem zd_xc {r c k : Nat} (hr : zv_lay r = (1, c)) (h : zd_ck c k = true) : zd_x r k := by
  unfold zd_ck at h
  rcases Bool.or_eq_true _ _ |>.mp h with q | q
  · have q := Bool.and_eq_true _ _ |>.mp q
    have ec := Nat.eq_of_beq_eq_true q.1
    subst ec
    refine Or.inl (Or.inr (Or.inl ⟨hr, ?_⟩))
    rcases Bool.or_eq_true _ _ |>.mp q.2 with w | w
    · exact Or.inl (Nat.eq_of_beq_eq_true w)
    · rcases Bool.or_eq_true _ _ |>.mp w with w | w
      · exact Or.inr (Or.inl (Nat.eq_of_beq_eq_true w))
      · exact Or.inr (Or.inr (Nat.eq_of_beq_eq_true w))
  · rcases Bool.or_eq_true _ _ |>.mp q with q | q
    · have q := Bool.and_eq_true _ _ |>.mp q
      have ec := Nat.eq_of_beq_eq_true q.1
      subst ec
      exact Or.inl (Or.inr (Or.inr (Or.inl ⟨hr, Nat.eq_of_beq_eq_true q.2⟩)))
    · have q := Bool.and_eq_true _ _ |>.mp q
      have ec := Nat.eq_of_beq_eq_true q.1
      subst ec
      have r1 := zc_l8 hr
      rcases Bool.or_eq_true _ _ |>.mp q.2 with w | w
      · exact Or.inr (Or.inl ⟨r1, Nat.eq_of_beq_eq_true w⟩)
      · exact Or.inl (Or.inl ⟨r1, Nat.eq_of_beq_eq_true w⟩)
/-- such arrays -/
theorem zd_l4 {r : Nat} (hr : zv_lay r = (1, 4)) : ∃ a, (a = 9 ∨ a = 178) ∧ r = a + 8 := by
  rcases zc_l4 hr with e | e
  · exact ⟨9, Or.inl rfl, e⟩
  · exact ⟨178, Or.inr rfl, e⟩
theorem zd_y4_1 {r : Nat} (hr : zv_lay r = (1, 4)) (k : Nat) : zd_x (r + 2) k := by
  obtain ⟨a, ha, e⟩ := zd_l4 hr
  exact Or.inl (Or.inr (Or.inr (Or.inr ⟨a, ha, by omega⟩)))
theorem zd_y4_2 {r : Nat} (hr : zv_lay r = (1, 4)) (k : Nat) : zd_x (r + 3) k := by
  obtain ⟨a, ha, e⟩ := zd_l4 hr
  exact Or.inl (Or.inr (Or.inr (Or.inr ⟨a, ha, by omega⟩)))
theorem zd_y4_3 {r : Nat} (hr : zv_lay r = (1, 4)) (k : Nat) : zd_x (r + 4) k := by
  obtain ⟨a, ha, e⟩ := zd_l4 hr
  exact Or.inl (Or.inr (Or.inr (Or.inr ⟨a, ha, by omega⟩)))
theorem zd_y4_4 {r : Nat} (hr : zv_lay r = (1, 4)) (k : Nat) : zd_x (r + 5) k := by
  obtain ⟨a, ha, e⟩ := zd_l4 hr
  exact Or.inl (Or.inr (Or.inr (Or.inr ⟨a, ha, by omega⟩)))
theorem zd_y0_4 {r : Nat} (hr : zv_lay r = (1, 0)) (k : Nat) : zd_x (r + 7) k := Or.inl (Or.inr (Or.inr (Or.inr ⟨r, zc_lh hr, by omega⟩)))
theorem zd_y8_0 {r : Nat} (hr : zv_lay r = (1, 8)) (k : Nat) : zd_x (r + 1) k := Or.inr (Or.inr (by rw [zc_l8 hr]))
section
variable {α : Type} {h0 h : zv_H} {P : α → Prop}
theorem zd_rI (F : zd_Q h0 h) {r c k : Nat} (hr : zv_lay r = (1, c)) {g : Int → Option α} (n : ∀ v, v = zv_I h r k → zv_rg v → zm_R (g v) P) (hc : c < 9 := by decide) : zm_R ((zv_gI h r c k).bind g) P := zc_rI (zd_c F) hr n hc
theorem zd_rT (F : zd_Q h0 h) {r k : Nat} (hr : zv_lay r = (1, 5)) {g : Int → Option α} (n : ∀ v, v = zv_I h0 r k → zv_rg v → zm_R (g v) P) (hk : k = 0 ∨ k = 3 ∨ k = 10 ∨ k = 11 := by decide) : zm_R ((zv_gI h r 5 k).bind g) P := zc_rT (zd_c F) hr n hk
theorem zd_rJ (F : zd_Q h0 h) {r c k : Nat} (hr : zv_lay r = (1, c)) {g : Int64 → Option α} (n : ∀ v, zm_R (g v) P) : zm_R ((zv_gJ h r c k).bind g) P := zc_rJ (zd_c F) hr n
theorem zd_rF (F : zd_Q h0 h) {r c k : Nat} (o : Nat) (hr : zv_lay r = (1, c)) {g : Nat → Option α} (n : zm_R (g (r + o)) P) (hv : zc_off c k = o := by rfl) (ho : o ≠ 0 := by decide) : zm_R ((zv_gR h r c k).bind g) P := zc_rF (zd_c F) o hr n hv ho
theorem zd_rR (F : zd_Q h0 h) {r c k : Nat} (hr : zv_lay r = (1, c)) {g : Nat → Option α} (n : ∀ v, v = zv_R h r k → zm_R (g v) P) : zm_R ((zv_gR h r c k).bind g) P := zc_rR (zd_c F) hr n
theorem zd_rR5 (F : zd_Q h0 h) {r k : Nat} (hr : zv_lay r = (1, 5)) {g : Nat → Option α} (n : zm_R (g (zv_R h0 r k)) P) : zm_R ((zv_gR h r 5 k).bind g) P := zc_rR5 (zd_c F) hr n
theorem zd_rRo (F : zd_Q h0 h) {r c k : Nat} (hr : zv_lay r = (1, c)) {g : Nat → Option α} (n : zm_R (g (zv_R h0 r k)) P) : zm_R ((zv_gR h r c k).bind g) P := zc_rRo (zd_c F) hr n
theorem zd_rA (F : zd_Q h0 h) {r n0 : Nat} {j : Int} (hr : zv_lay r = (2, n0)) (hl : r < 347) (j0 : 0 ≤ j) (j1 : j < n0) {g : Int → Option α} (n : ∀ v, zv_rg v → zm_R (g v) P) : zm_R ((zv_aI h r j).bind g) P := zc_rA (zd_c F) hr hl j0 j1 n
theorem zd_rB (F : zd_Q h0 h) {r n0 : Nat} {j : Int} (hr : zv_lay r = (3, n0)) (hl : r < 347) (j0 : 0 ≤ j) (j1 : j < n0) {g : Int → Option α} (n : ∀ v, zv_rg v → zm_R (g v) P) : zm_R ((zv_aB h r j).bind g) P := zc_rB (zd_c F) hr hl j0 j1 n
theorem zd_rS (F : zd_Q h0 h) {a : Nat} {j : Int} (ha : zv_lay a = (1, 0)) (j0 : 0 ≤ j) (j1 : j < 48) {g : Nat → Option α} (n : ∀ v, zv_lay v = (1, 5) → zc_hf v = a → v = zc_stt a j.toNat → zv_I h0 v 0 = j → zm_R (g v) P) : zm_R ((zv_aR h (a + 4) j).bind g) P := zc_rS (zd_c F) ha j0 j1 n
theorem zd_rQ (F : zd_Q h0 h) {r : Nat} {j : Int} (hr : zv_lay r = (1, 4)) (j0 : 0 ≤ j) (j1 : j < 48) {g : Nat → Option α} (n : zm_R (g (zv_R h (r + 1) j.toNat)) P) : zm_R ((zv_aR h (r + 1) j).bind g) P := zc_rQ (zd_c F) hr j0 j1 n
theorem zd_rAl (F : zd_Q h0 h) {r n0 : Nat} (hr : zv_lay r = (2, n0)) {g : Int → Option α} (n : ∀ v, v = (n0 : Int) → zm_R (g v) P) : zm_R ((zv_al h r).bind g) P := zc_rAl (zd_c F) hr n
theorem zd_xH (F : zd_Q h0 h) : zv_lay (zv_R h0 1 3) = (1, 0) ∧ zv_lay (zv_R h0 1 4) = (1, 0) := zc_xH (zd_c F)
theorem zd_dep (F : zd_Q h0 h) {s : Nat} (hV : zc_V h0 s) : (0 ≤ zv_I h0 s 10 ∧ zv_I h0 s 10 ≤ 47) ∧ (zv_R h s 4 = 0 ∨ (zc_V h0 (zv_R h s 4) ∧ zc_hf (zv_R h s 4) = zc_hf s ∧ zv_I h0 (zv_R h s 4) 10 + 1 = zv_I h0 s 10)) := zc_dep (zd_c F) hV
theorem zd_pV (F : zd_Q h0 h) {s : Nat} (hV : zc_V h0 s) : zv_R h0 s 4 = 0 ∨ zc_V h0 (zv_R h0 s 4) := zc_pV (zd_c F) hV
theorem zd_hV (F : zd_Q h0 h) {a : Nat} (ha : zv_lay a = (1, 0)) : zc_V h0 (zv_R h0 a 10) ∧ zc_hf (zv_R h0 a 10) = a := zc_hV (zd_c F) ha
theorem zd_dmP (F : zd_Q h0 h) {s : Nat} (hV : zc_V h0 s) : zc_dm h0 (zv_R h0 s 4) < zc_dm h0 s := zc_dmP (zd_c F) hV
theorem zd_bdv (F : zd_Q h0 h) {r c k : Nat} {m : Int} (hr : zv_lay r = (1, c)) (hm : zc_bd c k = some m) : 0 ≤ zv_I h r k ∧ zv_I h r k ≤ m := zc_bdv (zd_c F) hr hm
theorem zd_pa (F : zd_Q h0 h) {r : Nat} (hr : zv_lay r = (1, 4)) (k : Nat) : zv_R h (r + 1) k = 0 ∨ zv_lay (zv_R h (r + 1) k) = (1, 5) := zc_pa (zd_c F) hr k
theorem zd_fV (F : zd_Q h0 h) {s : Nat} (hV : zc_V h0 s) : zc_V h0 (zv_R h0 s 5) := zc_fV (zd_c F) hV
theorem zd_xH8 (F : zd_Q h0 h) {r : Nat} (hr : zv_lay r = (1, 8)) : zv_lay (zv_R h0 r 3) = (1, 0) ∧ zv_lay (zv_R h0 r 4) = (1, 0) := zc_xH8 (zd_c F) hr
theorem zd_wO (F : zd_Q h0 h) {r c k : Nat} {v : Int} (hr : zv_lay r = (1, c)) (hf : zc_fr r k) (hv : zv_rg v) {g : zv_H → Option α} (n : ∀ h', zd_Q h0 h' → zm_R (g h') P) (hx : zd_ck c k = true := by rfl) : zm_R ((zv_pI h r c k v).bind g) P := by
  have e : zv_pI h r c k v = some (zv_sI h r k v) := if_pos (zc_ob F.2 hr)
  rw [zm_e e]
  exact n _ (zd_Q_t F (zd_of (zc_QI F.2 hf hv) (zd_qI (zd_xc hr hx) v)))
theorem zd_wJ (F : zd_Q h0 h) {r c k : Nat} {v : Int64} (hr : zv_lay r = (1, c)) (hc : r < 347) {g : zv_H → Option α} (n : ∀ h', zd_Q h0 h' → zm_R (g h') P) (h4 : c = 4 := by rfl) : zm_R ((zv_pJ h r c k v).bind g) P := by
  have e : zv_pJ h r c k v = some (zv_sJ h r k v) := if_pos (zc_ob F.2 hr)
  rw [zm_e e]
  subst h4
  refine n _ (zd_Q_t F (zd_of (zc_QJ F.2 hc) ⟨fun _ _ _ => rfl, fun x hx => ?_⟩))
  funext y
  exact if_neg (fun q => hx (by rw [q.1]; exact hr))
theorem zd_wA (F : zd_Q h0 h) {r n0 : Nat} {j v : Int} (hr : zv_lay r = (2, n0)) (hc : r < 347) (hx : ∀ k, zd_x r k) (j0 : 0 ≤ j) (j1 : j < n0) (hv : zv_rg v) {g : zv_H → Option α} (n : ∀ h', zd_Q h0 h' → (∀ x k, (zv_lay x).1 = 1 → zv_I h' x k = zv_I h x k) → zm_R (g h') P) : zm_R ((zv_wI h r j v).bind g) P := by
  have e : zv_wI h r j v = some (zv_sI h r j.toNat v) := by
    unfold zv_wI
    rw [if_pos ⟨zc_n F.2.1 (zc_ly hr), by rw [hr], j0, by rw [hr]; exact j1⟩]
  rw [zm_e e]
  exact n _ (zd_Q_t F (zd_of (zc_QI F.2 (zc_frA (c := 0) hr hc) hv) (zd_qI (hx _) v))) (fun x k hx => zc_sI1 _ _ _ _ (fun e => by rw [e.1, hr] at hx; cases hx))
theorem zd_wB (F : zd_Q h0 h) {r n0 : Nat} {j v : Int} (hr : zv_lay r = (3, n0)) (hc : r < 347) (hx : ∀ k, zd_x r k) (j0 : 0 ≤ j) (j1 : j < n0) {g : zv_H → Option α} (n : ∀ h', zd_Q h0 h' → (∀ x k, (zv_lay x).1 = 1 → zv_I h' x k = zv_I h x k) → zm_R (g h') P) : zm_R ((zv_wB h r j v).bind g) P := by
  have e : zv_wB h r j v = some (zv_sI h r j.toNat (zv_nz v)) := by
    unfold zv_wB
    rw [if_pos ⟨zc_n F.2.1 (zc_ly hr), by rw [hr]; exact Or.inl rfl, j0, by rw [hr]; exact j1⟩, if_pos (by rw [hr])]
  rw [zm_e e]
  exact n _ (zd_Q_t F (zd_of (zc_QI F.2 (zc_frA (c := 1) hr hc) (by unfold zv_rg zv_nz; omega)) (zd_qI (hx _) _))) (fun x k hx => zc_sI1 _ _ _ _ (fun e => by rw [e.1, hr] at hx; cases hx))
theorem zd_wP (F : zd_Q h0 h) {r : Nat} {j : Int} {v : Nat} (hr : zv_lay r = (1, 4)) (j0 : 0 ≤ j) (j1 : j < 48) (hv : zv_lay v = (1, 5)) {g : zv_H → Option α} (n : ∀ h', zd_Q h0 h' → zm_R (g h') P) : zm_R ((zv_wR h (r + 1) j v).bind g) P := by
  have hl : zv_lay (r + 1) = (6, 48) := by cases zc_l4 hr with
    | inl e => rw [e]; rfl
    | inr e => rw [e]; rfl
  have e : zv_wR h (r + 1) j v = some (zv_sR h (r + 1) j.toNat v) := by
    unfold zv_wR
    rw [if_pos ⟨⟨zc_n F.2.1 (zc_ly hl), by rw [hl], j0, by rw [hl]; exact j1⟩, Or.inr ⟨zc_n F.2.1 (zc_ly hv), hv⟩⟩]
  rw [zm_e e]
  exact n _ (zd_Q_t F (zd_of (zc_QP F.2 hr hv) ⟨fun _ _ _ => rfl, fun _ _ => rfl⟩))
theorem zd_wL (F : zd_Q h0 h) {r c k : Nat} {v m : Int} (hr : zv_lay r = (1, c)) (hm : zc_bd c k = some m) (h0v : 0 ≤ v) (hv : v ≤ m) {g : zv_H → Option α} (n : ∀ h', zd_Q h0 h' → zm_R (g h') P) (hc : zc_bd c k = some m → m < 2147483648 ∧ c < 9 ∧ (c = 5 → k ≠ 0 ∧ k ≠ 3 ∧ k ≠ 10 ∧ k ≠ 11) ∧ (c = 3 → k ≠ 2)) (hx : zd_ck c k = true := by rfl) : zm_R ((zv_pI h r c k v).bind g) P := by
  have e : zv_pI h r c k v = some (zv_sI h r k v) := if_pos (zc_ob F.2 hr)
  have q : zm_R ((zv_pI h r c k v).bind fun h' => some h') (fun h' => zc_Q h h') := zc_wL (zc_Q_r F.2) hr hm h0v hv (fun h' Q => ⟨h', rfl, Q⟩) hc
  rw [zm_e e] at q ⊢
  obtain ⟨h', e', Q⟩ := q
  have e2 : zv_sI h r k v = h' := Option.some.inj e'
  rw [← e2] at Q
  exact n _ (zd_Q_t F (zd_of Q (zd_qI (zd_xc hr hx) v)))
theorem zd_cI {h0 h : zv_H} (F : zd_Q h0 h) {o : Option (Int × zv_H)} {K : Int → Prop} (e : zm_R o (fun q => zd_Q h q.2 ∧ zv_rg q.1 ∧ K q.1)) {g : Int × zv_H → Option α} (n : ∀ v h', zd_Q h0 h' → zv_rg v → K v → zm_R (g (v, h')) P) : zm_R (o.bind g) P := by
  obtain ⟨⟨v, h'⟩, rfl, a, b, c⟩ := e
  exact n v h' (zd_Q_t F a) b c
theorem zd_cJ {h0 h : zv_H} (F : zd_Q h0 h) {o : Option (Int64 × zv_H)} (e : zm_R o (fun q => zd_Q h q.2)) {g : Int64 × zv_H → Option α} (n : ∀ v h', zd_Q h0 h' → zm_R (g (v, h')) P) : zm_R (o.bind g) P := by
  obtain ⟨⟨v, h'⟩, rfl, a⟩ := e
  exact n v h' (zd_Q_t F a)
theorem zd_cN {h0 h : zv_H} (F : zd_Q h0 h) {o : Option (Nat × zv_H)} {K : Nat → Prop} (e : zm_R o (fun q => zd_Q h q.2 ∧ K q.1)) {g : Nat × zv_H → Option α} (n : ∀ v h', zd_Q h0 h' → K v → zm_R (g (v, h')) P) : zm_R (o.bind g) P := by
  obtain ⟨⟨v, h'⟩, rfl, a, b⟩ := e
  exact n v h' (zd_Q_t F a) b
theorem zd_cV {h0 h : zv_H} (F : zd_Q h0 h) {o : Option zv_H} (e : zm_R o (fun q => zd_Q h q)) {g : zv_H → Option α} (n : ∀ h', zd_Q h0 h' → zm_R (g h') P) : zm_R (o.bind g) P := by
  obtain ⟨h', rfl, a⟩ := e
  exact n h' (zd_Q_t F a)
end
