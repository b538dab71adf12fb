/-! ===== the tie: what changes the head alone ===== -/
theorem zt_o_cc {c c' : Nat → Int} (ec : ∀ k : Nat, 432 ≤ k → k < 4236 → ¬ (4080 ≤ k ∧ k < 4156) → c' k = c k) {s w : Int} (hs : s ≤ 47) (hw : w < 76) : zm_o c' s w = zm_o c s w := ec _ (by omega) (by omega) (by omega)
theorem zt_H_hd {a : Nat} {c c' : Nat → Int} {g g' : zv_H} (H : zt_H a c g) (hA' : zc_A g') (W' : zm_W c') (ec : ∀ k : Nat, 432 ≤ k → k < 4236 → ¬ (4080 ≤ k ∧ k < 4156) → c' k = c k) (e0 : c' 0 = c 0) (e2 : c' 2 = c 2) (e4 : c' 4 = c 4) (e5 : c' 5 = c 5) (e8 : ∀ k : Nat, 8 ≤ k → k < 408 → c' k = c k) (fI : ∀ r k, ¬ (r = a ∧ k = 11) → r ≠ a + 14 → r ≠ a + 15 → r ≠ a + 16 → zv_I g' r k = zv_I g r k) (fJ : ∀ r k, zv_J g' r k = zv_J g r k) (fR : ∀ r k, zv_R g' r k = zv_R g r k) (nw : zv_I g' a 11 = c' 1) (N' : zt_N a c' g') : zt_H a c' g' := by
  have U := zt_H_U H
  have W := zt_U_W U
  have la := zt_U_la U
  have V := zt_H_V H
  have oc : ∀ {s w : Int}, s ≤ 47 → w < 76 → zm_o c' s w = zm_o c s w := fun hs hw => zt_o_cc ec hs hw
  have st : ∀ {t : Int}, zm_st c' t ↔ zm_st c t := by
    intro t
    constructor
    · intro q
      exact ⟨q.1, by rw [← oc (s := t) (w := 0) (by have := q.1; omega) (by decide)]; exact q.2⟩
    · intro q
      exact ⟨q.1, by rw [oc (s := t) (w := 0) (by have := q.1; omega) (by decide)]; exact q.2⟩
  have ag : ∀ t, zm_st c t → zm_ag c c' t := fun t q w _ w1 _ => oc (by have := q.1; omega) w1
  have hn : ∀ n k, n ≤ 27 → ¬ (n = 0 ∧ k = 11) → n ≠ 14 → n ≠ 15 → n ≠ 16 → zv_I g' (a + n) k = zv_I g (a + n) k := fun n k _ h0 h14 h15 h16 => fI _ k (fun q => h0 ⟨by omega, q.2⟩) (by omega) (by omega) (by omega)
  refine ⟨?_, ?_, ⟨?_, by rw [e2]; exact zt_V_c0 V, by rw [e5, e2]; exact zt_V_c5 V, fun i hi => ?_, fun i hi => ?_, fun t ht => ?_, fun t u ht hu e => ?_⟩, N'⟩
  · refine zt_U_mk la W' hA' (fun i hi => ?_) (fun t ht => ?_) ?_ nw ?_
    · have b := fun n (n0 : n ≤ 27) (n1 : n ≠ 1) (n2 : n ≠ 2) (n3 : n ≠ 3) => zt_sepH (a := a) (i := i) (n := n) (x := 0) n0 (by decide) n1 n2 n3
      rw [fI (zc_stt a i) 3 (fun q => absurd q.2 (by decide)) (fun q => b 14 (by decide) (by decide) (by decide) (by decide) q.symm) (fun q => b 15 (by decide) (by decide) (by decide) (by decide) q.symm) (fun q => b 16 (by decide) (by decide) (by decide) (by decide) q.symm), zt_U_lv U i hi]
      exact (oc (by omega) (by decide)).symm
    · have ht' := st.mp ht
      obtain ⟨l, hl, ok, _⟩ := zt_line W ht'
      have S := zt_U_st U t ht'
      have cell : ∀ x k, x ≤ 2 → zv_I g' (zt_r a t + x) k = zv_I g (zt_r a t + x) k := fun x k hx => by
        have b := fun n (n0 : n ≤ 27) (n1 : n ≠ 1) (n2 : n ≠ 2) (n3 : n ≠ 3) => zt_hs (a := a) (n := n) ht'.1 n0 hx n1 n2 n3
        exact fI _ k (fun q => b 0 (by decide) (by decide) (by decide) (by decide) q.1.symm) (fun q => b 14 (by decide) (by decide) (by decide) (by decide) q.symm) (fun q => b 15 (by decide) (by decide) (by decide) (by decide) q.symm) (fun q => b 16 (by decide) (by decide) (by decide) (by decide) q.symm)
      refine zt_S0_cg W ht' (zt_S_0 S) hl (fun u hu => ag u (ok.2.2.1 u hu)) ?_ (fun k _ _ _ _ => cell 0 k (by decide)) (fun k => cell 1 k (by decide)) (fun k => cell 2 k (by decide)) (fun k => fJ _ k) (fun k => fR _ k) (fun _ k _ => hn 5 _ (by decide) (by omega) (by decide) (by decide) (by decide))
      rw [oc (by have := ht'.1; omega) (by decide)]
      exact (cell 0 13 (by decide)).trans (zt_S_vi S)
    · rw [e0, fR]; exact zt_U_he U
    · refine (hn 0 12 (by decide) (by omega) (by decide) (by decide) (by decide)).trans ((zt_U_ct U).trans ?_)
      exact zm_sum_cg 48 (fun j hj => (oc (by omega) (by decide)).symm)
  · exact zt_J_c (zt_J_cg (zt_H_J H) (fun r k r1 r2 => by
      obtain ⟨n, rfl⟩ : ∃ n, r = a + n := ⟨r - a, by omega⟩
      exact hn n k (by omega) (by omega) (by omega) (by omega) (by omega))) W.2.2.2.1.2 e4 e8
  · rw [hn 17 4 (by decide) (by omega) (by decide) (by decide) (by decide), e2]; exact zt_V_ct V
  · have i40 : i < 40 := by
      rw [e5] at hi
      have := zt_V_c5 V
      split at this <;> omega
    rw [e5] at hi
    rw [hn 18 _ (by decide) (by omega) (by decide) (by decide) (by decide), e2, ec _ (by omega) (by omega) (by omega)]; exact zt_V_ls V i hi
  · have i40 : i < 40 := by
      rw [e5] at hi
      have := zt_V_c5 V
      split at this <;> omega
    rw [e5] at hi
    rw [hn 19 _ (by decide) (by omega) (by decide) (by decide) (by decide), e2, ec _ (by omega) (by omega) (by omega)]; exact zt_V_lt V i hi
  · have t47 := ht.1
    rw [oc (by omega) (by decide), e2]
    exact zt_V_vb V t (st.mp ht)
  · have t47 := ht.1
    have u47 := hu.1
    rw [oc (by omega) (by decide), oc (by omega) (by decide)] at e
    exact zt_V_vd V t u (st.mp ht) (st.mp hu) e
/-- all that changed lies in half a -/
theorem zt_k_of {a : Nat} {g g' : zv_H} (f1 : g'.1 = g.1) (f2 : g'.2.2.2.2 = g.2.2.2.2) (fI : ∀ r k, ¬ zt_in a r → zv_I g' r k = zv_I g r k) (fJ : ∀ r k, ¬ zt_in a r → zv_J g' r k = zv_J g r k) (fR : ∀ r k, ¬ zt_in a r → zv_R g' r k = zv_R g r k) : zt_k a g g' := ⟨f1, f2, fun r k _ hr => fI r k hr, fun r _ hr => funext fun k => fJ r k hr, fun r _ _ hr => funext fun k => fR r k hr⟩
/-- time goes by -/
theorem zt_pass {d : Nat} {a : Nat} {c : Nat → Int} {g : zv_H} (hA : zc_A g) (H : zt_H a c g) {x : Int} (hx : 0 ≤ x ∧ x ≤ 999) (b : 0 ≤ c 1 ∧ c 1 < 2000000000) : C0_passTime (d + 2) a x g = some (c 1 + x, zv_sI g a 11 (c 1 + x)) ∧ zc_Q g (zv_sI g a 11 (c 1 + x)) ∧ zt_k a g (zv_sI g a 11 (c 1 + x)) ∧ zt_H a (zm_u c 1 (c 1 + x)) (zv_sI g a 11 (c 1 + x)) := by
  have U := zt_H_U H
  have W := zt_U_W U
  have la := zt_U_la U
  have gL := zt_L_A hA
  have h9 := zc_lh la
  have e : C0_passTime (d + 2) a x g = some (c 1 + x, zv_sI g a 11 (c 1 + x)) := by
    refine lC0_passTime (zl_ob gL la) ?_
    rw [qE0_passTime, zm_e (zc_within g x 0 999), if_pos hx]
    dsimp only
    rw [if_neg (by decide), zm_e (zl_gI gL la 11), zt_U_nw U, zm_w (by omega), zm_e (zl_pI gL la 11 _), zm_e (zl_gI (g := zv_sI g a 11 (c 1 + x)) gL la 11), zy_I]
  obtain ⟨q, e2, Q, _⟩ := zc_C0_passTime (d := d) hA la (a1 := x) (by unfold zv_rg; omega)
  rw [e] at e2
  cases e2
  refine ⟨e, Q, zt_k_of rfl rfl (fun r k hr => zy_In _ _ (fun q => hr (by rw [q.1]; exact zt_inA la (n := 0) (by decide)))) (fun _ _ _ => rfl) (fun _ _ _ => rfl), ?_⟩
  have ec : ∀ k : Nat, k ≠ 1 → zm_u c 1 (c 1 + x) k = c k := fun k hk => if_neg hk
  have W' : zm_W (zm_u c 1 (c 1 + x)) := by
    have wh := W.2.2
    refine zm_W_alt W (fun k k1 _ => ec k (by omega)) ?_ ?_ (ec 4 (by decide)) (fun k k1 _ => ec k (by omega)) ?_
    · rw [ec 0 (by decide)]; exact W.2.1
    · rw [ec 3 (by decide)]; exact wh.1
    · rw [ec 5 (by decide)]; exact wh.2.2.2
  refine zt_H_hd H Q.2 W' (fun k k1 _ _ => ec k (by omega)) (ec 0 (by decide)) (ec 2 (by decide)) (ec 4 (by decide)) (ec 5 (by decide)) (fun k k1 _ => ec k (by omega)) (fun r k q _ _ _ => zy_In _ _ q) (fun _ _ => rfl) (fun _ _ => rfl) (zy_I _ _ _ _) (zt_N_c (zt_H_N H) W.2.2.1.2 (ec 3 (by decide)) (fun k k1 _ => ec k (by omega)) (fun r k r1 r2 => zy_In _ _ (fun q => by omega)))
theorem zt_pass_no {d : Nat} {a : Nat} {g : zv_H} (gL : zt_L g) (la : zv_lay a = (1, 0)) {x : Int} (hx : ¬ (0 ≤ x ∧ x ≤ 999)) : C0_passTime (d + 2) a x g = some (-1, g) := by
  refine lC0_passTime (zl_ob gL la) ?_
  rw [qE0_passTime, zm_e (zc_within g x 0 999), if_neg hx]
  rfl
/-! words as numbers -/
def zt_ls (m : Nat) (wd : Nat → Int) : List Int := (List.range m).map wd
theorem zt_ls_len (m : Nat) (wd : Nat → Int) : (zt_ls m wd).length = m := by
  unfold zt_ls
  rw [List.length_map, List.length_range]
theorem zt_ls_get {m : Nat} (wd : Nat → Int) {k : Nat} (hk : k < m) : (zt_ls m wd)[k]? = some (wd k) := by
  unfold zt_ls
  rw [List.getElem?_map, List.getElem?_range hk]
  rfl
theorem zt_ls_mem {m : Nat} {wd : Nat → Int} {x : Int} (h : x ∈ zt_ls m wd) : ∃ k, k < m ∧ x = wd k := by
  unfold zt_ls at h
  obtain ⟨k, k1, k2⟩ := List.mem_map.mp h
  exact ⟨k, List.mem_range.mp k1, k2.symm⟩
theorem zt_key_lt : ∀ w : List Int, (∀ x ∈ w, 0 ≤ x ∧ x < 26) → 0 ≤ zt_key w ∧ zt_key w < ((32 ^ w.length : Nat) : Int)
  | [], _ => ⟨Int.le_refl _, by decide⟩
  | x :: w, h => by
    have ih := zt_key_lt w (fun y hy => h y (List.mem_cons_of_mem _ hy))
    have hx := h x List.mem_cons_self
    have e : zt_key (x :: w) = (x + 1) + 32 * zt_key w := rfl
    rw [e, List.length_cons, Nat.pow_succ]
    have p : ((32 ^ w.length * 32 : Nat) : Int) = ((32 ^ w.length : Nat) : Int) * 32 := by
      rw [Int.natCast_mul]
      rfl
    rw [p]
    omega
theorem zt_key_5 {w : List Int} (h : ∀ x ∈ w, 0 ≤ x ∧ x < 26) (hl : w.length ≤ 5) : 0 ≤ zt_key w ∧ zt_key w < 33554432 := by
  have k := zt_key_lt w h
  have p : 32 ^ w.length ≤ 32 ^ 5 := Nat.pow_le_pow_right (by decide) hl
  have e5 : (32 : Nat) ^ 5 = 33554432 := by decide
  omega
theorem zt_key_inj : ∀ w w' : List Int, (∀ x ∈ w, 0 ≤ x ∧ x < 26) → (∀ x ∈ w', 0 ≤ x ∧ x < 26) → zt_key w = zt_key w' → w = w'
  | [], [], _, _, _ => rfl
  | [], y :: w', _, h, e => by
    have k := (zt_key_lt w' (fun z hz => h z (List.mem_cons_of_mem _ hz))).1
    have hy := h y List.mem_cons_self
    have e2 : (0 : Int) = (y + 1) + 32 * zt_key w' := e
    omega
  | x :: w, [], h, _, e => by
    have k := (zt_key_lt w (fun z hz => h z (List.mem_cons_of_mem _ hz))).1
    have hx := h x List.mem_cons_self
    have e2 : (x + 1) + 32 * zt_key w = (0 : Int) := e
    omega
  | x :: w, y :: w', h, h', e => by
    have hx := h x List.mem_cons_self
    have hy := h' y List.mem_cons_self
    have e2 : (x + 1) + 32 * zt_key w = (y + 1) + 32 * zt_key w' := e
    have e3 : x = y := by omega
    rw [e3, zt_key_inj w w' (fun z hz => h z (List.mem_cons_of_mem _ hz)) (fun z hz => h' z (List.mem_cons_of_mem _ hz)) (by omega)]
theorem zt_pkd_inj {w w' : List Int} (h : ∀ x ∈ w, 0 ≤ x ∧ x < 26) (h' : ∀ x ∈ w', 0 ≤ x ∧ x < 26) (e : zt_pkd w = zt_pkd w') : w = w' := by
  have := zt_key_inj w.reverse w'.reverse (fun x hx => h x (List.mem_reverse.mp hx)) (fun x hx => h' x (List.mem_reverse.mp hx)) e
  exact List.reverse_inj.mp this
theorem zt_pkd_a (w : List Int) (x : Int) : zt_pkd (w ++ [x]) = (x + 1) + 32 * zt_pkd w := by
  unfold zt_pkd
  rw [List.reverse_append]
  rfl
/-- K << 5 | y -/
theorem zt_orshl {K y : Int} (hK : 0 ≤ K ∧ K < 33554432) (hy : 0 ≤ y ∧ y < 32) : zv_or (zv_shl K 5) y = 32 * K + y := by
  have e5 : (Int32.ofInt 5 &&& 31) = (5 : Int32) := by decide
  have t1 : ∀ x : Int, 0 ≤ x → x < 2147483648 → (BitVec.ofInt 32 x).toNat = x.toNat := fun x h0 h1 => by
    rw [BitVec.toNat_ofInt]
    omega
  have s1 : zv_shl K 5 = 32 * K := by
    unfold zv_shl
    rw [e5]
    have b : ((Int32.ofInt K <<< (5 : Int32)).toBitVec).toNat = 32 * K.toNat := by
      show ((BitVec.ofInt 32 K) <<< 5).toNat = _
      rw [BitVec.toNat_shiftLeft, t1 K hK.1 (by omega), Nat.shiftLeft_eq]
      omega
    have := zc_toInt _ b (by omega)
    rw [show (Int32.ofInt K <<< (5 : Int32)).toInt = ((Int32.ofInt K <<< (5 : Int32)).toBitVec).toInt from rfl, this]
    omega
  rw [s1]
  unfold zv_or
  have b : ((Int32.ofInt (32 * K) ||| Int32.ofInt y).toBitVec).toNat = 32 * K.toNat + y.toNat := by
    rw [Int32.toBitVec_or, BitVec.toNat_or, show (Int32.ofInt (32 * K)).toBitVec.toNat = (32 * K).toNat from t1 _ (by omega) (by omega), show (Int32.ofInt y).toBitVec.toNat = y.toNat from t1 _ (by omega) (by omega)]
    have e := Nat.shiftLeft_add_eq_or_of_lt (b := y.toNat) (i := 5) (by omega) K.toNat
    rw [Nat.shiftLeft_eq] at e
    rw [show (32 * K).toNat = K.toNat * 2 ^ 5 by omega, ← e]
    omega
  have := zc_toInt _ b (by omega)
  rw [show (Int32.ofInt (32 * K) ||| Int32.ofInt y).toInt = ((Int32.ofInt (32 * K) ||| Int32.ofInt y).toBitVec).toInt from rfl, this]
  omega
/-- a word's letters -/
def zt_lw (m : Nat) (wd : Nat → Int) : Prop := ∀ k, k < m → 0 ≤ wd k ∧ wd k < 26
theorem zt_lw_m {m : Nat} {wd : Nat → Int} (h : zt_lw m wd) : ∀ x ∈ zt_ls m wd, 0 ≤ x ∧ x < 26 := fun x hx => by
  obtain ⟨k, k1, k2⟩ := zt_ls_mem hx
  rw [k2]
  exact h k k1
theorem zt_ls_drop {m : Nat} (wd : Nat → Int) {i : Nat} (hi : i < m) : (zt_ls m wd).drop i = wd i :: (zt_ls m wd).drop (i + 1) := by
  have hl : i < (zt_ls m wd).length := by rw [zt_ls_len]; exact hi
  rw [List.drop_eq_getElem_cons hl]
  have := zt_ls_get wd hi
  rw [List.getElem?_eq_getElem hl] at this
  rw [Option.some.inj this]
theorem zt_key24 {d : Nat} {g : zv_H} {r m : Nat} {wd : Nat → Int} (gL : zt_L g) (w : zt_wd r m wd g) (hm : m ≤ 6) (hl : zt_lw m wd) : ∀ i : Nat, i ≤ m → L7_key_24 (d + 1) r (zt_key ((zt_ls m wd).drop i)) ((i : Int) - 1) g = some (some (zv_i (zt_key (zt_ls m wd))), g) := by
  intro i
  induction i with
  | zero =>
    intro _
    rw [qL7_key_24, if_pos (by omega)]
    rfl
  | succ i ih =>
    intro hi
    have hb := hl i (by omega)
    have k5 := zt_key_5 (w := (zt_ls m wd).drop (i + 1)) (fun x hx => zt_lw_m hl x (List.mem_of_mem_drop hx)) (by rw [List.length_drop, zt_ls_len]; omega)
    have e2 : zt_key ((zt_ls m wd).drop i) = (wd i + 1) + 32 * zt_key ((zt_ls m wd).drop (i + 1)) := by
      rw [zt_ls_drop wd (by omega)]
      rfl
    have ih' := ih (by omega)
    rw [e2] at ih'
    rw [qL7_key_24, if_neg (by omega), show ((i + 1 : Nat) : Int) - 1 = (i : Int) by omega, zm_e (zt_C7_at gL w (by omega))]
    dsimp only
    rw [zm_w (x := wd i + 1) (by omega), zt_orshl k5 (by omega), zm_w (by omega), show 32 * zt_key ((zt_ls m wd).drop (i + 1)) + (wd i + 1) = (wd i + 1) + 32 * zt_key ((zt_ls m wd).drop (i + 1)) by omega]
    exact ih'
theorem zt_C7_key {d : Nat} {g : zv_H} {r m : Nat} {wd : Nat → Int} (gL : zt_L g) (w : zt_wd r m wd g) (hl : zt_lw m wd) : C7_key (d + 2) r g = some ((if 1 ≤ m ∧ m ≤ 6 then zt_key (zt_ls m wd) else 0), g) := by
  have l7 := zt_wd_l7 w
  refine lC7_key (zl_ob gL l7) ?_
  have m40 := zt_wd_m12 w
  rw [qE7_key, zm_e (zl_gI gL l7 1), zt_wd_sz w, zm_e (zc_within g m 1 6)]
  by_cases c : 1 ≤ m ∧ m ≤ 6
  · rw [if_pos c, if_pos (show (1 : Int) ≤ (m : Int) ∧ (m : Int) ≤ 6 by omega)]
    dsimp only
    rw [if_neg (by decide), zm_e (zl_gI gL l7 1), zt_wd_sz w, zm_w (by omega)]
    have := zt_key24 (d := d) gL w c.2 hl m (Nat.le_refl _)
    rw [List.drop_eq_nil_of_le (by rw [zt_ls_len]; omega)] at this
    exact this
  · rw [if_neg c, if_neg (show ¬ ((1 : Int) ≤ (m : Int) ∧ (m : Int) ≤ 6) by omega)]
    rfl
theorem zt_packed_l {h : zv_H} (hM : zm_M h) (d : Nat) {r : Nat} {L : Nat} (hl : zv_lay r = (2, L)) (hr : Nat.ble r 372 = true) {m : Nat} (hm : m ≤ L) (h6 : m ≤ 6) {wd : Nat → Int} (hw : zt_lw m wd) (he : ∀ j, j < m → zv_I h r j = wd j) : ∀ (n i : Nat), i + n = m → L9_packed_4 d r m (zt_pkd ((zt_ls m wd).take i)) i h = some (some (zv_i (zt_pkd (zt_ls m wd))), h) := by
  intro n
  induction n with
  | zero =>
    intro i hi
    rw [qL9_packed_4, if_neg (by omega), List.take_of_length_le (by rw [zt_ls_len]; omega)]
  | succ n ih =>
    intro i hi
    have hb := hw i (by omega)
    have k5 := zt_key_5 (w := ((zt_ls m wd).take i).reverse) (fun x hx => zt_lw_m hw x (List.mem_of_mem_take (List.mem_reverse.mp hx))) (by rw [List.length_reverse, List.length_take, zt_ls_len]; omega)
    have k5' : 0 ≤ zt_pkd ((zt_ls m wd).take i) ∧ zt_pkd ((zt_ls m wd).take i) < 33554432 := k5
    have e2 : zt_pkd ((zt_ls m wd).take (i + 1)) = (wd i + 1) + 32 * zt_pkd ((zt_ls m wd).take i) := by
      rw [List.take_add_one, zt_ls_get wd (by omega)]
      exact zt_pkd_a _ _
    have ih' := ih (i + 1) (by omega)
    rw [e2] at ih'
    rw [qL9_packed_4, if_pos (by omega), zm_e (zm_aI hM hl hr (by omega) (by omega)), show ((i : Nat) : Int).toNat = i by omega, he i (by omega), zm_w (x := 32 * zt_pkd ((zt_ls m wd).take i)) (by omega), zm_w (x := 32 * zt_pkd ((zt_ls m wd).take i) + wd i) (by omega), zm_w (x := 32 * zt_pkd ((zt_ls m wd).take i) + wd i + 1) (by omega), zm_w (x := (i : Int) + 1) (by omega), show (i : Int) + 1 = ((i + 1 : Nat) : Int) by omega, show 32 * zt_pkd ((zt_ls m wd).take i) + wd i + 1 = (wd i + 1) + 32 * zt_pkd ((zt_ls m wd).take i) by omega]
    exact ih'
theorem zt_packed {h : zv_H} (hM : zm_M h) (d : Nat) {r : Nat} {L : Nat} (hl : zv_lay r = (2, L)) (hr : Nat.ble r 372 = true) {m : Nat} (hm : m ≤ L) (h6 : m ≤ 6) {wd : Nat → Int} (hw : zt_lw m wd) (he : ∀ j, j < m → zv_I h r j = wd j) : C9_packed (d + 1) r m h = some (zt_pkd (zt_ls m wd), h) := by
  refine lC9_packed ?_
  rw [qE9_packed]
  exact zt_packed_l hM d hl hr hm h6 hw he m 0 (Nat.zero_add _)
