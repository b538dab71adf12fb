/-! ===== the tie: cutting ===== -/
theorem zt_L_of {g g0 : zv_H} (f1 : g.1 = g0.1) (fR : ∀ r k, zv_R g r k = zv_R g0 r k) (gL : zt_L g0) : zt_L g := by
  refine ⟨?_, fun r k x y => ?_, fun a i x y => ?_⟩
  · show g.1.1 = 372
    rw [f1]; exact gL.1
  · rw [fR]; exact gL.2.1 r k x y
  · rw [fR]; exact gL.2.2 a i x y
/-- a new State, whatever became of its own letters -/
theorem zt_nn_gen {a : Nat} {c : Nat → Int} {h g0 g : zv_H} {i : Nat} {s x y z : Int} (U : zt_U a c h) (fr : zt_free c s) (hi : i = s.toNat) (W : zt_gw a h g0 i x y z) (fI : ∀ r k, r ≠ zc_stt a i → r ≠ zc_stt a i + 1 → r ≠ zc_stt a i + 2 → r ≠ a + 5 → r ≠ a + 25 → zv_I g r k = zv_I g0 r k) (fS : ∀ k, k ≠ 12 → k ≠ 15 → zv_I g (zc_stt a i) k = zv_I g0 (zc_stt a i) k) (fJ : ∀ r k, r ≠ zc_stt a i → zv_J g r k = zv_J g0 r k) (fR : ∀ r k, zv_R g r k = zv_R g0 r k) (f1 : g.1 = g0.1) (f2 : g.2.2.2.2 = g0.2.2.2.2) : zt_nn a c h s x y z s g := by
  have la := zt_U_la U
  have h9 := zc_lh la
  have w := zt_U_W U
  have i48 : i < 48 := by have := fr.1; omega
  have ers : zt_r a s = zc_stt a i := by rw [zt_r_p fr.1.1, hi]
  have Lg : zt_L g := zt_L_of f1 fR (zt_gw_L W)
  have c047 := w.2.1.1
  have eP : zv_R h a 10 = zc_stt a (c 0).toNat := by rw [zt_U_he U, zt_r_p w.2.1.1.1]
  -- an old State
  have ol : ∀ t, zm_st c t → ∃ j, j < 48 ∧ zt_r a t = zc_stt a j ∧ j ≠ i := fun t ht => ⟨t.toNat, by have := ht.1; omega, zt_r_p ht.1.1, fun q => by
    have h1 := ht.1
    have h2 := fr.1
    have e : t = s := by omega
    exact fr.2.2 (by rw [← e]; exact ht.2)⟩
  -- a cell of an old State, of the History
  have hH : ∀ n k, n ≤ 27 → n ≠ 1 → n ≠ 2 → n ≠ 3 → n ≠ 5 → n ≠ 25 → n ≠ 18 → n ≠ 19 → ¬ (n = 0 ∧ k = 12) → ¬ (n = 17 ∧ k = 4) → zv_I g (a + n) k = zv_I h (a + n) k := fun n k n0 n1 n2 n3 n5 n25 n18 n19 c1 c2 => by
    have s0 := zt_sepH (a := a) (i := i) (x := 0) n0 (by decide) n1 n2 n3
    have s1 := zt_sepH (a := a) (i := i) (x := 1) n0 (by decide) n1 n2 n3
    have s2 := zt_sepH (a := a) (i := i) (x := 2) n0 (by decide) n1 n2 n3
    have s3 := zt_sepH (a := a) (i := (c 0).toNat) (x := 0) n0 (by decide) n1 n2 n3
    rw [fI _ k s0 s1 s2 (by omega) (by omega)]
    exact zt_gw_oI W _ k s0 (fun q => s3 (q.1.trans eP)) (fun q => c1 ⟨by omega, q.2⟩) (fun q => c2 ⟨by omega, q.2⟩) (by omega) (by omega)
  have hO : ∀ j x k, j < 48 → j ≠ i → x ≤ 2 → ¬ (x = 0 ∧ k = 11) → zv_I g (zc_stt a j + x) k = zv_I h (zc_stt a j + x) k := fun j x k hj hji hx hk => by
    have s0 := zt_sep (a := a) (x := x) (y := 0) hji hx (by decide)
    have s1 := zt_sep (a := a) (x := x) (y := 1) hji hx (by decide)
    have s2 := zt_sep (a := a) (x := x) (y := 2) hji hx (by decide)
    have b : ∀ n, n ≤ 27 → n ≠ 1 → n ≠ 2 → n ≠ 3 → zc_stt a j + x ≠ a + n := fun n n0 n1 n2 n3 q => zt_sepH n0 hx n1 n2 n3 q.symm
    rw [fI _ k s0 s1 s2 (b 5 (by decide) (by decide) (by decide) (by decide)) (b 25 (by decide) (by decide) (by decide) (by decide))]
    refine zt_gw_oI W _ k s0 (fun q => ?_) (fun q => b 0 (by decide) (by decide) (by decide) (by decide) q.1) (fun q => b 17 (by decide) (by decide) (by decide) (by decide) q.1) (b 18 (by decide) (by decide) (by decide) (by decide)) (b 19 (by decide) (by decide) (by decide) (by decide))
    rw [eP] at q
    by_cases e : j = (c 0).toNat
    · rw [e] at q
      exact hk ⟨by omega, q.2⟩
    · exact zt_sep (a := a) (x := x) (y := 0) e hx (by decide) q.1
  have inA : ∀ n, n ≤ 27 → zt_in a (a + n) := fun n hn => ⟨by omega, by omega, by unfold zc_hf; split <;> omega⟩
  have inS : ∀ j n, j < 48 → n ≤ 2 → zt_in a (zc_stt a j + n) := fun j n hj hn => by
    refine ⟨?_, ?_, ?_⟩
    · unfold zc_stt; split <;> omega
    · unfold zc_stt; split <;> omega
    · unfold zc_hf zc_stt
      split <;> split <;> omega
  have out : ∀ {r r' : Nat}, ¬ zt_in a r → zt_in a r' → r ≠ r' := fun h1 h2 e => h1 (by rw [e]; exact h2)
  have inP : zt_in a (zv_R h a 10) := by
    rw [eP]
    exact inS _ 0 (by omega) (by decide)
  refine ⟨Lg, ⟨?_, ?_, fun r k _ hr => ?_, fun r _ hr => ?_, fun r _ _ hr => ?_⟩, fun j hj => ?_, fun t ht k hk => ?_, fun t ht k => ?_, fun t ht k => ?_, fun t ht k => ?_, fun t ht k => ?_, ?_, ?_, ?_, ?_, ?_, ?_, ?_, ?_, ?_, ?_, ?_, fun k => ?_, fun k => ?_, fun r k r1 r2 => ?_, fun r k r1 r2 => ?_, fun n k hn => hH n k (by omega) (by omega) (by omega) (by omega) (by omega) (by omega) (by omega) (by omega) (by omega) (by omega)⟩
  · exact f1.trans (zt_gw_f1 W)
  · exact f2.trans (zt_gw_f2 W)
  · rw [fI r k (out hr (inS i 0 i48 (by decide))) (out hr (inS i 1 i48 (by decide))) (out hr (inS i 2 i48 (by decide))) (out hr (inA 5 (by decide))) (out hr (inA 25 (by decide)))]
    exact zt_gw_oI W r k (out hr (inS i 0 i48 (by decide))) (fun q => out hr inP q.1) (fun q => out hr (inA 0 (by decide)) q.1) (fun q => out hr (inA 17 (by decide)) q.1) (out hr (inA 18 (by decide))) (out hr (inA 19 (by decide)))
  · funext k
    exact (fJ r k (out hr (inS i 0 i48 (by decide)))).trans (zt_gw_oJ W r k (out hr (inS i 0 i48 (by decide))))
  · funext k
    exact (fR r k).trans (zt_gw_oR W r k (out hr (inS i 0 i48 (by decide))) (fun q => out hr (inA 0 (by decide)) q.1))
  · rw [← hi]
    by_cases e : j = i
    · rw [if_pos e, e, fS 3 (by decide) (by decide)]
      exact zt_gw_s3 W
    · rw [if_neg e]
      exact hO j 0 3 hj e (by decide) (by omega)
  · obtain ⟨j, j1, j2, j3⟩ := ol t ht
    rw [j2]
    exact hO j 0 k j1 j3 (by decide) (by omega)
  · obtain ⟨j, j1, j2, j3⟩ := ol t ht
    rw [j2]
    exact hO j 1 k j1 j3 (by decide) (by omega)
  · obtain ⟨j, j1, j2, j3⟩ := ol t ht
    rw [j2]
    exact hO j 2 k j1 j3 (by decide) (by omega)
  · obtain ⟨j, j1, j2, j3⟩ := ol t ht
    have s0 := zt_sep (a := a) (x := 0) (y := 0) j3 (by decide) (by decide)
    rw [j2]
    exact (fJ _ k s0).trans (zt_gw_oJ W _ k s0)
  · obtain ⟨j, j1, j2, j3⟩ := ol t ht
    have s0 := zt_sep (a := a) (x := 0) (y := 0) j3 (by decide) (by decide)
    have b0 := zt_sepH (a := a) (i := j) (n := 0) (x := 0) (by decide) (by decide) (by decide) (by decide) (by decide)
    rw [j2]
    exact (fR _ k).trans (zt_gw_oR W _ k s0 (fun q => b0 q.1.symm))
  · rw [ers, fS 6 (by decide) (by decide)]; exact zt_gw_s6 W
  · rw [ers, fS 7 (by decide) (by decide)]; exact (zt_gw_s7 W).trans (zt_U_nw U)
  · rw [ers, fS 8 (by decide) (by decide)]; exact zt_gw_s8 W
  · rw [ers, fS 9 (by decide) (by decide)]; exact zt_gw_s9 W
  · rw [ers, fS 13 (by decide) (by decide)]; exact zt_gw_sd W
  · rw [ers, fR]; exact (zt_gw_r4 W).trans (zt_U_he U)
  · rw [ers, fR]; exact zt_gw_r5 W
  · rw [ers, fR]; exact zt_gw_he W
  · exact (hH 0 11 (by decide) (by decide) (by decide) (by decide) (by decide) (by decide) (by decide) (by decide) (by decide) (by decide)).trans (zt_U_nw U)
  · have s0 := zt_sepH (a := a) (i := i) (n := 0) (x := 0) (by decide) (by decide) (by decide) (by decide) (by decide)
    have s1 := zt_sepH (a := a) (i := i) (n := 0) (x := 1) (by decide) (by decide) (by decide) (by decide) (by decide)
    have s2 := zt_sepH (a := a) (i := i) (n := 0) (x := 2) (by decide) (by decide) (by decide) (by decide) (by decide)
    rw [fI a 12 s0 s1 s2 (by omega) (by omega)]
    exact (zt_gw_ct W).trans (by rw [zt_U_ct U])
  · have s0 := zt_sepH (a := a) (i := i) (n := 17) (x := 0) (by decide) (by decide) (by decide) (by decide) (by decide)
    have s1 := zt_sepH (a := a) (i := i) (n := 17) (x := 1) (by decide) (by decide) (by decide) (by decide) (by decide)
    have s2 := zt_sepH (a := a) (i := i) (n := 17) (x := 2) (by decide) (by decide) (by decide) (by decide) (by decide)
    rw [fI _ 4 s0 s1 s2 (by omega) (by omega)]
    exact zt_gw_v4 W
  · have s0 := zt_sepH (a := a) (i := i) (n := 18) (x := 0) (by decide) (by decide) (by decide) (by decide) (by decide)
    have s1 := zt_sepH (a := a) (i := i) (n := 18) (x := 1) (by decide) (by decide) (by decide) (by decide) (by decide)
    have s2 := zt_sepH (a := a) (i := i) (n := 18) (x := 2) (by decide) (by decide) (by decide) (by decide) (by decide)
    rw [fI _ k s0 s1 s2 (by omega) (by omega), zt_gw_vs W, hi, show ((s.toNat : Nat) : Int) = s by have := fr.1; omega]
  · have s0 := zt_sepH (a := a) (i := i) (n := 19) (x := 0) (by decide) (by decide) (by decide) (by decide) (by decide)
    have s1 := zt_sepH (a := a) (i := i) (n := 19) (x := 1) (by decide) (by decide) (by decide) (by decide) (by decide)
    have s2 := zt_sepH (a := a) (i := i) (n := 19) (x := 2) (by decide) (by decide) (by decide) (by decide) (by decide)
    rw [fI _ k s0 s1 s2 (by omega) (by omega), zt_gw_vt W, zt_U_nw U]
  · obtain ⟨n, rfl⟩ : ∃ n, r = a + n := ⟨r - a, by omega⟩
    exact hH n k (by omega) (by omega) (by omega) (by omega) (by omega) (by omega) (by omega) (by omega) (by omega) (by omega)
  · obtain ⟨n, rfl⟩ : ∃ n, r = a + n := ⟨r - a, by omega⟩
    exact hH n k (by omega) (by omega) (by omega) (by omega) (by omega) (by omega) (by omega) (by omega) (by omega) (by omega)
/-! what a cut leaves of a document, and what it takes -/
def zt_cl (pl m : Nat) (E : List (Int × Int)) : List (Int × Int) := E.take pl ++ E.drop (pl + m)
def zt_ct (pl m : Nat) (E : List (Int × Int)) : List (Int × Int) := (E.drop pl).take m
theorem zt_cl_a {pl m : Nat} {L : List (Int × Int)} {x : Int × Int} (h : L.length < pl) : zt_cl pl m (L ++ [x]) = zt_cl pl m L ++ [x] ∧ zt_ct pl m (L ++ [x]) = zt_ct pl m L := by
  unfold zt_cl zt_ct
  have l1 : (L ++ [x]).length = L.length + 1 := by rw [List.length_append]; rfl
  rw [List.take_of_length_le (by omega), List.take_of_length_le (show L.length ≤ pl by omega), List.drop_eq_nil_of_le (by omega), List.drop_eq_nil_of_le (show L.length ≤ pl + m by omega), List.drop_eq_nil_of_le (show (L ++ [x]).length ≤ pl by omega), List.drop_eq_nil_of_le (show L.length ≤ pl by omega), List.append_nil, List.append_nil]
  exact ⟨rfl, rfl⟩
theorem zt_cl_b {pl m : Nat} {L : List (Int × Int)} {x : Int × Int} (h : pl ≤ L.length) (h2 : L.length < pl + m) : zt_cl pl m (L ++ [x]) = zt_cl pl m L ∧ zt_ct pl m (L ++ [x]) = zt_ct pl m L ++ [x] ∧ (zt_ct pl m L).length = L.length - pl := by
  unfold zt_cl zt_ct
  have l1 : (L ++ [x]).length = L.length + 1 := by rw [List.length_append]; rfl
  have l2 : (L.drop pl).length = L.length - pl := List.length_drop
  refine ⟨?_, ?_, ?_⟩
  · rw [List.take_append_of_le_length h, List.drop_eq_nil_of_le (show (L ++ [x]).length ≤ pl + m by omega), List.drop_eq_nil_of_le (show L.length ≤ pl + m by omega)]
  · rw [List.drop_append_of_le_length h, List.take_of_length_le (show (L.drop pl ++ [x]).length ≤ m by rw [List.length_append, l2]; show L.length - pl + 1 ≤ m; omega), List.take_of_length_le (show (L.drop pl).length ≤ m by omega)]
  · rw [List.take_of_length_le (show (L.drop pl).length ≤ m by omega), l2]
theorem zt_cl_c {pl m : Nat} {L : List (Int × Int)} {x : Int × Int} (h : pl + m ≤ L.length) : zt_cl pl m (L ++ [x]) = zt_cl pl m L ++ [x] ∧ zt_ct pl m (L ++ [x]) = zt_ct pl m L := by
  unfold zt_cl zt_ct
  have l2 : (L.drop pl).length = L.length - pl := List.length_drop
  rw [List.take_append_of_le_length (show pl ≤ L.length by omega), List.drop_append_of_le_length h, List.drop_append_of_le_length (show pl ≤ L.length by omega), List.take_append_of_le_length (show m ≤ (L.drop pl).length by omega), List.append_assoc]
  exact ⟨rfl, rfl⟩
theorem zt_cl_n (pl m : Nat) (L : List (Int × Int)) : (zt_cl pl m L).length ≤ L.length := by
  unfold zt_cl
  rw [List.length_append, List.length_take, List.length_drop]
  omega
theorem zt_b_bo {p : Int} (hp : 0 ≤ p ∧ p ≤ 47) {t : Nat} (ht : t < 64) : zt_b (zt_bo p) t = true ↔ 1 ≤ t ∧ t < 48 ∧ p = t := by
  unfold zt_bo
  by_cases q : p = 0
  · rw [if_pos q, zt_b_0]
    exact ⟨fun z => (by cases z), fun z => by omega⟩
  · rw [if_neg q, zt_b_bt (by omega) ht]
    constructor
    · intro z
      have := of_decide_eq_true z
      omega
    · intro z
      exact decide_eq_true (by omega)
/-- while letters are cut: those of F seen so far -/
def zt_cd (g0 : zv_H) (S : Nat) (pl : Nat) (m : Nat) (F : List (Int × Int)) (g : zv_H) : Prop := (g.1 = g0.1) ∧ (g.2.2.2 = g0.2.2.2) ∧ (∀ r k, ¬ (r = S ∧ k = 12) → r ≠ S + 1 → r ≠ S + 2 → zv_I g r k = zv_I g0 r k) ∧ (∀ r k, ¬ (r = S ∧ k = 17) → zv_J g r k = zv_J g0 r k) ∧ (zv_I g S 12 = (zt_cl pl m F).length) ∧ (∀ (k : Nat) (x : Int × Int), (zt_cl pl m F)[k]? = some x → zv_I g (S + 2) k = zt_id x) ∧ (∀ (k : Nat) (x : Int × Int), (zt_ct pl m F)[k]? = some x → zv_I g (S + 1) k = zt_id x) ∧ (∀ t : Nat, t < 64 → (zt_b (zv_J g S 17) t = true ↔ 1 ≤ t ∧ t < 48 ∧ ∃ p ∈ zt_ct pl m F, p.1 = t))
theorem zt_cd_f1 {g0 : zv_H} {S : Nat} {pl : Nat} {m : Nat} {F : List (Int × Int)} {g : zv_H} (t : zt_cd g0 S pl m F g) : g.1 = g0.1 := t.1
theorem zt_cd_f2 {g0 : zv_H} {S : Nat} {pl : Nat} {m : Nat} {F : List (Int × Int)} {g : zv_H} (t : zt_cd g0 S pl m F g) : g.2.2.2 = g0.2.2.2 := t.2.1
theorem zt_cd_i {g0 : zv_H} {S : Nat} {pl : Nat} {m : Nat} {F : List (Int × Int)} {g : zv_H} (t : zt_cd g0 S pl m F g) : ∀ r k, ¬ (r = S ∧ k = 12) → r ≠ S + 1 → r ≠ S + 2 → zv_I g r k = zv_I g0 r k := t.2.2.1
theorem zt_cd_j {g0 : zv_H} {S : Nat} {pl : Nat} {m : Nat} {F : List (Int × Int)} {g : zv_H} (t : zt_cd g0 S pl m F g) : ∀ r k, ¬ (r = S ∧ k = 17) → zv_J g r k = zv_J g0 r k := t.2.2.2.1
theorem zt_cd_n {g0 : zv_H} {S : Nat} {pl : Nat} {m : Nat} {F : List (Int × Int)} {g : zv_H} (t : zt_cd g0 S pl m F g) : zv_I g S 12 = (zt_cl pl m F).length := t.2.2.2.2.1
theorem zt_cd_d {g0 : zv_H} {S : Nat} {pl : Nat} {m : Nat} {F : List (Int × Int)} {g : zv_H} (t : zt_cd g0 S pl m F g) : ∀ (k : Nat) (x : Int × Int), (zt_cl pl m F)[k]? = some x → zv_I g (S + 2) k = zt_id x := t.2.2.2.2.2.1
theorem zt_cd_t {g0 : zv_H} {S : Nat} {pl : Nat} {m : Nat} {F : List (Int × Int)} {g : zv_H} (t : zt_cd g0 S pl m F g) : ∀ (k : Nat) (x : Int × Int), (zt_ct pl m F)[k]? = some x → zv_I g (S + 1) k = zt_id x := t.2.2.2.2.2.2.1
theorem zt_cd_b {g0 : zv_H} {S : Nat} {pl : Nat} {m : Nat} {F : List (Int × Int)} {g : zv_H} (t : zt_cd g0 S pl m F g) : ∀ t : Nat, t < 64 → (zt_b (zv_J g S 17) t = true ↔ 1 ≤ t ∧ t < 48 ∧ ∃ p ∈ zt_ct pl m F, p.1 = t) := t.2.2.2.2.2.2.2
theorem zt_cd_L {g0 g : zv_H} {S pl m : Nat} {F : List (Int × Int)} (A : zt_cd g0 S pl m F g) (gL : zt_L g0) : zt_L g := by
  have f2 := zt_cd_f2 A
  exact zt_L_of (zt_cd_f1 A) (fun r k => by
    show g.2.2.2.1 r k = _
    rw [f2]; rfl) gL
/-- a letter stays -/
theorem zt_cd_s {g0 g : zv_H} {S pl m : Nat} {F : List (Int × Int)} (A : zt_cd g0 S pl m F g) {x : Int × Int} (e : zt_cl pl m (F ++ [x]) = zt_cl pl m F ++ [x] ∧ zt_ct pl m (F ++ [x]) = zt_ct pl m F) : zt_cd g0 S pl m (F ++ [x]) (zv_sI (zv_sI g (S + 2) (zt_cl pl m F).length (zt_id x)) S 12 (((zt_cl pl m F).length : Int) + 1)) := by
  have f1 := zt_cd_f1 A
  have f2 := zt_cd_f2 A
  refine ⟨f1, f2, fun r k c1 c2 c3 => ?_, fun r k c => zt_cd_j A r k c, ?_, fun k y hy => ?_, fun k y hy => ?_, fun t ht => ?_⟩
  · rw [zy_In _ _ (fun q => c1 q), zy_In _ _ (fun q => c3 q.1)]
    exact zt_cd_i A r k c1 c2 c3
  · rw [zy_I, e.1, List.length_append]
    rfl
  · rw [e.1] at hy
    rw [zy_In _ _ (fun q => absurd q.1 (by omega))]
    by_cases z : k = (zt_cl pl m F).length
    · subst z
      rw [List.getElem?_concat_length] at hy
      cases hy
      exact zy_I _ _ _ _
    · have hk : k < (zt_cl pl m F).length := by
        have := zm_lt_of_get hy
        rw [List.length_append] at this
        have : k < (zt_cl pl m F).length + 1 := this
        omega
      rw [zy_In _ _ (fun q => z q.2)]
      rw [List.getElem?_append_left hk] at hy
      exact zt_cd_d A k y hy
  · rw [e.2] at hy
    rw [zy_In _ _ (fun q => absurd q.1 (by omega)), zy_In _ _ (fun q => absurd q.1 (by omega))]
    exact zt_cd_t A k y hy
  · rw [e.2]
    exact zt_cd_b A t ht
/-- a letter goes -/
theorem zt_cd_g {g0 g : zv_H} {S pl m : Nat} {F : List (Int × Int)} (A : zt_cd g0 S pl m F g) {x : Int × Int} (hx : 0 ≤ x.1 ∧ x.1 ≤ 47) (h : pl ≤ F.length) (h2 : F.length < pl + m) : zt_cd g0 S pl m (F ++ [x]) (zv_sJ (zv_sI g (S + 1) (F.length - pl) (zt_id x)) S 17 (zv_J g S 17 ||| zt_bo x.1)) := by
  have f1 := zt_cd_f1 A
  have f2 := zt_cd_f2 A
  obtain ⟨e1, e2, e3⟩ := zt_cl_b (x := x) h h2
  have I : ∀ r k, zv_I (zv_sJ (zv_sI g (S + 1) (F.length - pl) (zt_id x)) S 17 (zv_J g S 17 ||| zt_bo x.1)) r k = zv_I (zv_sI g (S + 1) (F.length - pl) (zt_id x)) r k := fun _ _ => rfl
  refine ⟨f1, f2, fun r k c1 c2 c3 => ?_, fun r k c => ?_, ?_, fun k y hy => ?_, fun k y hy => ?_, fun t ht => ?_⟩
  · rw [I, zy_In _ _ (fun q => c2 q.1)]
    exact zt_cd_i A r k c1 c2 c3
  · rw [zy_Jn _ _ c]
    exact zt_cd_j A r k c
  · rw [I, zy_In _ _ (fun q => absurd q.1 (by omega)), e1]
    exact zt_cd_n A
  · rw [e1] at hy
    rw [I, zy_In _ _ (fun q => absurd q.1 (by omega))]
    exact zt_cd_d A k y hy
  · rw [e2] at hy
    rw [I]
    by_cases z : k = (zt_ct pl m F).length
    · subst z
      rw [List.getElem?_concat_length] at hy
      cases hy
      rw [e3]
      exact zy_I _ _ _ _
    · have hk : k < (zt_ct pl m F).length := by
        have := zm_lt_of_get hy
        rw [List.length_append] at this
        have : k < (zt_ct pl m F).length + 1 := this
        omega
      rw [zy_In _ _ (fun q => z (by omega))]
      rw [List.getElem?_append_left hk] at hy
      exact zt_cd_t A k y hy
  · rw [zy_J, zt_b_or, e2, Bool.or_eq_true, zt_cd_b A t ht, zt_b_bo hx ht]
    constructor
    · rintro (⟨q1, q2, p, hp, q3⟩ | ⟨q1, q2, q3⟩)
      · exact ⟨q1, q2, p, List.mem_append_left _ hp, q3⟩
      · exact ⟨q1, q2, x, List.mem_append_right _ (List.mem_singleton.mpr rfl), q3⟩
    · rintro ⟨q1, q2, p, hp, q3⟩
      rcases List.mem_append.mp hp with u | u
      · exact Or.inl ⟨q1, q2, p, u, q3⟩
      · rw [List.mem_singleton.mp u] at q3
        exact Or.inr ⟨q1, q2, q3⟩
theorem zt_cut69 {d : Nat} {a : Nat} {g0 : zv_H} {S P : Nat} {E : List (Int × Int)} {pl m : Nat} (gL : zt_L g0) (lS : zv_lay S = (1, 5)) (src : zt_src P E g0) (nPS : P ≠ S ∧ P + 2 ≠ S ∧ P ≠ S + 1 ∧ P ≠ S + 2 ∧ P + 2 ≠ S + 1) (hok : ∀ x ∈ E, zt_ok x) (h12 : m ≤ 12) (hpl : pl + m ≤ 120) {X : Option zv_V × zv_H → Prop} (fin : ∀ g, zt_cd g0 S pl m E g → zm_R ((C0_joinGroup (d + 2) a S P g).bind fun g8 => (zv_gI g8 S 5 0).bind fun v9 => (some (some (zv_i v9), g8) : zv_O)) X) : ∀ (n i : Nat) (g : zv_H), i + n = E.length → zt_cd g0 S pl m (E.take i) g → zm_R (L0_cutOut_69 (d + 2) a (pl : Int) (m : Int) P S (i : Int) g) X := by
  have srcg : ∀ {F : List (Int × Int)} {g : zv_H}, zt_cd g0 S pl m F g → zt_src P E g := fun A => ⟨zt_src_lP src, by rw [zt_cd_i A _ _ (fun q => nPS.1 q.1) nPS.2.2.1 nPS.2.2.2.1]; exact zt_src_n src, zt_src_n120 src, fun k x hx => by
    rw [zt_cd_i A _ _ (fun q => nPS.2.1 q.1) nPS.2.2.2.2 (fun q => nPS.1 (by omega))]
    exact zt_src_d src k x hx⟩
  intro n
  induction n with
  | zero =>
    intro i g hi A
    have s := srcg A
    rw [qL0_cutOut_69, zm_e (zl_gI (zt_cd_L A gL) (zt_src_lP s) 12), zt_src_n s, if_neg (by omega)]
    rw [List.take_of_length_le (by omega)] at A
    exact fin g A
  | succ n ih =>
    intro i g hi A
    have s := srcg A
    have L1 := zt_cd_L A gL
    have n120 := zt_src_n120 s
    obtain ⟨x, hx⟩ : ∃ x, E[i]? = some x := ⟨_, List.getElem?_eq_getElem (by omega)⟩
    have el : (E.take i).length = i := by rw [List.length_take]; omega
    have okx := hok x (List.mem_of_getElem? hx)
    have x47 : 0 ≤ x.1 ∧ x.1 ≤ 47 := by rcases okx with q | q <;> omega
    have cln := zt_cl_n pl m (E.take i)
    have stay : zt_cl pl m (E.take i ++ [x]) = zt_cl pl m (E.take i) ++ [x] ∧ zt_ct pl m (E.take i ++ [x]) = zt_ct pl m (E.take i) → zm_R (L0_cutOut_138 (d + 2) a (pl : Int) (m : Int) P S (i : Int) (zt_id x) g) X := fun e => by
      rw [qL0_cutOut_138, zm_e (zt_C5_addId L1 lS (zt_cd_n A) (by omega) _), zm_w (by omega), show (i : Int) + 1 = ((i + 1 : Nat) : Int) by omega]
      refine ih (i + 1) _ (by omega) ?_
      rw [zt_take_s hx]
      exact zt_cd_s A e
    rw [qL0_cutOut_69, zm_e (zl_gI L1 (zt_src_lP s) 12), zt_src_n s, if_pos (by omega), zm_e (zt_src_at L1 s hx)]
    dsimp only
    rw [zm_w (by omega)]
    by_cases c1 : (i : Int) - pl < 0
    · rw [if_pos c1]
      exact stay (zt_cl_a (by omega))
    · rw [if_neg c1]
      by_cases c2 : (i : Int) - pl < m
      · have l1 := (zc_l5 lS).1
        have hb : zt_b (zv_J g S 17) 0 = zt_b (zv_J g S 17) 0 := rfl
        rw [if_pos c2, if_pos (by omega), zm_e (zl_gF L1 lS 1 1), zm_e (zl_wI L1 l1 (by omega) (by omega) _), zm_e (zl_gJ (g := zv_sI g (S + 1) ((i : Int) - pl).toNat (zt_id x)) L1 lS 17), zm_e (zt_C0_baseOf okx)]
        dsimp only
        rw [zm_e (zl_pJ (g := zv_sI g (S + 1) ((i : Int) - pl).toNat (zt_id x)) L1 lS 17 _), zm_w (by omega), show (i : Int) + 1 = ((i + 1 : Nat) : Int) by omega]
        refine ih (i + 1) _ (by omega) ?_
        rw [zt_take_s hx, show ((i : Int) - pl).toNat = (E.take i).length - pl by omega]
        exact zt_cd_g A x47 (by omega) (by omega)
      · rw [if_neg c2]
        exact stay (zt_cl_c (by omega))
