/-! new cells, constants, calls -/
section ZSND
variable {p : Program} {l : Launch} {e : Env} {R : Room} {s : State} {m : MethodId} {args : Array Value} {below : List Frame} {meth : Method} {c : Code} {Q : State → Prop} {M : zv_M} {D : va_G} {g : Nat → ClassId} {ba : Nat} {ak adV : Nat → Nat} {n0 s0 : Nat} {rv : Option zv_V} {hE : zv_H}
variable {pc : Nat} {ls : zv_Ls} {st : List zv_V} {h : zv_H}
theorem zv_nw_ok (cx : zv_CX p l R s args m meth c M D g ba ak adV n0 s0 hE) {ix : Nat} (hi : zv_lk M.2.1 pc = some (.new ix)) {go : zv_G} (hgo : ∀ pc ls st h, go pc ls st h = some (rv, hE) → zv_ok p l e R s m args below meth c Q M D g ba ak n0 s0 hE pc ls st h) (hr : zv_nw go pc ls st h (zv_lk M.2.2.2.2.2.2.2.2 ix) = some (rv, hE)) : zv_ok p l e R s m args below meth c Q M D g ba ak n0 s0 hE pc ls st h := by
  unfold zv_nw at hr
  cases hf : zv_lk M.2.2.2.2.2.2.2.2 ix with
  | none => rw [hf] at hr; cases hr
  | some ci =>
    rw [hf] at hr
    dsimp only at hr
    obtain ⟨C, T, N, ty, hCF, w1, w2, w3⟩ := cx.2.2.2.2.2.2.2.2.2.2.2.1 ix ci hf
    have hdg := zv_dg cx hi rfl
    have hsz := cx.2.2.2.1
    have hb1 := cx.2.2.2.2.1
    have hb2 := cx.2.2.2.2.2.1
    obtain ⟨h', hv, hg⟩ := Option.bind_eq_some_iff.mp hr
    unfold zv_nO at hv
    split at hv <;> cases hv
    rename_i ho
    have hm := (hgo _ _ _ _ hg).1
    have hm1 := hm.1
    have hm2 := hm.2.1
    rw [zv_n_mk] at hm1
    rw [zv_s_mk] at hm2
    refine ⟨⟨by omega, by omega, hm.2.2⟩, fun H locs cells slots lsR a1 a0 a2 a3 a4 a5 a6 a7 => ?_⟩
    exact zv_new_ok cx.1.1 cx.1.2.1 cx.1.2.2.2.2 cx.1.2.2.2.1 cx.2.1.1 a3 a4 (by omega) hCF w1 w2 w3 ho (by omega) (by omega) hdg (fun H1 b1 b2 => (hgo _ _ _ _ hg).2 H1 locs (cells + 1) (slots + zv_nf ci) lsR a1 a0 (zv_fc trivial a2) b1 b2 (by rw [zv_n_mk]; omega) (by rw [zv_s_mk]; omega) a7)
theorem zv_nA_ok (cx : zv_CX p l R s args m meth c M D g ba ak adV n0 s0 hE) {at' : ArrayType} {ty : FieldType} (hat : newarray.typeOf at' = ty) (hw : Cond.arrayClass (newarray.typeOf at') ∈ zv_tb) {kd : Nat} (hkd : ¬ kd = 0) {x : Int} {t0 : Nat} {cA : ClassId} (ht : (zv_tys g)[t0]? = some (cA, ty)) (hnm : ∀ C, ¬ ty = .object C) (hbyt : componentBytes ty ≤ 8)
    (hel : ∀ h : zv_H, zv_lay (zv_n h + 1) = (kd, x.toNat) → ∃ a0 : vp_A, zv_el g ba ak (zv_mk h x.toNat) (zv_n h + 1) = .inl (cA, a0) ∧ ∀ cA : ClassId, vp_cell cA a0 = arrV cA x.toNat (fun _ => defaultValue ty))
    (hi : zv_lk M.2.1 pc = some (.newarray at')) {go : zv_G} (hgo : ∀ pc ls st h, go pc ls st h = some (rv, hE) → zv_ok p l e R s m args below meth c Q M D g ba ak n0 s0 hE pc ls st h) (hr : ((zv_nA h kd x).bind fun h' => go (pc + 2) ls (zv_r (zv_n h + 1) :: st) h') = some (rv, hE)) : zv_ok p l e R s m args below meth c Q M D g ba ak n0 s0 hE pc ls (zv_i x :: st) h := by
  obtain ⟨h', hv, hg⟩ := Option.bind_eq_some_iff.mp hr
  have hdg := zv_dg cx hi rfl
  have hsz := cx.2.2.2.1
  have hb1 := cx.2.2.2.2.1
  have hb2 := cx.2.2.2.2.2.1
  unfold zv_nA at hv
  split at hv <;> cases hv
  rename_i ho
  have hm := (hgo _ _ _ _ hg).1
  have hm1 := hm.1
  have hm2 := hm.2.1
  rw [zv_n_mk] at hm1
  rw [zv_s_mk] at hm2
  obtain ⟨a0', he1, he2⟩ := hel h ho.2
  refine ⟨⟨by omega, by omega, hm.2.2⟩, fun H locs cells slots lsR a1 a0 a2 a3 a4 a5 a6 a7 => ?_⟩
  exact zv_newa_ok cx.1.1 cx.1.2.1 hat (cx.1.2.2.2.2 _ hw) cx.2.1.1 a3 a4 (by omega) ho.1 ho.2 hkd ht hnm he1 he2 hbyt (by omega) (by omega) hdg (fun H1 b1 b2 => (hgo _ _ _ _ hg).2 H1 locs (cells + 1) (slots + x.toNat) lsR a1 a0 (zv_fc trivial (zv_fa a2).2) b1 b2 (by rw [zv_n_mk]; omega) (by rw [zv_s_mk]; omega) a7)
theorem zv_mk_I (h : zv_H) (w : Nat) : (fun j => Int32.ofInt (zv_I (zv_mk h w) (zv_n h + 1) j)) = fun _ => 0 := by
  funext j
  rw [zv_I_mk, if_pos rfl]
  rfl
theorem zv_mk_J (h : zv_H) (w : Nat) : (fun j => zv_J (zv_mk h w) (zv_n h + 1) j) = fun _ => 0 := by
  funext j
  rw [zv_J_mk, if_pos rfl]
theorem zv_an_ok (cx : zv_CX p l R s args m meth c M D g ba ak adV n0 s0 hE) {ix : Nat} {x : Int} (hi : zv_lk M.2.1 pc = some (.anewarray ix)) {go : zv_G} (hgo : ∀ pc ls st h, go pc ls st h = some (rv, hE) → zv_ok p l e R s m args below meth c Q M D g ba ak n0 s0 hE pc ls st h) (hr : zv_an go pc ls st h x (zv_lk M.2.2.2.2.2.2.2.2 ix) = some (rv, hE)) : zv_ok p l e R s m args below meth c Q M D g ba ak n0 s0 hE pc ls (zv_i x :: st) h := by
  unfold zv_an at hr
  cases hf : zv_lk M.2.2.2.2.2.2.2.2 ix with
  | none => rw [hf] at hr; cases hr
  | some ci =>
    rw [hf] at hr
    dsimp only at hr
    split at hr
    · rename_i hci
      subst hci
      obtain ⟨C, T, N, ty, hCF, w1, w2, w3⟩ := cx.2.2.2.2.2.2.2.2.2.2.2.1 ix 5 hf
      have hdg := zv_dg cx hi rfl
      have hsz := cx.2.2.2.1
      have hb1 := cx.2.2.2.2.1
      have hb2 := cx.2.2.2.2.2.1
      obtain ⟨h', hv, hg⟩ := Option.bind_eq_some_iff.mp hr
      unfold zv_nA at hv
      split at hv <;> cases hv
      rename_i ho
      have hm := (hgo _ _ _ _ hg).1
      have hm1 := hm.1
      have hm2 := hm.2.1
      rw [zv_n_mk] at hm1
      rw [zv_s_mk] at hm2
      have hC : C = "BranchedText$State" := by
        have := Option.some.inj ((show vwCl[5]? = some (RX5, TX5, 18) from rfl).symm.trans hCF.1)
        exact (congrArg Prod.fst this).symm
      subst hC
      refine ⟨⟨by omega, by omega, hm.2.2⟩, fun H locs cells slots lsR a1 a0 a2 a3 a4 a5 a6 a7 => ?_⟩
      exact zv_newq_ok cx.1.1 cx.1.2.1 cx.1.2.2.2.1 cx.2.1.2.2.2.1 cx.2.1.1 a3 a4 (by omega) ho.1 (cx.1.2.2.2.2 _ w1) ho.2 (by omega) (by omega) hdg (fun H1 b1 b2 => (hgo _ _ _ _ hg).2 H1 locs (cells + 1) (slots + x.toNat) lsR a1 a0 (zv_fc trivial (zv_fa a2).2) b1 b2 (by rw [zv_n_mk]; omega) (by rw [zv_s_mk]; omega) a7)
    · cases hr
theorem zv_gs_ok (cx : zv_CX p l R s args m meth c M D g ba ak adV n0 s0 hE) {ix : Nat} (hi : zv_lk M.2.1 pc = some (.getstatic ix)) {go : zv_G} (hgo : ∀ pc ls st h, go pc ls st h = some (rv, hE) → zv_ok p l e R s m args below meth c Q M D g ba ak n0 s0 hE pc ls st h) (hr : zv_gs go pc ls st h (zv_lk M.2.2.2.2.2.1 ix) = some (rv, hE)) : zv_ok p l e R s m args below meth c Q M D g ba ak n0 s0 hE pc ls st h := by
  unfold zv_gs at hr
  cases hf : zv_lk M.2.2.2.2.2.1 ix with
  | none => rw [hf] at hr; cases hr
  | some v =>
    rw [hf] at hr
    dsimp only at hr
    obtain ⟨hv1, w⟩ := cx.2.2.2.2.2.2.2.2.2.2.2.2.2 ix v hf
    subst hv1
    have hdg := zv_dg cx hi rfl
    refine ⟨(hgo _ _ _ _ hr).1, fun H locs cells slots lsR a1 a0 a2 a3 a4 a5 a6 a7 => ?_⟩
    exact va_gets cx.1.1 cx.1.2.1 cx.2.1.2.2.2.2.2.2.1 a4 cx.1.2.2.2.1 (cx.1.2.2.2.2 _ w) (fun _ q => q) hdg ((hgo _ _ _ _ hr).2 H locs cells slots lsR a1 a0 (zv_fc (by unfold zv_vg zv_rg; dsimp only; omega) a2) a3 a4 a5 a6 a7)
theorem zv_ls_ok (cx : zv_CX p l R s args m meth c M D g ba ak adV n0 s0 hE) {ix : Nat} (hi : zv_lk M.2.1 pc = some (.ldc ix)) {go : zv_G} (hgo : ∀ pc ls st h, go pc ls st h = some (rv, hE) → zv_ok p l e R s m args below meth c Q M D g ba ak n0 s0 hE pc ls st h) (hr : zv_ls go pc ls st h (zv_lk M.2.2.2.2.2.2.2.1 ix) = some (rv, hE)) : zv_ok p l e R s m args below meth c Q M D g ba ak n0 s0 hE pc ls st h := by
  unfold zv_ls at hr
  cases hf : zv_lk M.2.2.2.2.2.2.2.1 ix with
  | none => rw [hf] at hr; cases hr
  | some k =>
    rw [hf] at hr
    dsimp only at hr
    obtain ⟨hk, h1, h2⟩ := cx.2.2.2.2.2.2.2.2.2.2.1 ix k hf
    have hdg := zv_dg cx hi rfl
    refine ⟨(hgo _ _ _ _ hr).1, fun H locs cells slots lsR a1 a0 a2 a3 a4 a5 a6 a7 => ?_⟩
    have hR := cx.2.1.2.2.2.2.2.1 k hk
    rw [h1, h2] at hR
    have kk := (hgo _ _ _ _ hr).2 H locs cells slots lsR a1 a0 (zv_fc trivial a2) a3 a4 a5 a6 a7
    rw [List.map_cons] at kk
    change W p l e R s m args below meth c H locs cells slots Q (F0 m (pc + 2) lsR (va_rf (zv_ad ba ak (1000000 + k)) :: _)) at kk
    rw [zv_ad_t] at kk
    exact va_ldcS cx.1.1 cx.1.2.1 cx.1.2.2.2.1 hR hdg kk
theorem zv_li_ok (cx : zv_CX p l R s args m meth c M D g ba ak adV n0 s0 hE) {ix : Nat} (hi : zv_lk M.2.1 pc = some (.ldc_w ix)) {go : zv_G} (hgo : ∀ pc ls st h, go pc ls st h = some (rv, hE) → zv_ok p l e R s m args below meth c Q M D g ba ak n0 s0 hE pc ls st h) (hr : zv_li go pc ls st h (zv_lk M.2.2.2.2.2.2.2.1 ix) = some (rv, hE)) : zv_ok p l e R s m args below meth c Q M D g ba ak n0 s0 hE pc ls st h := by
  unfold zv_li at hr
  cases hf : zv_lk M.2.2.2.2.2.2.2.1 ix with
  | none => rw [hf] at hr; cases hr
  | some k =>
    rw [hf] at hr
    dsimp only at hr
    obtain ⟨hk, h1, h2⟩ := cx.2.2.2.2.2.2.2.2.2.2.1 ix k hf
    have hdg := zv_dg cx hi rfl
    refine ⟨(hgo _ _ _ _ hr).1, fun H locs cells slots lsR a1 a0 a2 a3 a4 a5 a6 a7 => ?_⟩
    have hR := cx.2.1.2.2.2.2.2.1 k hk
    rw [h1, h2] at hR
    have kk := (hgo _ _ _ _ hr).2 H locs cells slots lsR a1 a0 (zv_fc trivial a2) a3 a4 a5 a6 a7
    rw [List.map_cons] at kk
    change W p l e R s m args below meth c H locs cells slots Q (F0 m (pc + 3) lsR (va_rf (zv_ad ba ak (1000000 + k)) :: _)) at kk
    rw [zv_ad_t] at kk
    intro T hT X
    obtain ⟨t, b1, b2⟩ := kk T hT X
    have hb := cx.1.2.1
    exact ⟨t, X.ldcStringW cx.1.1 cx.1.2.2.2.1 (text := zv_stx.getD k "") (a := ak (1000000 + k)) hR.1 hR.2 (g := F0 m pc lsR (st.map (zv_cv ba ak))) rfl (by rw [hb]; exact hdg) t b1, b2⟩
theorem zv_ll_ok (cx : zv_CX p l R s args m meth c M D g ba ak adV n0 s0 hE) {ix : Nat} (hi : zv_lk M.2.1 pc = some (.ldc2_w ix)) {go : zv_G} (hgo : ∀ pc ls st h, go pc ls st h = some (rv, hE) → zv_ok p l e R s m args below meth c Q M D g ba ak n0 s0 hE pc ls st h) (hr : zv_ll go pc ls st h (zv_lk M.2.2.2.2.2.2.1 ix) = some (rv, hE)) : zv_ok p l e R s m args below meth c Q M D g ba ak n0 s0 hE pc ls st h := by
  unfold zv_ll at hr
  cases hf : zv_lk M.2.2.2.2.2.2.1 ix with
  | none => rw [hf] at hr; cases hr
  | some v =>
    rw [hf] at hr
    dsimp only at hr
    have hw := cx.2.2.2.2.2.2.2.2.2.1 ix v hf
    have hdg := zv_dg cx hi rfl
    refine ⟨(hgo _ _ _ _ hr).1, fun H locs cells slots lsR a1 a0 a2 a3 a4 a5 a6 a7 => ?_⟩
    exact lv_ldc2 cx.1.1 cx.1.2.1 cx.1.2.2.2.1 (cx.1.2.2.2.2 _ hw) hdg ((hgo _ _ _ _ hr).2 H locs cells slots lsR a1 a0 (zv_fc trivial a2) a3 a4 a5 a6 a7)
theorem zv_oi_ok (cx : zv_CX p l R s args m meth c M D g ba ak adV n0 s0 hE) {ix : Nat} {en : Nat × (Nat × (Nat × Nat))} (hR : 1 ≤ R.frames ∧ 20 ≤ R.locals) (hi : zv_lk M.2.1 pc = some (.invokespecial ix)) (hf : zv_lk M.2.2.2.2.1 ix = some en) (h20 : en.2.1 = 20) {go : zv_G} (hgo : ∀ pc ls st h, go pc ls st h = some (rv, hE) → zv_ok p l e R s m args below meth c Q M D g ba ak n0 s0 hE pc ls st h) (hr : zv_oi go pc ls st h = some (rv, hE)) : zv_ok p l e R s m args below meth c Q M D g ba ak n0 s0 hE pc ls st h := by
  unfold zv_oi at hr
  split at hr
  · rename_i r st
    split at hr
    · cases hr
    · rename_i hwd
      split at hr
      · cases hr
      · rename_i hr0
        have hdg := zv_dg cx hi rfl
        rcases cx.2.2.2.2.2.2.2.2.1 ix en hf with ⟨-, w1, w2, w3⟩ | ⟨q, -⟩ | ⟨q, -⟩ | ⟨q, -⟩ | ⟨y, bytes, maxL, ret, -, -, -, -, -, q⟩
        · refine ⟨(hgo _ _ _ _ hr).1, fun H locs cells slots lsR a1 a0 a2 a3 a4 a5 a6 a7 => ?_⟩
          have hts := cx.1.2.2.2.2
          have kk := (hgo _ _ _ _ hr).2 H locs cells slots lsR a1 a0 (zv_fa a2).2 a3 a4 a5 a6 a7
          rcases zv_ad_cases ba ak r with ⟨z, -⟩ | ⟨a, z⟩
          · exact absurd z hr0
          · have hsum := zv_wd_sum ba ak st
            have hml := cx.1.2.2.1
            have hls := a1.1
            show W p l e R s m args below meth c H locs cells slots Q (F0 m pc lsR (va_rf (zv_ad ba ak r) :: st.map (zv_cv ba ak)))
            rw [z]
            exact W.objInit cx.1.1 cx.1.2.1 cx.1.2.2.2.1 (hts _ w1) (hts _ w2) (hts _ w3) (g := F0 m pc lsR (.ref a :: st.map (zv_cv ba ak))) rfl (by show lsR.size = _; omega) rfl hdg hR.1 (by show 2 * 0 + _ + 12 ≤ _; omega) kk
        · omega
        · omega
        · omega
        · rw [h20] at q
          exact q.elim
  · cases hr
theorem zv_cyS_ok (cx : zv_CX p l R s args m meth c M D g ba ak adV n0 s0 hE) {ix : Nat} {en : Nat × (Nat × (Nat × Nat))} (hR : 1 ≤ R.frames ∧ 8 + (nativeFrameWords "java/lang/System" "arraycopy" 5 + 11) ≤ R.locals) (hi : zv_lk M.2.1 pc = some (.invokestatic ix)) (hf : zv_lk M.2.2.2.2.1 ix = some en) (h21 : en.2.1 = 21) {go : zv_G} (hgo : ∀ pc ls st h, go pc ls st h = some (rv, hE) → zv_ok p l e R s m args below meth c Q M D g ba ak n0 s0 hE pc ls st h) (hr : zv_cyS go pc ls st h = some (rv, hE)) : zv_ok p l e R s m args below meth c Q M D g ba ak n0 s0 hE pc ls st h := by
  unfold zv_cyS at hr
  split at hr
  · rename_i n dp d sp sr st
    split at hr
    · cases hr
    · rename_i hwd
      obtain ⟨h', hv, hg⟩ := Option.bind_eq_some_iff.mp hr
      have hdg := zv_dg cx hi rfl
      have hsz := cx.2.2.2.1
      have hcp : zv_n h' = zv_n h ∧ zv_s h' = zv_s h ∧ h'.2.2.2.2 = h.2.2.2.2 := by
        unfold zv_cy at hv
        split at hv
        · cases hv
          exact ⟨rfl, rfl, rfl⟩
        · cases hv
      rcases cx.2.2.2.2.2.2.2.2.1 ix en hf with ⟨q, -⟩ | ⟨-, w1, w2, w3, w4⟩ | ⟨q, -⟩ | ⟨q, -⟩ | ⟨y, bytes, maxL, ret, -, -, -, -, -, q⟩
      · omega
      · have hm := (hgo _ _ _ _ hg).1
        refine ⟨⟨by rw [← hcp.1]; exact hm.1, by rw [← hcp.2.1]; exact hm.2.1, by rw [← hcp.2.2]; exact hm.2.2⟩, fun H locs cells slots lsR a1 a0 a2 a3 a4 a5 a6 a7 => ?_⟩
        have hts := cx.1.2.2.2.2
        have hsum := zv_wd_sum ba ak st
        have hml := cx.1.2.2.1
        have hls := a1.1
        have g1 := zv_fa a2
        have g2 := zv_fa g1.2
        have g3 := zv_fa g2.2
        have g4 := zv_fa g3.2
        have g5 := zv_fa g4.2
        have a7' : zv_SC ba ak s h' := by
          unfold zv_SC zv_L zv_X at a7 ⊢
          rw [hcp.2.2]
          exact a7
        exact zv_cy_ok cx.1.1 cx.1.2.1 (by omega) cx.1.2.2.2.1 (hts _ w1) (hts _ w2) (hts _ w3) (hts _ w4) cx.2.1.1 a3 a4 (by omega) g4.1 g2.1 g1.1 hv hR.1 (by omega) hdg (fun H1 locs1 b1 b2 => (hgo _ _ _ _ hg).2 H1 locs1 cells slots lsR a1 a0 g5.2 b1 b2 (by rw [hcp.1]; exact a5) (by rw [hcp.2.1]; exact a6) a7')
      · omega
      · omega
      · rw [h21] at q
        exact q.elim
  · cases hr
theorem zv_max_eq {x y : Int} (hx : zv_rg x) (hy : zv_rg y) : (if Int32.ofInt x < Int32.ofInt y then Int32.ofInt y else Int32.ofInt x) = Int32.ofInt (max x y) := by
  by_cases q : x < y
  · rw [if_pos ((zv_lt hx hy).mpr q), show max x y = y by omega]
  · rw [if_neg (fun z => q ((zv_lt hx hy).mp z)), show max x y = x by omega]
theorem zv_min_eq {x y : Int} (hx : zv_rg x) (hy : zv_rg y) : (if Int32.ofInt y < Int32.ofInt x then Int32.ofInt y else Int32.ofInt x) = Int32.ofInt (min x y) := by
  by_cases q : y < x
  · rw [if_pos ((zv_lt hy hx).mpr q), show min x y = y by omega]
  · rw [if_neg (fun z => q ((zv_lt hy hx).mp z)), show min x y = x by omega]
theorem zv_mx_ok (cx : zv_CX p l R s args m meth c M D g ba ak adV n0 s0 hE) {ix : Nat} {en : Nat × (Nat × (Nat × Nat))} (hR : 1 ≤ R.frames ∧ 30 ≤ R.locals) (hi : zv_lk M.2.1 pc = some (.invokestatic ix)) (hf : zv_lk M.2.2.2.2.1 ix = some en) {b : Bool} (hb : en.2.1 = bif b then 22 else 23) {go : zv_G} (hgo : ∀ pc ls st h, go pc ls st h = some (rv, hE) → zv_ok p l e R s m args below meth c Q M D g ba ak n0 s0 hE pc ls st h) (hr : zv_mx go pc ls st h b = some (rv, hE)) : zv_ok p l e R s m args below meth c Q M D g ba ak n0 s0 hE pc ls st h := by
  unfold zv_mx at hr
  split at hr
  · rename_i y x st
    split at hr
    · cases hr
    · rename_i hwd
      have hdg := zv_dg cx hi rfl
      have hts := cx.1.2.2.2.2
      have hsz := cx.2.2.2.1
      have hb1 := cx.2.2.2.2.1
      have hb2 := cx.2.2.2.2.2.1
      refine ⟨(hgo _ _ _ _ hr).1, fun H locs cells slots lsR a1 a0 a2 a3 a4 a5 a6 a7 => ?_⟩
      have g1 := zv_fa a2
      have g2 := zv_fa g1.2
      have hm := (hgo _ _ _ _ hr).1
      have hm1 := hm.1
      have hm2 := hm.2.1
      have hsum := zv_wd_sum ba ak st
      have hml := cx.1.2.2.1
      have hls := a1.1
      have hrg : zv_rg (bif b then max x y else min x y) := by
        have r1 : zv_rg y := g1.1
        have r2 : zv_rg x := g2.1
        unfold zv_rg at *
        cases b <;> dsimp only [cond] <;> omega
      have kk := (hgo _ _ _ _ hr).2 H locs cells slots lsR a1 a0 (zv_fc hrg g2.2) a3 a4 a5 a6 a7
      cases b with
      | true =>
        rcases cx.2.2.2.2.2.2.2.2.1 ix en hf with ⟨q, -⟩ | ⟨q, -⟩ | ⟨-, w⟩ | ⟨q, -⟩ | ⟨yy, bytes, maxL, ret, -, -, -, -, -, q⟩
        · rw [hb] at q; cases q
        · rw [hb] at q; cases q
        · exact va_mmax cx.1.1 cx.1.2.1 (by omega) cx.1.2.2.2.1 (hts _ w) (hts _ zv_wMx.1) (hts _ zv_wMx.2.1) (hts _ zv_wMx.2.2) hR.1 (by omega) (by omega) (by omega) hdg (by rw [zv_max_eq g2.1 g1.1]; exact kk)
        · rw [hb] at q; cases q
        · rw [hb] at q; exact q.elim
      | false =>
        rcases cx.2.2.2.2.2.2.2.2.1 ix en hf with ⟨q, -⟩ | ⟨q, -⟩ | ⟨q, -⟩ | ⟨-, w⟩ | ⟨yy, bytes, maxL, ret, -, -, -, -, -, q⟩
        · rw [hb] at q; cases q
        · rw [hb] at q; cases q
        · rw [hb] at q; cases q
        · exact va_mmin cx.1.1 cx.1.2.1 (by omega) cx.1.2.2.2.1 (hts _ w) (hts _ zv_wMn.1) (hts _ zv_wMn.2.1) (hts _ zv_wMn.2.2) hR.1 (by omega) (by omega) (by omega) hdg (by rw [zv_min_eq g2.1 g1.1]; exact kk)
        · rw [hb] at q; exact q.elim
  · cases hr
end ZSND
