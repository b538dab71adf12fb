/-! 19.sound -/
section
/-! the instructions on cells, once more, with what lies behind. -/
section ZSND
variable {p : Program} {l : Launch} {e : Env} {R : Room} {s : State} {m : MethodId} {args : Array Value} {below : List Frame} {meth : Method} {c : Code} {Q : State → Prop} {M : zv_M} {D : va_G} {g : Nat → ClassId} {ba : Nat} {ak adV : Nat → Nat} {n0 s0 : Nat} {rv : Option zv_V} {hE : zv_H}
variable {pc : Nat} {ls : zv_Ls} {st : List zv_V} {h : zv_H}
theorem zv_ad_t {k : Nat} (ba : Nat) (ak : Nat → Nat) : va_rf (zv_ad ba ak (1000000 + k)) = .ref (ak (1000000 + k)) := by
  unfold zv_ad
  rw [if_neg (by omega), if_neg (by omega)]
  rfl
theorem zv_gf_ok (cx : zv_CX p l R s args m meth c M D g ba ak adV n0 s0 hE) {ix r : Nat} (hi : zv_lk M.2.1 pc = some (.getfield ix)) {go : zv_G} (hgo : ∀ pc ls st h, go pc ls st h = some (rv, hE) → zv_ok p l e R s m args below meth c Q M D g ba ak n0 s0 hE pc ls st h) (hr : zv_gf go pc ls st h r (zv_lk M.2.2.2.1 ix) = some (rv, hE)) : zv_ok p l e R s m args below meth c Q M D g ba ak n0 s0 hE pc ls (zv_r r :: st) h := by
  unfold zv_gf at hr
  cases hf : zv_lk M.2.2.2.1 ix with
  | none => rw [hf] at hr; cases hr
  | some f =>
    rw [hf] at hr
    dsimp only at hr
    have hdg := zv_dg cx hi rfl
    rcases cx.2.2.2.2.2.2.2.1 ix f hf with ⟨h4, w⟩ | ⟨h5, w⟩ | ⟨C, T, N, ty, hCF, hk, hl, -⟩
    · rw [h4] at hr
      obtain ⟨v, hv, hg⟩ := Option.bind_eq_some_iff.mp hr
      unfold zv_tC at hv
      split at hv <;> cases hv
      rename_i ho
      obtain ⟨k, rfl⟩ := Nat.exists_eq_add_of_le ho.1
      refine ⟨(hgo _ _ _ _ hg).1, fun H locs cells slots lsR a1 a0 a2 a3 a4 a5 a6 a7 => ?_⟩
      show W p l e R s m args below meth c H locs cells slots Q (F0 m pc lsR (va_rf (zv_ad ba ak (1000000 + k)) :: st.map (zv_cv ba ak)))
      rw [zv_ad_t]
      exact vk_getf cx.1.1 cx.1.2.1 (cx.2.1.2.2.2.2.1.1 k (by omega)).2.1 a4 cx.1.2.2.2.1 (cx.1.2.2.2.2 _ w) (fun _ q => q) hdg ((hgo _ _ _ _ hg).2 H locs cells slots lsR a1 a0 (zv_fc zv_rg0 (zv_fa a2).2) a3 a4 a5 a6 a7)
    · rw [h5] at hr
      obtain ⟨v, hv, hg⟩ := Option.bind_eq_some_iff.mp hr
      unfold zv_tV at hv
      split at hv <;> cases hv
      rename_i ho
      obtain ⟨k, rfl⟩ := Nat.exists_eq_add_of_le ho.1
      refine ⟨(hgo _ _ _ _ hg).1, fun H locs cells slots lsR a1 a0 a2 a3 a4 a5 a6 a7 => ?_⟩
      show W p l e R s m args below meth c H locs cells slots Q (F0 m pc lsR (va_rf (zv_ad ba ak (1000000 + k)) :: st.map (zv_cv ba ak)))
      rw [zv_ad_t]
      have kk := (hgo _ _ _ _ hg).2 H locs cells slots lsR a1 a0 (zv_fc trivial (zv_fa a2).2) a3 a4 a5 a6 a7
      rw [List.map_cons] at kk
      change W p l e R s m args below meth c H locs cells slots Q (F0 m (pc + 3) lsR (va_rf (zv_ad ba ak (1000000 + k + 100)) :: _)) at kk
      rw [show 1000000 + k + 100 = 1000000 + (k + 100) by omega, zv_ad_t, show 1000000 + (k + 100) = 1000100 + k by omega] at kk
      exact vk_getf cx.1.1 cx.1.2.1 (cx.2.1.2.2.2.2.1.1 k (by omega)).2.2.1 a4 cx.1.2.2.2.1 (cx.1.2.2.2.2 _ w) (fun _ q => q) hdg kk
    have htk := hCF.2.2.2.2.2.2 f.2.1 hk
    split at hr
    · rename_i hft
      obtain ⟨v, hv, hg⟩ := Option.bind_eq_some_iff.mp hr
      unfold zv_gI at hv
      split at hv <;> cases hv
      rename_i ho
      refine ⟨(hgo _ _ _ _ hg).1, fun H locs cells slots lsR a1 a0 a2 a3 a4 a5 a6 a7 => ?_⟩
      refine zv_get_ok cx.1.1 cx.1.2.1 cx.1.2.2.2.2 cx.2.1.2.1 cx.1.2.2.2.1 cx.2.1.1 a3 hCF hk hl ho hdg ?_
      have e1 : zv_fv ba ak h r f.1 f.2.1 = .int (Int32.ofInt (zv_I h r f.2.1)) := by
        unfold zv_fv
        rw [hft]
        rfl
      rw [e1]
      exact (hgo _ _ _ _ hg).2 H locs cells slots lsR a1 a0 (zv_fc (a3.2.2.1 _ _) (zv_fa a2).2) a3 a4 a5 a6 a7
    · rename_i hft
      obtain ⟨v, hv, hg⟩ := Option.bind_eq_some_iff.mp hr
      unfold zv_gI at hv
      split at hv <;> cases hv
      rename_i ho
      refine ⟨(hgo _ _ _ _ hg).1, fun H locs cells slots lsR a1 a0 a2 a3 a4 a5 a6 a7 => ?_⟩
      refine zv_get_ok cx.1.1 cx.1.2.1 cx.1.2.2.2.2 cx.2.1.2.1 cx.1.2.2.2.1 cx.2.1.1 a3 hCF hk hl ho hdg ?_
      have e1 : zv_fv ba ak h r f.1 f.2.1 = .int (Int32.ofInt (zv_I h r f.2.1)) := by
        unfold zv_fv
        rw [hft]
        rfl
      rw [e1]
      exact (hgo _ _ _ _ hg).2 H locs cells slots lsR a1 a0 (zv_fc (a3.2.2.1 _ _) (zv_fa a2).2) a3 a4 a5 a6 a7
    · rename_i hft
      obtain ⟨v, hv, hg⟩ := Option.bind_eq_some_iff.mp hr
      unfold zv_gJ at hv
      split at hv <;> cases hv
      rename_i ho
      refine ⟨(hgo _ _ _ _ hg).1, fun H locs cells slots lsR a1 a0 a2 a3 a4 a5 a6 a7 => ?_⟩
      refine zv_get_ok cx.1.1 cx.1.2.1 cx.1.2.2.2.2 cx.2.1.2.1 cx.1.2.2.2.1 cx.2.1.1 a3 hCF hk hl ho hdg ?_
      have e1 : zv_fv ba ak h r f.1 f.2.1 = .long (zv_J h r f.2.1) := by
        unfold zv_fv
        rw [hft]
        rfl
      rw [e1]
      exact (hgo _ _ _ _ hg).2 H locs cells slots lsR a1 a0 (zv_fc trivial (zv_fa a2).2) a3 a4 a5 a6 a7
    · rename_i hft
      obtain ⟨v, hv, hg⟩ := Option.bind_eq_some_iff.mp hr
      unfold zv_gR at hv
      split at hv <;> cases hv
      rename_i ho
      refine ⟨(hgo _ _ _ _ hg).1, fun H locs cells slots lsR a1 a0 a2 a3 a4 a5 a6 a7 => ?_⟩
      refine zv_get_ok cx.1.1 cx.1.2.1 cx.1.2.2.2.2 cx.2.1.2.1 cx.1.2.2.2.1 cx.2.1.1 a3 hCF hk hl ho hdg ?_
      have e1 : zv_fv ba ak h r f.1 f.2.1 = va_rf (zv_ad ba ak (zv_R h r f.2.1)) := by
        unfold zv_fv
        rw [hft]
        rfl
      rw [e1]
      exact (hgo _ _ _ _ hg).2 H locs cells slots lsR a1 a0 (zv_fc trivial (zv_fa a2).2) a3 a4 a5 a6 a7
    · rename_i hft
      rw [hft] at htk
      exact htk.elim
    · rename_i hft
      rw [hft] at htk
      exact htk.elim
    · cases hr
theorem zv_fits_r {t : FieldType} (ht : (∃ x, t = .object x) ∨ ∃ x, t = .array x) (r : Nat) : narrow t (va_rf (zv_ad ba ak r)) = va_rf (zv_ad ba ak r) ∧ fits t (va_rf (zv_ad ba ak r)) = true := by
  rcases zv_ad_cases ba ak r with ⟨-, q⟩ | ⟨a, q⟩ <;> rw [q] <;> rcases ht with ⟨x, rfl⟩ | ⟨x, rfl⟩ <;> exact ⟨rfl, rfl⟩
theorem zv_pf_ok (cx : zv_CX p l R s args m meth c M D g ba ak adV n0 s0 hE) {ix r : Nat} {w : zv_V} (hi : zv_lk M.2.1 pc = some (.putfield ix)) {go : zv_G} (hgo : ∀ pc ls st h, go pc ls st h = some (rv, hE) → zv_ok p l e R s m args below meth c Q M D g ba ak n0 s0 hE pc ls st h) (hr : zv_pf go pc ls st h r w (zv_lk M.2.2.2.1 ix) = some (rv, hE)) : zv_ok p l e R s m args below meth c Q M D g ba ak n0 s0 hE pc ls (w :: zv_r r :: st) h := by
  unfold zv_pf at hr
  cases hf : zv_lk M.2.2.2.1 ix with
  | none => rw [hf] at hr; cases hr
  | some f =>
    rw [hf] at hr
    dsimp only at hr
    rcases cx.2.2.2.2.2.2.2.1 ix f hf with ⟨h4, w0⟩ | ⟨h5, w0⟩ | ⟨C, T, N, ty, hCF, hk, hl, hfin0⟩
    · rw [h4] at hr
      rcases w with x | x | x <;> cases hr
    · rw [h5] at hr
      rcases w with x | x | x <;> cases hr
    have hfin : (T f.2.1).2.2.2 = true → Cond.fieldLink M.1.1 ix C (T f.2.1).2.1 (T f.2.1).2.2.1 ∈ zv_tb ∧ meth.name = "<init>" ∧ C = M.1.1 := fun q => ⟨(hfin0 pc hi q).1, cx.2.2.1 (hfin0 pc hi q).2.1, (hfin0 pc hi q).2.2⟩
    have hdg := zv_dg cx hi rfl
    have htk := hCF.2.2.2.2.2.2 f.2.1 hk
    have hsz := cx.2.2.2.1
    generalize hft : zv_ft f.1 f.2.1 = ft at hr htk
    split at hr
    · obtain ⟨h', hv, hg⟩ := Option.bind_eq_some_iff.mp hr
      unfold zv_pI at hv
      split at hv <;> cases hv
      rename_i v ho
      refine ⟨(hgo _ _ _ _ hg).1, fun H locs cells slots lsR a1 a0 a2 a3 a4 a5 a6 a7 => ?_⟩
      refine zv_put_ok (h' := zv_sI h r f.2.1 v) (v := .int (Int32.ofInt v)) cx.1.1 cx.1.2.1 cx.1.2.2.2.2 cx.2.1.2.1 cx.1.2.2.2.1 cx.2.1.1 a3 a4 (by omega) hCF hk hl hfin ho (by rw [show ty f.2.1 = .int from htk]; rfl) (by rw [show ty f.2.1 = .int from htk]; rfl) ?_ (fun j hj => ?_) (fun q hq => zv_el_sI hq) rfl (zv_hg_sI a3.2.2.1 (zv_fa a2).1) hdg (fun H1 locs1 b1 b2 => (hgo _ _ _ _ hg).2 H1 locs1 cells slots lsR a1 a0 (zv_fa (zv_fa a2).2).2 b1 b2 a5 a6 a7)
      · unfold zv_fv
        rw [hft, zv_I_sI, if_pos ⟨rfl, rfl⟩]; try rfl
      · unfold zv_fv
        rw [zv_I_sI, if_neg (fun z => hj z.2)]
        rfl
    · obtain ⟨h', hv, hg⟩ := Option.bind_eq_some_iff.mp hr
      unfold zv_pZ at hv
      split at hv <;> cases hv
      rename_i v ho
      refine ⟨(hgo _ _ _ _ hg).1, fun H locs cells slots lsR a1 a0 a2 a3 a4 a5 a6 a7 => ?_⟩
      refine zv_put_ok (h' := zv_sI h r f.2.1 v) (v := .int (Int32.ofInt v)) cx.1.1 cx.1.2.1 cx.1.2.2.2.2 cx.2.1.2.1 cx.1.2.2.2.1 cx.2.1.1 a3 a4 (by omega) hCF hk hl hfin ho.1 (by rw [show ty f.2.1 = .boolean from htk]; rcases ho.2 with q | q <;> rw [q] <;> rfl) (by rw [show ty f.2.1 = .boolean from htk]; rcases ho.2 with q | q <;> rw [q] <;> rfl) ?_ (fun j hj => ?_) (fun q hq => zv_el_sI hq) rfl (zv_hg_sI a3.2.2.1 (zv_fa a2).1) hdg (fun H1 locs1 b1 b2 => (hgo _ _ _ _ hg).2 H1 locs1 cells slots lsR a1 a0 (zv_fa (zv_fa a2).2).2 b1 b2 a5 a6 a7)
      · unfold zv_fv
        rw [hft, zv_I_sI, if_pos ⟨rfl, rfl⟩]; try rfl
      · unfold zv_fv
        rw [zv_I_sI, if_neg (fun z => hj z.2)]
        rfl
    · obtain ⟨h', hv, hg⟩ := Option.bind_eq_some_iff.mp hr
      unfold zv_pJ at hv
      split at hv <;> cases hv
      rename_i v ho
      refine ⟨(hgo _ _ _ _ hg).1, fun H locs cells slots lsR a1 a0 a2 a3 a4 a5 a6 a7 => ?_⟩
      refine zv_put_ok (h' := zv_sJ h r f.2.1 v) (v := .long v) cx.1.1 cx.1.2.1 cx.1.2.2.2.2 cx.2.1.2.1 cx.1.2.2.2.1 cx.2.1.1 a3 a4 (by omega) hCF hk hl hfin ho (by rw [show ty f.2.1 = .long from htk]; rfl) (by rw [show ty f.2.1 = .long from htk]; rfl) ?_ (fun j hj => ?_) (fun q hq => zv_el_sJ hq) rfl a3.2.2.1 hdg (fun H1 locs1 b1 b2 => (hgo _ _ _ _ hg).2 H1 locs1 cells slots lsR a1 a0 (zv_fa (zv_fa a2).2).2 b1 b2 a5 a6 a7)
      · unfold zv_fv
        rw [hft, zv_J_sJ, if_pos ⟨rfl, rfl⟩]; try rfl
      · unfold zv_fv
        rw [zv_J_sJ, if_neg (fun z => hj z.2)]
        rfl
    · obtain ⟨h', hv, hg⟩ := Option.bind_eq_some_iff.mp hr
      unfold zv_pR at hv
      split at hv <;> cases hv
      rename_i v ho
      refine ⟨(hgo _ _ _ _ hg).1, fun H locs cells slots lsR a1 a0 a2 a3 a4 a5 a6 a7 => ?_⟩
      refine zv_put_ok (h' := zv_sR h r f.2.1 v) (v := va_rf (zv_ad ba ak v)) cx.1.1 cx.1.2.1 cx.1.2.2.2.2 cx.2.1.2.1 cx.1.2.2.2.1 cx.2.1.1 a3 a4 (by omega) hCF hk hl hfin ho (zv_fits_r htk v).1 (zv_fits_r htk v).2 ?_ (fun j hj => ?_) (fun q hq => zv_el_sR hq) rfl a3.2.2.1 hdg (fun H1 locs1 b1 b2 => (hgo _ _ _ _ hg).2 H1 locs1 cells slots lsR a1 a0 (zv_fa (zv_fa a2).2).2 b1 b2 a5 a6 a7)
      · unfold zv_fv
        rw [hft, zv_R_sR, if_pos ⟨rfl, rfl⟩]; try rfl
      · unfold zv_fv
        rw [zv_R_sR, if_neg (fun z => hj z.2)]
        rfl
    · cases hr
theorem zv_lay_le (r : Nat) : (zv_lay r).1 ≤ 6 := by
  rcases Nat.lt_or_ge r 373 with q | q
  · have : ∀ r, r < 373 → (zv_lay r).1 ≤ 6 := by decide +kernel
    exact this r q
  · by_cases z : (zv_lay r).1 = 0
    · omega
    · have := zv_lay_lt z
      omega
theorem zv_lay_big : (zv_lay 2000000).1 = 0 := by
  by_cases z : (zv_lay 2000000).1 = 0
  · exact z
  · have := zv_lay_lt z
    omega
theorem zv_al_ok (cx : zv_CX p l R s args m meth c M D g ba ak adV n0 s0 hE) {r : Nat} (hi : zv_lk M.2.1 pc = some .arraylength) {go : zv_G} (hgo : ∀ pc ls st h, go pc ls st h = some (rv, hE) → zv_ok p l e R s m args below meth c Q M D g ba ak n0 s0 hE pc ls st h) (hr : ((zv_al h r).bind fun v => go (pc + 1) ls (zv_i v :: st) h) = some (rv, hE)) : zv_ok p l e R s m args below meth c Q M D g ba ak n0 s0 hE pc ls (zv_r r :: st) h := by
  obtain ⟨v, hv, hg⟩ := Option.bind_eq_some_iff.mp hr
  have hdg := zv_dg cx hi rfl
  refine ⟨(hgo _ _ _ _ hg).1, fun H locs cells slots lsR a1 a0 a2 a3 a4 a5 a6 a7 => ?_⟩
  unfold zv_al at hv
  split at hv
  · rename_i q
    cases hv
    subst q
    have hl : zv_rg (zv_L h) := by
      obtain ⟨_, -, -, b3, -⟩ := a7
      unfold zv_rg
      omega
    exact zv_slen_ok cx.1.1 cx.1.2.1 a7 a4 hdg ((hgo _ _ _ _ hg).2 H locs cells slots lsR a1 a0 (zv_fc hl (zv_fa a2).2) a3 a4 a5 a6 a7)
  · split at hv
    · rename_i ho
      cases hv
      obtain ⟨k, rfl⟩ := Nat.exists_eq_add_of_le ho.1
      have hrgl : ∀ k, k < 24 → (zv_txt.getD k []).length < 100 ∧ zv_sl.getD k 0 = (zv_txt.getD k []).length := by decide +kernel
      have hk := hrgl k (by omega)
      rw [show 1000100 + k - 1000100 = k by omega] at hg
      have kk := (hgo _ _ _ _ hg).2 H locs cells slots lsR a1 a0 (zv_fc (by unfold zv_vg zv_rg; dsimp only; omega) (zv_fa a2).2) a3 a4 a5 a6 a7
      show W p l e R s m args below meth c H locs cells slots Q (F0 m pc lsR (va_rf (zv_ad ba ak (1000100 + k)) :: st.map (zv_cv ba ak)))
      rw [show 1000100 + k = 1000000 + (k + 100) by omega, zv_ad_t, show 1000000 + (k + 100) = 1000100 + k by omega]
      obtain ⟨cell, t1, t2, t3, t4, t5, t6, t7⟩ := (cx.2.1.2.2.2.2.1.1 k (by omega)).2.2.2
      refine W.alen (n := Int32.ofNat (zv_sl.getD k 0)) cx.1.1 cx.1.2.1 (by rw [a4.2.1 _ (Array.getElem?_eq_some_iff.mp t1).1 t7]; exact t1) t2 t5 rfl rfl hdg ?_
      rw [hk.2]
      exact kk
    split at hv <;> cases hv
    rename_i ho
    have hl : ∀ r, r < 373 → (zv_lay r).2 < 20000 := by decide +kernel
    have hlt := hl r (zv_lay_lt (by omega))
    exact zv_alen_ok cx.1.1 cx.1.2.1 cx.2.1.1 a3 ho (zv_lay_le r) hdg ((hgo _ _ _ _ hg).2 H locs cells slots lsR a1 a0 (zv_fc (by unfold zv_vg zv_rg; dsimp only; omega) (zv_fa a2).2) a3 a4 a5 a6 a7)
theorem zv_aI_ok (cx : zv_CX p l R s args m meth c M D g ba ak adV n0 s0 hE) {r : Nat} {j : Int} (hi : zv_lk M.2.1 pc = some .iaload) {go : zv_G} (hgo : ∀ pc ls st h, go pc ls st h = some (rv, hE) → zv_ok p l e R s m args below meth c Q M D g ba ak n0 s0 hE pc ls st h) (hr : ((zv_aI h r j).bind fun v => go (pc + 1) ls (zv_i v :: st) h) = some (rv, hE)) : zv_ok p l e R s m args below meth c Q M D g ba ak n0 s0 hE pc ls (zv_i j :: zv_r r :: st) h := by
  obtain ⟨v, hv, hg⟩ := Option.bind_eq_some_iff.mp hr
  have hdg := zv_dg cx hi rfl
  refine ⟨(hgo _ _ _ _ hg).1, fun H locs cells slots lsR a1 a0 a2 a3 a4 a5 a6 a7 => ?_⟩
  unfold zv_aI at hv
  split at hv
  · rename_i q
    split at hv <;> cases hv
    subst q
    rename_i ho
    exact zv_sld_ok cx.1.1 cx.1.2.1 a7 a4 (zv_fa a2).1 ho hdg (fun hrg => (hgo _ _ _ _ hg).2 H locs cells slots lsR a1 a0 (zv_fc hrg (zv_fa (zv_fa a2).2).2) a3 a4 a5 a6 a7)
  · split at hv <;> cases hv
    rename_i ho
    exact zv_iald_ok cx.1.1 cx.1.2.1 cx.2.1.1 a3 (zv_fa a2).1 ho hdg ((hgo _ _ _ _ hg).2 H locs cells slots lsR a1 a0 (zv_fc (a3.2.2.1 _ _) (zv_fa (zv_fa a2).2).2) a3 a4 a5 a6 a7)
theorem zv_aB_ok (cx : zv_CX p l R s args m meth c M D g ba ak adV n0 s0 hE) {r : Nat} {j : Int} (hi : zv_lk M.2.1 pc = some .baload) {go : zv_G} (hgo : ∀ pc ls st h, go pc ls st h = some (rv, hE) → zv_ok p l e R s m args below meth c Q M D g ba ak n0 s0 hE pc ls st h) (hr : ((zv_aB h r j).bind fun v => go (pc + 1) ls (zv_i v :: st) h) = some (rv, hE)) : zv_ok p l e R s m args below meth c Q M D g ba ak n0 s0 hE pc ls (zv_i j :: zv_r r :: st) h := by
  obtain ⟨v, hv, hg⟩ := Option.bind_eq_some_iff.mp hr
  have hdg := zv_dg cx hi rfl
  refine ⟨(hgo _ _ _ _ hg).1, fun H locs cells slots lsR a1 a0 a2 a3 a4 a5 a6 a7 => ?_⟩
  unfold zv_aB at hv
  split at hv
  · rename_i ho
    by_cases hj : 0 ≤ j ∧ j < ((zv_txt.getD (r - 1000100) []).length : Int)
    case neg =>
      rw [if_neg hj] at hv
      cases hv
    rw [if_pos hj] at hv
    have hv := Option.some.inj hv
    rw [← hv] at hg
    obtain ⟨k, rfl⟩ := Nat.exists_eq_add_of_le ho.1
    have hrgl : ∀ k, k < 24 → zv_sl.getD k 0 = (zv_txt.getD k []).length ∧ (zv_txt.getD k []).length < 100 := by decide +kernel
    have hbyt : ∀ k, k < 24 → ∀ j, j < 100 → (zv_sb.getD k []).getD j 0 = Int32.ofInt ((zv_txt.getD k []).getD j 0) ∧ (0 ≤ (zv_txt.getD k []).getD j 0 ∧ (zv_txt.getD k []).getD j 0 < 256) := by decide +kernel
    have hk := hrgl k (by omega)
    rw [show 1000100 + k - 1000100 = k by omega] at hg hj
    have hb := hbyt k (by omega) j.toNat (by omega)
    have kk := (hgo _ _ _ _ hg).2 H locs cells slots lsR a1 a0 (zv_fc (by unfold zv_vg zv_rg; dsimp only; omega) (zv_fa (zv_fa a2).2).2) a3 a4 a5 a6 a7
    show W p l e R s m args below meth c H locs cells slots Q (F0 m pc lsR (.int (Int32.ofInt j) :: va_rf (zv_ad ba ak (1000100 + k)) :: st.map (zv_cv ba ak)))
    rw [show 1000100 + k = 1000000 + (k + 100) by omega, zv_ad_t, show 1000000 + (k + 100) = 1000100 + k by omega]
    obtain ⟨cell, t1, t2, t3, t4, t5, t6, t7⟩ := (cx.2.1.2.2.2.2.1.1 k (by omega)).2.2.2
    have hjr : zv_rg j := (zv_fa a2).1
    have hcl := zv_clamp hjr hj.1
    refine W.bald (v := .int (Int32.ofInt ((zv_txt.getD k []).getD j.toNat 0))) cx.1.1 cx.1.2.1 (by rw [a4.2.1 _ (Array.getElem?_eq_some_iff.mp t1).1 t7]; exact t1) t2 t3 (by rw [zv_lt0 hjr, hcl]; omega) (by rw [hcl, t6 _ (by omega)]; exact congrArg (fun z => some (Value.int z)) hb.1) rfl rfl hdg kk
  split at hv <;> cases hv
  rename_i ho
  exact zv_bald_ok cx.1.1 cx.1.2.1 cx.2.1.1 a3 (zv_fa a2).1 ho hdg ((hgo _ _ _ _ hg).2 H locs cells slots lsR a1 a0 (zv_fc (a3.2.2.1 _ _) (zv_fa (zv_fa a2).2).2) a3 a4 a5 a6 a7)
theorem zv_aJ_ok (cx : zv_CX p l R s args m meth c M D g ba ak adV n0 s0 hE) {r : Nat} {j : Int} (hi : zv_lk M.2.1 pc = some .laload) {go : zv_G} (hgo : ∀ pc ls st h, go pc ls st h = some (rv, hE) → zv_ok p l e R s m args below meth c Q M D g ba ak n0 s0 hE pc ls st h) (hr : ((zv_aJ h r j).bind fun v => go (pc + 1) ls (zv_j v :: st) h) = some (rv, hE)) : zv_ok p l e R s m args below meth c Q M D g ba ak n0 s0 hE pc ls (zv_i j :: zv_r r :: st) h := by
  obtain ⟨v, hv, hg⟩ := Option.bind_eq_some_iff.mp hr
  have hdg := zv_dg cx hi rfl
  refine ⟨(hgo _ _ _ _ hg).1, fun H locs cells slots lsR a1 a0 a2 a3 a4 a5 a6 a7 => ?_⟩
  unfold zv_aJ at hv
  split at hv <;> cases hv
  rename_i ho
  exact zv_lald_ok cx.1.1 cx.1.2.1 cx.2.1.1 a3 (zv_fa a2).1 ho hdg ((hgo _ _ _ _ hg).2 H locs cells slots lsR a1 a0 (zv_fc trivial (zv_fa (zv_fa a2).2).2) a3 a4 a5 a6 a7)
theorem zv_aR_ok (cx : zv_CX p l R s args m meth c M D g ba ak adV n0 s0 hE) {r : Nat} {j : Int} (hi : zv_lk M.2.1 pc = some .aaload) {go : zv_G} (hgo : ∀ pc ls st h, go pc ls st h = some (rv, hE) → zv_ok p l e R s m args below meth c Q M D g ba ak n0 s0 hE pc ls st h) (hr : ((zv_aR h r j).bind fun v => go (pc + 1) ls (zv_r v :: st) h) = some (rv, hE)) : zv_ok p l e R s m args below meth c Q M D g ba ak n0 s0 hE pc ls (zv_i j :: zv_r r :: st) h := by
  obtain ⟨v, hv, hg⟩ := Option.bind_eq_some_iff.mp hr
  have hdg := zv_dg cx hi rfl
  refine ⟨(hgo _ _ _ _ hg).1, fun H locs cells slots lsR a1 a0 a2 a3 a4 a5 a6 a7 => ?_⟩
  unfold zv_aR at hv
  split at hv <;> cases hv
  rename_i ho
  exact zv_aald_ok cx.1.1 cx.1.2.1 cx.2.1.1 a3 (zv_fa a2).1 ho hdg ((hgo _ _ _ _ hg).2 H locs cells slots lsR a1 a0 (zv_fc trivial (zv_fa (zv_fa a2).2).2) a3 a4 a5 a6 a7)
theorem zv_wI_ok (cx : zv_CX p l R s args m meth c M D g ba ak adV n0 s0 hE) {r : Nat} {j v : Int} (hi : zv_lk M.2.1 pc = some .iastore) {go : zv_G} (hgo : ∀ pc ls st h, go pc ls st h = some (rv, hE) → zv_ok p l e R s m args below meth c Q M D g ba ak n0 s0 hE pc ls st h) (hr : ((zv_wI h r j v).bind fun h' => go (pc + 1) ls st h') = some (rv, hE)) : zv_ok p l e R s m args below meth c Q M D g ba ak n0 s0 hE pc ls (zv_i v :: zv_i j :: zv_r r :: st) h := by
  obtain ⟨h', hv, hg⟩ := Option.bind_eq_some_iff.mp hr
  have hdg := zv_dg cx hi rfl
  have hsz := cx.2.2.2.1
  unfold zv_wI at hv
  split at hv <;> cases hv
  rename_i ho
  refine ⟨(hgo _ _ _ _ hg).1, fun H locs cells slots lsR a1 a0 a2 a3 a4 a5 a6 a7 => ?_⟩
  exact zv_iast_ok cx.1.1 cx.1.2.1 cx.2.1.1 a3 a4 (by omega) (zv_fa (zv_fa a2).2).1 (zv_fa a2).1 ho hdg (fun H1 locs1 b1 b2 => (hgo _ _ _ _ hg).2 H1 locs1 cells slots lsR a1 a0 (zv_fa (zv_fa (zv_fa a2).2).2).2 b1 b2 a5 a6 a7)
theorem zv_wB_ok (cx : zv_CX p l R s args m meth c M D g ba ak adV n0 s0 hE) {r : Nat} {j v : Int} (hi : zv_lk M.2.1 pc = some .bastore) {go : zv_G} (hgo : ∀ pc ls st h, go pc ls st h = some (rv, hE) → zv_ok p l e R s m args below meth c Q M D g ba ak n0 s0 hE pc ls st h) (hr : ((zv_wB h r j v).bind fun h' => go (pc + 1) ls st h') = some (rv, hE)) : zv_ok p l e R s m args below meth c Q M D g ba ak n0 s0 hE pc ls (zv_i v :: zv_i j :: zv_r r :: st) h := by
  obtain ⟨h', hv, hg⟩ := Option.bind_eq_some_iff.mp hr
  have hdg := zv_dg cx hi rfl
  have hsz := cx.2.2.2.1
  unfold zv_wB at hv
  split at hv
  · rename_i ho
    have hv := Option.some.inj hv
    rw [← hv] at hg
    refine ⟨(hgo _ _ _ _ hg).1, fun H locs cells slots lsR a1 a0 a2 a3 a4 a5 a6 a7 => ?_⟩
    exact zv_bast_ok cx.1.1 cx.1.2.1 cx.2.1.1 a3 a4 (by omega) (zv_fa (zv_fa a2).2).1 ho hdg (fun H1 locs1 b1 b2 => (hgo _ _ _ _ hg).2 H1 locs1 cells slots lsR a1 a0 (zv_fa (zv_fa (zv_fa a2).2).2).2 b1 b2 a5 a6 a7)
  · cases hv
theorem zv_wJ_ok (cx : zv_CX p l R s args m meth c M D g ba ak adV n0 s0 hE) {r : Nat} {j : Int} {v : Int64} (hi : zv_lk M.2.1 pc = some .lastore) {go : zv_G} (hgo : ∀ pc ls st h, go pc ls st h = some (rv, hE) → zv_ok p l e R s m args below meth c Q M D g ba ak n0 s0 hE pc ls st h) (hr : ((zv_wJ h r j v).bind fun h' => go (pc + 1) ls st h') = some (rv, hE)) : zv_ok p l e R s m args below meth c Q M D g ba ak n0 s0 hE pc ls (zv_j v :: zv_i j :: zv_r r :: st) h := by
  obtain ⟨h', hv, hg⟩ := Option.bind_eq_some_iff.mp hr
  have hdg := zv_dg cx hi rfl
  have hsz := cx.2.2.2.1
  unfold zv_wJ at hv
  split at hv <;> cases hv
  rename_i ho
  refine ⟨(hgo _ _ _ _ hg).1, fun H locs cells slots lsR a1 a0 a2 a3 a4 a5 a6 a7 => ?_⟩
  exact zv_last_ok cx.1.1 cx.1.2.1 cx.2.1.1 a3 a4 (by omega) (zv_fa (zv_fa a2).2).1 ho hdg (fun H1 locs1 b1 b2 => (hgo _ _ _ _ hg).2 H1 locs1 cells slots lsR a1 a0 (zv_fa (zv_fa (zv_fa a2).2).2).2 b1 b2 a5 a6 a7)
theorem zv_wR_ok (cx : zv_CX p l R s args m meth c M D g ba ak adV n0 s0 hE) {r : Nat} {j : Int} {v : Nat} (hi : zv_lk M.2.1 pc = some .aastore) {go : zv_G} (hgo : ∀ pc ls st h, go pc ls st h = some (rv, hE) → zv_ok p l e R s m args below meth c Q M D g ba ak n0 s0 hE pc ls st h) (hr : ((zv_wR h r j v).bind fun h' => go (pc + 1) ls st h') = some (rv, hE)) : zv_ok p l e R s m args below meth c Q M D g ba ak n0 s0 hE pc ls (zv_r v :: zv_i j :: zv_r r :: st) h := by
  obtain ⟨h', hv, hg⟩ := Option.bind_eq_some_iff.mp hr
  have hdg := zv_dg cx hi rfl
  have hsz := cx.2.2.2.1
  unfold zv_wR at hv
  split at hv <;> cases hv
  rename_i ho
  refine ⟨(hgo _ _ _ _ hg).1, fun H locs cells slots lsR a1 a0 a2 a3 a4 a5 a6 a7 => ?_⟩
  exact zv_aast_ok cx.1.1 cx.1.2.1 cx.2.1.1 a3 a4 (by omega) (zv_fa (zv_fa a2).2).1 ho hdg (fun H1 locs1 b1 b2 => (hgo _ _ _ _ hg).2 H1 locs1 cells slots lsR a1 a0 (zv_fa (zv_fa (zv_fa a2).2).2).2 b1 b2 a5 a6 a7)
end ZSND
end
/-! 20.sound -/
section
/-! new cells, constants, calls -/
section ZSND
variable {p : Program} {l : Launch} {e : Env} {R : Room} {s : State} {m : MethodId} {args : Array Value} {below : List Frame} {meth : Method} {c : Code} {Q : State → Prop} {M : zv_M} {D : va_G} {g : Nat → ClassId} {ba : Nat} {ak adV : Nat → Nat} {n0 s0 : Nat} {rv : Option zv_V} {hE : zv_H}
variable {pc : Nat} {ls : zv_Ls} {st : List zv_V} {h : zv_H}
theorem zv_nw_ok (cx : zv_CX p l R s args m meth c M D g ba ak adV n0 s0 hE) {ix : Nat} (hi : zv_lk M.2.1 pc = some (.new ix)) {go : zv_G} (hgo : ∀ pc ls st h, go pc ls st h = some (rv, hE) → zv_ok p l e R s m args below meth c Q M D g ba ak n0 s0 hE pc ls st h) (hr : zv_nw go pc ls st h (zv_lk M.2.2.2.2.2.2.2.2 ix) = some (rv, hE)) : zv_ok p l e R s m args below meth c Q M D g ba ak n0 s0 hE pc ls st h := by
  unfold zv_nw at hr
  cases hf : zv_lk M.2.2.2.2.2.2.2.2 ix with
  | none => rw [hf] at hr; cases hr
  | some ci =>
    rw [hf] at hr
    dsimp only at hr
    obtain ⟨C, T, N, ty, hCF, w1, w2, w3⟩ := cx.2.2.2.2.2.2.2.2.2.2.2.1 ix ci hf
    have hdg := zv_dg cx hi rfl
    have hsz := cx.2.2.2.1
    have hb1 := cx.2.2.2.2.1
    have hb2 := cx.2.2.2.2.2.1
    obtain ⟨h', hv, hg⟩ := Option.bind_eq_some_iff.mp hr
    unfold zv_nO at hv
    split at hv <;> cases hv
    rename_i ho
    have hm := (hgo _ _ _ _ hg).1
    have hm1 := hm.1
    have hm2 := hm.2.1
    rw [zv_n_mk] at hm1
    rw [zv_s_mk] at hm2
    refine ⟨⟨by omega, by omega, hm.2.2⟩, fun H locs cells slots lsR a1 a0 a2 a3 a4 a5 a6 a7 => ?_⟩
    exact zv_new_ok cx.1.1 cx.1.2.1 cx.1.2.2.2.2 cx.1.2.2.2.1 cx.2.1.1 a3 a4 (by omega) hCF w1 w2 w3 ho (by omega) (by omega) hdg (fun H1 b1 b2 => (hgo _ _ _ _ hg).2 H1 locs (cells + 1) (slots + zv_nf ci) lsR a1 a0 (zv_fc trivial a2) b1 b2 (by rw [zv_n_mk]; omega) (by rw [zv_s_mk]; omega) a7)
theorem zv_nA_ok (cx : zv_CX p l R s args m meth c M D g ba ak adV n0 s0 hE) {at' : ArrayType} {ty : FieldType} (hat : newarray.typeOf at' = ty) (hw : Cond.arrayClass (newarray.typeOf at') ∈ zv_tb) {kd : Nat} (hkd : ¬ kd = 0) {x : Int} {t0 : Nat} {cA : ClassId} (ht : (zv_tys g)[t0]? = some (cA, ty)) (hnm : ∀ C, ¬ ty = .object C) (hbyt : componentBytes ty ≤ 8)
    (hel : ∀ h : zv_H, zv_lay (zv_n h + 1) = (kd, x.toNat) → ∃ a0 : vp_A, zv_el g ba ak (zv_mk h x.toNat) (zv_n h + 1) = .inl (cA, a0) ∧ ∀ cA : ClassId, vp_cell cA a0 = arrV cA x.toNat (fun _ => defaultValue ty))
    (hi : zv_lk M.2.1 pc = some (.newarray at')) {go : zv_G} (hgo : ∀ pc ls st h, go pc ls st h = some (rv, hE) → zv_ok p l e R s m args below meth c Q M D g ba ak n0 s0 hE pc ls st h) (hr : ((zv_nA h kd x).bind fun h' => go (pc + 2) ls (zv_r (zv_n h + 1) :: st) h') = some (rv, hE)) : zv_ok p l e R s m args below meth c Q M D g ba ak n0 s0 hE pc ls (zv_i x :: st) h := by
  obtain ⟨h', hv, hg⟩ := Option.bind_eq_some_iff.mp hr
  have hdg := zv_dg cx hi rfl
  have hsz := cx.2.2.2.1
  have hb1 := cx.2.2.2.2.1
  have hb2 := cx.2.2.2.2.2.1
  unfold zv_nA at hv
  split at hv <;> cases hv
  rename_i ho
  have hm := (hgo _ _ _ _ hg).1
  have hm1 := hm.1
  have hm2 := hm.2.1
  rw [zv_n_mk] at hm1
  rw [zv_s_mk] at hm2
  obtain ⟨a0', he1, he2⟩ := hel h ho.2
  refine ⟨⟨by omega, by omega, hm.2.2⟩, fun H locs cells slots lsR a1 a0 a2 a3 a4 a5 a6 a7 => ?_⟩
  exact zv_newa_ok cx.1.1 cx.1.2.1 hat (cx.1.2.2.2.2 _ hw) cx.2.1.1 a3 a4 (by omega) ho.1 ho.2 hkd ht hnm he1 he2 hbyt (by omega) (by omega) hdg (fun H1 b1 b2 => (hgo _ _ _ _ hg).2 H1 locs (cells + 1) (slots + x.toNat) lsR a1 a0 (zv_fc trivial (zv_fa a2).2) b1 b2 (by rw [zv_n_mk]; omega) (by rw [zv_s_mk]; omega) a7)
theorem zv_mk_I (h : zv_H) (w : Nat) : (fun j => Int32.ofInt (zv_I (zv_mk h w) (zv_n h + 1) j)) = fun _ => 0 := by
  funext j
  rw [zv_I_mk, if_pos rfl]
  rfl
theorem zv_mk_J (h : zv_H) (w : Nat) : (fun j => zv_J (zv_mk h w) (zv_n h + 1) j) = fun _ => 0 := by
  funext j
  rw [zv_J_mk, if_pos rfl]
theorem zv_an_ok (cx : zv_CX p l R s args m meth c M D g ba ak adV n0 s0 hE) {ix : Nat} {x : Int} (hi : zv_lk M.2.1 pc = some (.anewarray ix)) {go : zv_G} (hgo : ∀ pc ls st h, go pc ls st h = some (rv, hE) → zv_ok p l e R s m args below meth c Q M D g ba ak n0 s0 hE pc ls st h) (hr : zv_an go pc ls st h x (zv_lk M.2.2.2.2.2.2.2.2 ix) = some (rv, hE)) : zv_ok p l e R s m args below meth c Q M D g ba ak n0 s0 hE pc ls (zv_i x :: st) h := by
  unfold zv_an at hr
  cases hf : zv_lk M.2.2.2.2.2.2.2.2 ix with
  | none => rw [hf] at hr; cases hr
  | some ci =>
    rw [hf] at hr
    dsimp only at hr
    split at hr
    · rename_i hci
      subst hci
      obtain ⟨C, T, N, ty, hCF, w1, w2, w3⟩ := cx.2.2.2.2.2.2.2.2.2.2.2.1 ix 5 hf
      have hdg := zv_dg cx hi rfl
      have hsz := cx.2.2.2.1
      have hb1 := cx.2.2.2.2.1
      have hb2 := cx.2.2.2.2.2.1
      obtain ⟨h', hv, hg⟩ := Option.bind_eq_some_iff.mp hr
      unfold zv_nA at hv
      split at hv <;> cases hv
      rename_i ho
      have hm := (hgo _ _ _ _ hg).1
      have hm1 := hm.1
      have hm2 := hm.2.1
      rw [zv_n_mk] at hm1
      rw [zv_s_mk] at hm2
      have hC : C = "BranchedText$State" := by
        have := Option.some.inj ((show vwCl[5]? = some (RX5, TX5, 18) from rfl).symm.trans hCF.1)
        exact (congrArg Prod.fst this).symm
      subst hC
      refine ⟨⟨by omega, by omega, hm.2.2⟩, fun H locs cells slots lsR a1 a0 a2 a3 a4 a5 a6 a7 => ?_⟩
      exact zv_newq_ok cx.1.1 cx.1.2.1 cx.1.2.2.2.1 cx.2.1.2.2.2.1 cx.2.1.1 a3 a4 (by omega) ho.1 (cx.1.2.2.2.2 _ w1) ho.2 (by omega) (by omega) hdg (fun H1 b1 b2 => (hgo _ _ _ _ hg).2 H1 locs (cells + 1) (slots + x.toNat) lsR a1 a0 (zv_fc trivial (zv_fa a2).2) b1 b2 (by rw [zv_n_mk]; omega) (by rw [zv_s_mk]; omega) a7)
    · cases hr
theorem zv_gs_ok (cx : zv_CX p l R s args m meth c M D g ba ak adV n0 s0 hE) {ix : Nat} (hi : zv_lk M.2.1 pc = some (.getstatic ix)) {go : zv_G} (hgo : ∀ pc ls st h, go pc ls st h = some (rv, hE) → zv_ok p l e R s m args below meth c Q M D g ba ak n0 s0 hE pc ls st h) (hr : zv_gs go pc ls st h (zv_lk M.2.2.2.2.2.1 ix) = some (rv, hE)) : zv_ok p l e R s m args below meth c Q M D g ba ak n0 s0 hE pc ls st h := by
  unfold zv_gs at hr
  cases hf : zv_lk M.2.2.2.2.2.1 ix with
  | none => rw [hf] at hr; cases hr
  | some v =>
    rw [hf] at hr
    dsimp only at hr
    obtain ⟨hv1, w⟩ := cx.2.2.2.2.2.2.2.2.2.2.2.2.2 ix v hf
    subst hv1
    have hdg := zv_dg cx hi rfl
    refine ⟨(hgo _ _ _ _ hr).1, fun H locs cells slots lsR a1 a0 a2 a3 a4 a5 a6 a7 => ?_⟩
    exact va_gets cx.1.1 cx.1.2.1 cx.2.1.2.2.2.2.2.2.1 a4 cx.1.2.2.2.1 (cx.1.2.2.2.2 _ w) (fun _ q => q) hdg ((hgo _ _ _ _ hr).2 H locs cells slots lsR a1 a0 (zv_fc (by unfold zv_vg zv_rg; dsimp only; omega) a2) a3 a4 a5 a6 a7)
theorem zv_ls_ok (cx : zv_CX p l R s args m meth c M D g ba ak adV n0 s0 hE) {ix : Nat} (hi : zv_lk M.2.1 pc = some (.ldc ix)) {go : zv_G} (hgo : ∀ pc ls st h, go pc ls st h = some (rv, hE) → zv_ok p l e R s m args below meth c Q M D g ba ak n0 s0 hE pc ls st h) (hr : zv_ls go pc ls st h (zv_lk M.2.2.2.2.2.2.2.1 ix) = some (rv, hE)) : zv_ok p l e R s m args below meth c Q M D g ba ak n0 s0 hE pc ls st h := by
  unfold zv_ls at hr
  cases hf : zv_lk M.2.2.2.2.2.2.2.1 ix with
  | none => rw [hf] at hr; cases hr
  | some k =>
    rw [hf] at hr
    dsimp only at hr
    obtain ⟨hk, h1, h2⟩ := cx.2.2.2.2.2.2.2.2.2.2.1 ix k hf
    have hdg := zv_dg cx hi rfl
    refine ⟨(hgo _ _ _ _ hr).1, fun H locs cells slots lsR a1 a0 a2 a3 a4 a5 a6 a7 => ?_⟩
    have hR := cx.2.1.2.2.2.2.2.1 k hk
    rw [h1, h2] at hR
    have kk := (hgo _ _ _ _ hr).2 H locs cells slots lsR a1 a0 (zv_fc trivial a2) a3 a4 a5 a6 a7
    rw [List.map_cons] at kk
    change W p l e R s m args below meth c H locs cells slots Q (F0 m (pc + 2) lsR (va_rf (zv_ad ba ak (1000000 + k)) :: _)) at kk
    rw [zv_ad_t] at kk
    exact va_ldcS cx.1.1 cx.1.2.1 cx.1.2.2.2.1 hR hdg kk
theorem zv_li_ok (cx : zv_CX p l R s args m meth c M D g ba ak adV n0 s0 hE) {ix : Nat} (hi : zv_lk M.2.1 pc = some (.ldc_w ix)) {go : zv_G} (hgo : ∀ pc ls st h, go pc ls st h = some (rv, hE) → zv_ok p l e R s m args below meth c Q M D g ba ak n0 s0 hE pc ls st h) (hr : zv_li go pc ls st h (zv_lk M.2.2.2.2.2.2.2.1 ix) = some (rv, hE)) : zv_ok p l e R s m args below meth c Q M D g ba ak n0 s0 hE pc ls st h := by
  unfold zv_li at hr
  cases hf : zv_lk M.2.2.2.2.2.2.2.1 ix with
  | none => rw [hf] at hr; cases hr
  | some k =>
    rw [hf] at hr
    dsimp only at hr
    obtain ⟨hk, h1, h2⟩ := cx.2.2.2.2.2.2.2.2.2.2.1 ix k hf
    have hdg := zv_dg cx hi rfl
    refine ⟨(hgo _ _ _ _ hr).1, fun H locs cells slots lsR a1 a0 a2 a3 a4 a5 a6 a7 => ?_⟩
    have hR := cx.2.1.2.2.2.2.2.1 k hk
    rw [h1, h2] at hR
    have kk := (hgo _ _ _ _ hr).2 H locs cells slots lsR a1 a0 (zv_fc trivial a2) a3 a4 a5 a6 a7
    rw [List.map_cons] at kk
    change W p l e R s m args below meth c H locs cells slots Q (F0 m (pc + 3) lsR (va_rf (zv_ad ba ak (1000000 + k)) :: _)) at kk
    rw [zv_ad_t] at kk
    intro T hT X
    obtain ⟨t, b1, b2⟩ := kk T hT X
    have hb := cx.1.2.1
    exact ⟨t, X.ldcStringW cx.1.1 cx.1.2.2.2.1 (text := zv_stx.getD k "") (a := ak (1000000 + k)) hR.1 hR.2 (g := F0 m pc lsR (st.map (zv_cv ba ak))) rfl (by rw [hb]; exact hdg) t b1, b2⟩
theorem zv_ll_ok (cx : zv_CX p l R s args m meth c M D g ba ak adV n0 s0 hE) {ix : Nat} (hi : zv_lk M.2.1 pc = some (.ldc2_w ix)) {go : zv_G} (hgo : ∀ pc ls st h, go pc ls st h = some (rv, hE) → zv_ok p l e R s m args below meth c Q M D g ba ak n0 s0 hE pc ls st h) (hr : zv_ll go pc ls st h (zv_lk M.2.2.2.2.2.2.1 ix) = some (rv, hE)) : zv_ok p l e R s m args below meth c Q M D g ba ak n0 s0 hE pc ls st h := by
  unfold zv_ll at hr
  cases hf : zv_lk M.2.2.2.2.2.2.1 ix with
  | none => rw [hf] at hr; cases hr
  | some v =>
    rw [hf] at hr
    dsimp only at hr
    have hw := cx.2.2.2.2.2.2.2.2.2.1 ix v hf
    have hdg := zv_dg cx hi rfl
    refine ⟨(hgo _ _ _ _ hr).1, fun H locs cells slots lsR a1 a0 a2 a3 a4 a5 a6 a7 => ?_⟩
    exact lv_ldc2 cx.1.1 cx.1.2.1 cx.1.2.2.2.1 (cx.1.2.2.2.2 _ hw) hdg ((hgo _ _ _ _ hr).2 H locs cells slots lsR a1 a0 (zv_fc trivial a2) a3 a4 a5 a6 a7)
theorem zv_oi_ok (cx : zv_CX p l R s args m meth c M D g ba ak adV n0 s0 hE) {ix : Nat} {en : Nat × (Nat × (Nat × Nat))} (hR : 1 ≤ R.frames ∧ 20 ≤ R.locals) (hi : zv_lk M.2.1 pc = some (.invokespecial ix)) (hf : zv_lk M.2.2.2.2.1 ix = some en) (h20 : en.2.1 = 20) {go : zv_G} (hgo : ∀ pc ls st h, go pc ls st h = some (rv, hE) → zv_ok p l e R s m args below meth c Q M D g ba ak n0 s0 hE pc ls st h) (hr : zv_oi go pc ls st h = some (rv, hE)) : zv_ok p l e R s m args below meth c Q M D g ba ak n0 s0 hE pc ls st h := by
  unfold zv_oi at hr
  split at hr
  · rename_i r st
    split at hr
    · cases hr
    · rename_i hwd
      split at hr
      · cases hr
      · rename_i hr0
        have hdg := zv_dg cx hi rfl
        rcases cx.2.2.2.2.2.2.2.2.1 ix en hf with ⟨-, w1, w2, w3⟩ | ⟨q, -⟩ | ⟨q, -⟩ | ⟨q, -⟩ | ⟨y, bytes, maxL, ret, -, -, -, -, -, q⟩
        · refine ⟨(hgo _ _ _ _ hr).1, fun H locs cells slots lsR a1 a0 a2 a3 a4 a5 a6 a7 => ?_⟩
          have hts := cx.1.2.2.2.2
          have kk := (hgo _ _ _ _ hr).2 H locs cells slots lsR a1 a0 (zv_fa a2).2 a3 a4 a5 a6 a7
          rcases zv_ad_cases ba ak r with ⟨z, -⟩ | ⟨a, z⟩
          · exact absurd z hr0
          · have hsum := zv_wd_sum ba ak st
            have hml := cx.1.2.2.1
            have hls := a1.1
            show W p l e R s m args below meth c H locs cells slots Q (F0 m pc lsR (va_rf (zv_ad ba ak r) :: st.map (zv_cv ba ak)))
            rw [z]
            exact W.objInit cx.1.1 cx.1.2.1 cx.1.2.2.2.1 (hts _ w1) (hts _ w2) (hts _ w3) (g := F0 m pc lsR (.ref a :: st.map (zv_cv ba ak))) rfl (by show lsR.size = _; omega) rfl hdg hR.1 (by show 2 * 0 + _ + 12 ≤ _; omega) kk
        · omega
        · omega
        · omega
        · rw [h20] at q
          exact q.elim
  · cases hr
theorem zv_cyS_ok (cx : zv_CX p l R s args m meth c M D g ba ak adV n0 s0 hE) {ix : Nat} {en : Nat × (Nat × (Nat × Nat))} (hR : 1 ≤ R.frames ∧ 8 + (nativeFrameWords "java/lang/System" "arraycopy" 5 + 11) ≤ R.locals) (hi : zv_lk M.2.1 pc = some (.invokestatic ix)) (hf : zv_lk M.2.2.2.2.1 ix = some en) (h21 : en.2.1 = 21) {go : zv_G} (hgo : ∀ pc ls st h, go pc ls st h = some (rv, hE) → zv_ok p l e R s m args below meth c Q M D g ba ak n0 s0 hE pc ls st h) (hr : zv_cyS go pc ls st h = some (rv, hE)) : zv_ok p l e R s m args below meth c Q M D g ba ak n0 s0 hE pc ls st h := by
  unfold zv_cyS at hr
  split at hr
  · rename_i n dp d sp sr st
    split at hr
    · cases hr
    · rename_i hwd
      obtain ⟨h', hv, hg⟩ := Option.bind_eq_some_iff.mp hr
      have hdg := zv_dg cx hi rfl
      have hsz := cx.2.2.2.1
      have hcp : zv_n h' = zv_n h ∧ zv_s h' = zv_s h ∧ h'.2.2.2.2 = h.2.2.2.2 := by
        unfold zv_cy at hv
        split at hv
        · cases hv
          exact ⟨rfl, rfl, rfl⟩
        · cases hv
      rcases cx.2.2.2.2.2.2.2.2.1 ix en hf with ⟨q, -⟩ | ⟨-, w1, w2, w3, w4⟩ | ⟨q, -⟩ | ⟨q, -⟩ | ⟨y, bytes, maxL, ret, -, -, -, -, -, q⟩
      · omega
      · have hm := (hgo _ _ _ _ hg).1
        refine ⟨⟨by rw [← hcp.1]; exact hm.1, by rw [← hcp.2.1]; exact hm.2.1, by rw [← hcp.2.2]; exact hm.2.2⟩, fun H locs cells slots lsR a1 a0 a2 a3 a4 a5 a6 a7 => ?_⟩
        have hts := cx.1.2.2.2.2
        have hsum := zv_wd_sum ba ak st
        have hml := cx.1.2.2.1
        have hls := a1.1
        have g1 := zv_fa a2
        have g2 := zv_fa g1.2
        have g3 := zv_fa g2.2
        have g4 := zv_fa g3.2
        have g5 := zv_fa g4.2
        have a7' : zv_SC ba ak s h' := by
          unfold zv_SC zv_L zv_X at a7 ⊢
          rw [hcp.2.2]
          exact a7
        exact zv_cy_ok cx.1.1 cx.1.2.1 (by omega) cx.1.2.2.2.1 (hts _ w1) (hts _ w2) (hts _ w3) (hts _ w4) cx.2.1.1 a3 a4 (by omega) g4.1 g2.1 g1.1 hv hR.1 (by omega) hdg (fun H1 locs1 b1 b2 => (hgo _ _ _ _ hg).2 H1 locs1 cells slots lsR a1 a0 g5.2 b1 b2 (by rw [hcp.1]; exact a5) (by rw [hcp.2.1]; exact a6) a7')
      · omega
      · omega
      · rw [h21] at q
        exact q.elim
  · cases hr
theorem zv_max_eq {x y : Int} (hx : zv_rg x) (hy : zv_rg y) : (if Int32.ofInt x < Int32.ofInt y then Int32.ofInt y else Int32.ofInt x) = Int32.ofInt (max x y) := by
  by_cases q : x < y
  · rw [if_pos ((zv_lt hx hy).mpr q), show max x y = y by omega]
  · rw [if_neg (fun z => q ((zv_lt hx hy).mp z)), show max x y = x by omega]
theorem zv_min_eq {x y : Int} (hx : zv_rg x) (hy : zv_rg y) : (if Int32.ofInt y < Int32.ofInt x then Int32.ofInt y else Int32.ofInt x) = Int32.ofInt (min x y) := by
  by_cases q : y < x
  · rw [if_pos ((zv_lt hy hx).mpr q), show min x y = y by omega]
  · rw [if_neg (fun z => q ((zv_lt hy hx).mp z)), show min x y = x by omega]
theorem zv_mx_ok (cx : zv_CX p l R s args m meth c M D g ba ak adV n0 s0 hE) {ix : Nat} {en : Nat × (Nat × (Nat × Nat))} (hR : 1 ≤ R.frames ∧ 30 ≤ R.locals) (hi : zv_lk M.2.1 pc = some (.invokestatic ix)) (hf : zv_lk M.2.2.2.2.1 ix = some en) {b : Bool} (hb : en.2.1 = bif b then 22 else 23) {go : zv_G} (hgo : ∀ pc ls st h, go pc ls st h = some (rv, hE) → zv_ok p l e R s m args below meth c Q M D g ba ak n0 s0 hE pc ls st h) (hr : zv_mx go pc ls st h b = some (rv, hE)) : zv_ok p l e R s m args below meth c Q M D g ba ak n0 s0 hE pc ls st h := by
  unfold zv_mx at hr
  split at hr
  · rename_i y x st
    split at hr
    · cases hr
    · rename_i hwd
      have hdg := zv_dg cx hi rfl
      have hts := cx.1.2.2.2.2
      have hsz := cx.2.2.2.1
      have hb1 := cx.2.2.2.2.1
      have hb2 := cx.2.2.2.2.2.1
      refine ⟨(hgo _ _ _ _ hr).1, fun H locs cells slots lsR a1 a0 a2 a3 a4 a5 a6 a7 => ?_⟩
      have g1 := zv_fa a2
      have g2 := zv_fa g1.2
      have hm := (hgo _ _ _ _ hr).1
      have hm1 := hm.1
      have hm2 := hm.2.1
      have hsum := zv_wd_sum ba ak st
      have hml := cx.1.2.2.1
      have hls := a1.1
      have hrg : zv_rg (bif b then max x y else min x y) := by
        have r1 : zv_rg y := g1.1
        have r2 : zv_rg x := g2.1
        unfold zv_rg at *
        cases b <;> dsimp only [cond] <;> omega
      have kk := (hgo _ _ _ _ hr).2 H locs cells slots lsR a1 a0 (zv_fc hrg g2.2) a3 a4 a5 a6 a7
      cases b with
      | true =>
        rcases cx.2.2.2.2.2.2.2.2.1 ix en hf with ⟨q, -⟩ | ⟨q, -⟩ | ⟨-, w⟩ | ⟨q, -⟩ | ⟨yy, bytes, maxL, ret, -, -, -, -, -, q⟩
        · rw [hb] at q; cases q
        · rw [hb] at q; cases q
        · exact va_mmax cx.1.1 cx.1.2.1 (by omega) cx.1.2.2.2.1 (hts _ w) (hts _ zv_wMx.1) (hts _ zv_wMx.2.1) (hts _ zv_wMx.2.2) hR.1 (by omega) (by omega) (by omega) hdg (by rw [zv_max_eq g2.1 g1.1]; exact kk)
        · rw [hb] at q; cases q
        · rw [hb] at q; exact q.elim
      | false =>
        rcases cx.2.2.2.2.2.2.2.2.1 ix en hf with ⟨q, -⟩ | ⟨q, -⟩ | ⟨q, -⟩ | ⟨-, w⟩ | ⟨yy, bytes, maxL, ret, -, -, -, -, -, q⟩
        · rw [hb] at q; cases q
        · rw [hb] at q; cases q
        · rw [hb] at q; cases q
        · exact va_mmin cx.1.1 cx.1.2.1 (by omega) cx.1.2.2.2.1 (hts _ w) (hts _ zv_wMn.1) (hts _ zv_wMn.2.1) (hts _ zv_wMn.2.2) hR.1 (by omega) (by omega) (by omega) hdg (by rw [zv_min_eq g2.1 g1.1]; exact kk)
        · rw [hb] at q; exact q.elim
  · cases hr
end ZSND
end
