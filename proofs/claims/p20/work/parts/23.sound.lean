/-! whole methods, by depth -/
section ZSND
variable {p : Program} {l : Launch} {e : Env} {R : Room} {s : State} {m : MethodId} {args : Array Value} {below : List Frame} {meth : Method} {c : Code} {Q : State → Prop} {M : zv_M} {D : va_G} {g : Nat → ClassId} {ba : Nat} {ak adV : Nat → Nat} {n0 s0 : Nat} {rv : Option zv_V} {hE : zv_H}
variable {pc : Nat} {ls : zv_Ls} {st : List zv_V} {h : zv_H}
theorem zv_op_sw {i : Instr} {q : zv_Ls × List zv_V} (hop : zv_op i ls st = some q) : zv_sw i = false := by
  cases hs : zv_sw i with
  | false => rfl
  | true =>
    unfold zv_sw at hs
    split at hs
    · unfold zv_op at hop
      cases hop
    · unfold zv_op at hop
      cases hop
    · cases hs
theorem zv_stp_ok (cx : zv_CX p l R s args m meth c M D g ba ak adV n0 s0 hE) (he : zv_HE p l e R s m args below meth c Q M D g ba ak n0 s0 rv hE) {oc : zv_C} {d : Nat} (hC : zv_HC oc l D g ba ak adV d) (hR1 : d + 9 ≤ R.frames) (hR2 : 60 * (d + 9) ≤ R.locals) (hR3 : 8 + (nativeFrameWords "java/lang/System" "arraycopy" 5 + 11) ≤ R.locals) {go : zv_G} (hgo : ∀ pc ls st h, go pc ls st h = some (rv, hE) → zv_ok p l e R s m args below meth c Q M D g ba ak n0 s0 hE pc ls st h) (hr : zv_stp oc M go pc ls st h = some (rv, hE)) : zv_ok p l e R s m args below meth c Q M D g ba ak n0 s0 hE pc ls st h := by
  unfold zv_stp at hr
  cases hi : zv_lk M.2.1 pc with
  | none => rw [hi] at hr; cases hr
  | some i =>
    rw [hi] at hr
    dsimp only at hr
    cases hop : zv_op i ls st with
    | none =>
      rw [hop] at hr
      exact zv_hp_ok cx he hC hR1 hR2 hR3 hi hgo hr
    | some q =>
      rw [hop] at hr
      obtain ⟨ls', st'⟩ := q
      dsimp only at hr
      refine ⟨(hgo _ _ _ _ hr).1, fun H locs cells slots lsR a1 a0 a2 a3 a4 a5 a6 a7 => ?_⟩
      exact zv_op_ok cx.1.1 cx.1.2.1 hop (zv_dg cx hi (zv_op_sw hop)) (fun lsR' b1 b2 => (hgo _ _ _ _ hr).2 H locs cells slots lsR' b1 ((zv_op_len hop).trans a0) b2 a3 a4 a5 a6 a7) lsR a1 a2
theorem zv_ok_msk (b : List Bool) (hk : zv_ok p l e R s m args below meth c Q M D g ba ak n0 s0 hE pc (zv_msk b ls) st h) : zv_ok p l e R s m args below meth c Q M D g ba ak n0 s0 hE pc ls st h :=
  ⟨hk.1, fun H locs cells slots lsR a1 a0 a2 a3 a4 a5 a6 a7 => hk.2 H locs cells slots lsR (a1.msk b) ((zv_msk_len b ls).trans a0) a2 a3 a4 a5 a6 a7⟩
theorem zv_seg_ok (cx : zv_CX p l R s args m meth c M D g ba ak adV n0 s0 hE) (he : zv_HE p l e R s m args below meth c Q M D g ba ak n0 s0 rv hE) {oc : zv_C} {d : Nat} (hC : zv_HC oc l D g ba ak adV d) (hR1 : d + 9 ≤ R.frames) (hR2 : 60 * (d + 9) ≤ R.locals) (hR3 : 8 + (nativeFrameWords "java/lang/System" "arraycopy" 5 + 11) ≤ R.locals) {kt : zv_G} (hkt : ∀ pc ls st h, kt pc ls st h = some (rv, hE) → zv_ok p l e R s m args below meth c Q M D g ba ak n0 s0 hE pc ls st h) : ∀ (n pc : Nat) (ls : zv_Ls) (st : List zv_V) (h : zv_H), zv_seg oc M kt n pc ls st h = some (rv, hE) → zv_ok p l e R s m args below meth c Q M D g ba ak n0 s0 hE pc ls st h
  | 0, pc, ls, st, h, hr => hkt _ _ _ _ hr
  | n + 1, pc, ls, st, h, hr => by
    unfold zv_seg at hr
    refine zv_stp_ok cx he hC hR1 hR2 hR3 (fun pc1 ls1 st1 h1 hg => ?_) hr
    cases hb : zv_lk M.2.2.1 pc1 with
    | some b =>
      simp only [hb] at hg
      exact zv_ok_msk b (hkt _ _ _ _ hg)
    | none =>
      simp only [hb] at hg
      exact zv_seg_ok cx he hC hR1 hR2 hR3 hkt n pc1 ls1 st1 h1 hg
theorem zv_it_ok (cx : zv_CX p l R s args m meth c M D g ba ak adV n0 s0 hE) (he : zv_HE p l e R s m args below meth c Q M D g ba ak n0 s0 rv hE) {oc : zv_C} {d : Nat} (hC : zv_HC oc l D g ba ak adV d) (hR1 : d + 9 ≤ R.frames) (hR2 : 60 * (d + 9) ≤ R.locals) (hR3 : 8 + (nativeFrameWords "java/lang/System" "arraycopy" 5 + 11) ≤ R.locals) : ∀ (n pc : Nat) (ls : zv_Ls) (st : List zv_V) (h : zv_H), zv_it oc M n pc ls st h = some (rv, hE) → zv_ok p l e R s m args below meth c Q M D g ba ak n0 s0 hE pc ls st h
  | 0, pc, ls, st, h, hr => by cases hr
  | n + 1, pc, ls, st, h, hr => zv_seg_ok cx he hC hR1 hR2 hR3 (zv_it_ok cx he hC hR1 hR2 hR3 n) 400 pc ls st h hr
theorem zv_lim_ok (cx : zv_CX p l R s args m meth c M D g ba ak adV n0 s0 hE) (he : zv_HE p l e R s m args below meth c Q M D g ba ak n0 s0 rv hE) {oc : zv_C} {d : Nat} (hC : zv_HC oc l D g ba ak adV d) (hR1 : d + 9 ≤ R.frames) (hR2 : 60 * (d + 9) ≤ R.locals) (hR3 : 8 + (nativeFrameWords "java/lang/System" "arraycopy" 5 + 11) ≤ R.locals) (hr : zv_lim oc M pc ls st h = some (rv, hE)) : zv_ok p l e R s m args below meth c Q M D g ba ak n0 s0 hE pc ls st h := by
  obtain ⟨n, hn⟩ := (zv_lim_iff _ _ _ _ _ _ _).mp hr
  exact zv_it_ok cx he hC hR1 hR2 hR3 n pc ls st h hn
end ZSND
theorem zv_en_len : ∀ (as : List zv_V) (n : Nat), zv_wd as ≤ n → (zv_en as n).length = n
  | [], n, _ => by simp [zv_en]
  | Sum.inl x :: t, 0, h => by simp [zv_wd] at h
  | Sum.inl x :: t, n + 1, h => by
    have := zv_en_len t n (by simp [zv_wd] at h; omega)
    simp [zv_en, this]
  | Sum.inr (Sum.inr x) :: t, 0, h => by simp [zv_wd] at h
  | Sum.inr (Sum.inr x) :: t, n + 1, h => by
    have := zv_en_len t n (by simp [zv_wd] at h; omega)
    simp [zv_en, this]
  | Sum.inr (Sum.inl x) :: t, 0, h => by simp [zv_wd] at h
  | Sum.inr (Sum.inl x) :: t, 1, h => by simp [zv_wd] at h
  | Sum.inr (Sum.inl x) :: t, n + 2, h => by
    have := zv_en_len t n (by simp [zv_wd] at h; omega)
    simp [zv_en, this]
theorem zv_ld_rep (n i : Nat) : zv_ld (List.replicate n none) i = none := by
  induction n generalizing i with
  | zero => rfl
  | succ n ih =>
    cases i with
    | zero => rfl
    | succ i => exact ih i
theorem zv_en_ld (ba : Nat) (ak : Nat → Nat) : ∀ (as : List zv_V) (n k i : Nat) (v : zv_V), zv_ld (zv_en as n) i = some v → (k + i, zv_cv ba ak v) ∈ lv_args k (as.map (zv_cv ba ak)) ∧ v ∈ as
  | [], n, k, i, v, h => by
    rw [zv_en, zv_ld_rep] at h
    cases h
  | Sum.inl x :: t, 0, k, i, v, h => by simp [zv_en, zv_ld] at h
  | Sum.inl x :: t, n + 1, k, 0, v, h => by
    simp only [zv_en, zv_ld, Option.some.injEq] at h
    subst h
    exact ⟨by simp [lv_args, zv_cv], by simp⟩
  | Sum.inl x :: t, n + 1, k, i + 1, v, h => by
    have := zv_en_ld ba ak t n (k + 1) i v h
    refine ⟨?_, List.mem_cons_of_mem _ this.2⟩
    rw [show k + (i + 1) = k + 1 + i by omega]
    simp only [List.map_cons, lv_args]
    exact List.mem_cons_of_mem _ this.1
  | Sum.inr (Sum.inr x) :: t, 0, k, i, v, h => by simp [zv_en, zv_ld] at h
  | Sum.inr (Sum.inr x) :: t, n + 1, k, 0, v, h => by
    simp only [zv_en, zv_ld, Option.some.injEq] at h
    subst h
    exact ⟨by simp [lv_args, zv_cv], by simp⟩
  | Sum.inr (Sum.inr x) :: t, n + 1, k, i + 1, v, h => by
    have := zv_en_ld ba ak t n (k + 1) i v h
    refine ⟨?_, List.mem_cons_of_mem _ this.2⟩
    rw [show k + (i + 1) = k + 1 + i by omega]
    have hc := zv_cat1 ba ak x
    simp only [List.map_cons, lv_args, zv_cv]
    rw [hc]
    exact List.mem_cons_of_mem _ this.1
  | Sum.inr (Sum.inl x) :: t, 0, k, i, v, h => by simp [zv_en, zv_ld] at h
  | Sum.inr (Sum.inl x) :: t, 1, k, i, v, h => by simp [zv_en, zv_ld] at h
  | Sum.inr (Sum.inl x) :: t, n + 2, k, 0, v, h => by
    simp only [zv_en, zv_ld, Option.some.injEq] at h
    subst h
    exact ⟨by simp [lv_args, zv_cv], by simp⟩
  | Sum.inr (Sum.inl x) :: t, n + 2, k, 1, v, h => by simp [zv_en, zv_ld] at h
  | Sum.inr (Sum.inl x) :: t, n + 2, k, i + 2, v, h => by
    have := zv_en_ld ba ak t n (k + 2) i v h
    refine ⟨?_, List.mem_cons_of_mem _ this.2⟩
    rw [show k + (i + 2) = k + 2 + i by omega]
    simp only [List.map_cons, lv_args, zv_cv]
    exact List.mem_cons_of_mem _ this.1
theorem zv_lg_len (ba : Nat) (ak : Nat → Nat) : ∀ as : List zv_V, (lg_sl (as.map (zv_cv ba ak))).length = zv_wd as
  | [] => rfl
  | Sum.inl x :: t => by
    have := zv_lg_len ba ak t
    unfold lg_sl at this ⊢
    simp only [List.map_cons, List.flatMap_cons, List.length_append, this, zv_wd, zv_cv]
    show 1 + zv_wd t = _
    omega
  | Sum.inr (Sum.inl x) :: t => by
    have := zv_lg_len ba ak t
    unfold lg_sl at this ⊢
    simp only [List.map_cons, List.flatMap_cons, List.length_append, this, zv_wd, zv_cv]
    show 2 + zv_wd t = _
    omega
  | Sum.inr (Sum.inr x) :: t => by
    have := zv_lg_len ba ak t
    have hc := zv_cat1 ba ak x
    unfold lg_sl at this ⊢
    simp only [List.map_cons, List.flatMap_cons, List.length_append, this, zv_wd, zv_cv]
    rw [if_neg (by omega)]
    show 1 + zv_wd t = _
    omega
