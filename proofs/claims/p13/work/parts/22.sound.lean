/-! one step; a whole method -/
/-- calls keep their contracts -/
def zv_HC (c : zv_C) (l : Launch) (D : va_G) (g : Nat → ClassId) (ba : Nat) (ak adV : Nat → Nat) (d : Nat) : Prop :=
  (∀ id as h h1, c.1 id as h = some h1 → zv_cal l D g ba ak adV d id as h none h1) ∧
  (∀ id as h x h1, c.2.1 id as h = some (x, h1) → zv_cal l D g ba ak adV d id as h (some (zv_i x)) h1) ∧
  (∀ id as h x h1, c.2.2.1 id as h = some (x, h1) → zv_cal l D g ba ak adV d id as h (some (zv_j x)) h1) ∧
  (∀ id as h x h1, c.2.2.2 id as h = some (x, h1) → zv_cal l D g ba ak adV d id as h (some (zv_r x)) h1)
def zv_HE (p : Program) (l : Launch) (e : Env) (R : Room) (s : State) (m : MethodId) (args : Array Value) (below : List Frame) (meth : Method) (c : Code) (Q : State → Prop) (M : zv_M) (D : va_G) (g : Nat → ClassId) (ba : Nat) (ak : Nat → Nat) (n0 s0 : Nat) (rv : Option zv_V) (hE : zv_H) : Prop :=
  ∀ H locs lsR pc cells slots, zv_RH D g ba ak hE H → va_S (zv_Ac ba) s.heap H locs → cells + n0 = zv_n hE → slots + s0 = zv_s hE →
    (∀ x, rv = some (zv_i x) → zv_rg x → (M.1.2.2.2.2 = some .int ∨ (M.1.2.2.2.2 = some .boolean ∧ (x = 0 ∨ x = 1)) ∨ (M.1.2.2.2.2 = some .char ∧ 0 ≤ x ∧ x ≤ 65535) ∨ (M.1.2.2.2.2 = some .byte ∧ -128 ≤ x ∧ x ≤ 127)) → decode M.1.2.2.1 pc = .ok (.ireturn, 1) → W p l e R s m args below meth c H locs cells slots Q (F0 m pc lsR [.int (Int32.ofInt x)])) ∧
    (∀ x, rv = some (zv_j x) → M.1.2.2.2.2 = some .long → decode M.1.2.2.1 pc = .ok (.lreturn, 1) → W p l e R s m args below meth c H locs cells slots Q (F0 m pc lsR [.long x])) ∧
    (∀ r C, rv = some (zv_r r) → M.1.2.2.2.2 = some (.object C) → decode M.1.2.2.1 pc = .ok (.areturn, 1) → W p l e R s m args below meth c H locs cells slots Q (F0 m pc lsR [va_rf (zv_ad ba ak r)])) ∧
    (rv = none → M.1.2.2.2.2 = none → decode M.1.2.2.1 pc = .ok (.return_, 1) → W p l e R s m args below meth c H locs cells slots Q (F0 m pc lsR []))
section ZSND
variable {p : Program} {l : Launch} {e : Env} {R : Room} {s : State} {m : MethodId} {args : Array Value} {below : List Frame} {meth : Method} {c : Code} {Q : State → Prop} {M : zv_M} {D : va_G} {g : Nat → ClassId} {ba : Nat} {ak adV : Nat → Nat} {n0 s0 : Nat} {rv : Option zv_V} {hE : zv_H}
variable {pc : Nat} {ls : zv_Ls} {st : List zv_V} {h : zv_H}
/-- one call, with what lies behind -/
theorem zv_one_ok (cx : zv_CX p l R s args m meth c M D g ba ak adV n0 s0 hE) {d ix : Nat} {en : Nat × (Nat × (Nat × Nat))} (hf : zv_lk M.2.2.2.2.1 ix = some en) {as pre rest : List zv_V} {o : Option zv_V} {h1 : zv_H} (hcal : zv_cal l D g ba ak adV d en.1 as h o h1) (has : as = pre.reverse) (hlen : pre.length = en.2.2.1) (hwd : zv_wd rest ≤ 8) (hR1 : d + 9 ≤ R.frames) (hR2 : 60 * (d + 9) ≤ R.locals)
    (hi : (en.2.1 = 0 ∨ en.2.1 = 10) ∧ zv_lk M.2.1 pc = some (.invokevirtual ix) ∨ (en.2.1 = 2 ∨ en.2.1 = 12) ∧ zv_lk M.2.1 pc = some (.invokestatic ix) ∨ (en.2.1 = 1 ∨ en.2.1 = 11) ∧ zv_lk M.2.1 pc = some (.invokespecial ix))
    (hg : zv_ok p l e R s m args below meth c Q M D g ba ak n0 s0 hE (pc + 3) ls (o.toList ++ rest) h1) : zv_ok p l e R s m args below meth c Q M D g ba ak n0 s0 hE pc ls (pre ++ rest) h := by
  have hmo := hcal.1
  have hsz := cx.2.2.2.1
  have hb1 := cx.2.2.2.2.1
  have hb2 := cx.2.2.2.2.2.1
  refine ⟨hmo.tr hg.1, fun H locs cells slots lsR a1 a0 a2 a3 a4 a5 a6 a7 => ?_⟩
  have q1 := hg.1.1
  have q2 := hg.1.2.1
  have q3 := hmo.1
  have q4 := hmo.2.1
  rcases cx.2.2.2.2.2.2.2.2.1 ix en hf with ⟨q, -⟩ | ⟨q, -⟩ | ⟨q, -⟩ | ⟨q, -⟩ | ⟨y, bytes, maxL, ret, hinf, hv⟩
  · omega
  · omega
  · omega
  · omega
  · obtain ⟨av, hrun⟩ := zv_run_ok (cells := cells) (slots := slots) cx hv hinf hcal has hlen hwd hR1 hR2 hi a1 a0 a2 a3 a4 a7 (by omega) (by omega)
    refine zv_callk hrun a4 (fun H1 locs1 hvs b1 b2 => ?_)
    have e : (o.map (zv_cv ba ak)).toList ++ rest.map (zv_cv ba ak) = (o.toList ++ rest).map (zv_cv ba ak) := by
      cases o <;> rfl
    rw [e]
    refine hg.2 H1 locs1 _ _ lsR a1 a0 ?_ b1 b2 (by omega) (by omega) ?_
    · intro v hv
      rcases List.mem_append.mp hv with z | z
      · cases o with
        | none => cases z
        | some w =>
          have := List.mem_singleton.mp z
          rw [this]
          exact hvs
      · exact a2 v (List.mem_append_right _ z)
    · unfold zv_SC zv_L zv_X at a7 ⊢
      rw [hmo.2.2]
      exact a7
theorem zv_call_ok (cx : zv_CX p l R s args m meth c M D g ba ak adV n0 s0 hE) {oc : zv_C} {d ix : Nat} (hC : zv_HC oc l D g ba ak adV d) {en : Nat × (Nat × (Nat × Nat))} (hf : zv_lk M.2.2.2.2.1 ix = some en) (hR1 : d + 9 ≤ R.frames) (hR2 : 60 * (d + 9) ≤ R.locals)
    (hi : (en.2.1 = 0 ∨ en.2.1 = 10) ∧ zv_lk M.2.1 pc = some (.invokevirtual ix) ∨ (en.2.1 = 2 ∨ en.2.1 = 12) ∧ zv_lk M.2.1 pc = some (.invokestatic ix) ∨ (en.2.1 = 1 ∨ en.2.1 = 11) ∧ zv_lk M.2.1 pc = some (.invokespecial ix))
    {go : zv_G} (hgo : ∀ pc ls st h, go pc ls st h = some (rv, hE) → zv_ok p l e R s m args below meth c Q M D g ba ak n0 s0 hE pc ls st h) (hr : zv_call oc go pc ls st h en = some (rv, hE)) : zv_ok p l e R s m args below meth c Q M D g ba ak n0 s0 hE pc ls st h := by
  unfold zv_call at hr
  cases hk : zv_tk en.2.2.1 [] st with
  | none => rw [hk] at hr; cases hr
  | some q =>
    obtain ⟨as, rest⟩ := q
    rw [hk] at hr
    dsimp only at hr
    obtain ⟨pre, rfl, ha, hl⟩ := zv_tk_ok _ _ _ _ _ hk
    rw [List.append_nil] at ha
    split at hr
    · cases hr
    · rename_i hwd
      split at hr
      · obtain ⟨h1, hv, hg⟩ := Option.bind_eq_some_iff.mp hr
        exact zv_one_ok (o := none) cx hf (hC.1 _ _ _ _ hv) ha hl (by omega) hR1 hR2 hi (hgo _ _ _ _ hg)
      · obtain ⟨⟨x, h1⟩, hv, hg⟩ := Option.bind_eq_some_iff.mp hr
        exact zv_one_ok (o := some (zv_i x)) cx hf (hC.2.1 _ _ _ _ _ hv) ha hl (by omega) hR1 hR2 hi (hgo _ _ _ _ hg)
      · obtain ⟨⟨x, h1⟩, hv, hg⟩ := Option.bind_eq_some_iff.mp hr
        exact zv_one_ok (o := some (zv_j x)) cx hf (hC.2.2.1 _ _ _ _ _ hv) ha hl (by omega) hR1 hR2 hi (hgo _ _ _ _ hg)
      · obtain ⟨⟨x, h1⟩, hv, hg⟩ := Option.bind_eq_some_iff.mp hr
        exact zv_one_ok (o := some (zv_r x)) cx hf (hC.2.2.2 _ _ _ _ _ hv) ha hl (by omega) hR1 hR2 hi (hgo _ _ _ _ hg)
theorem zv_iv_ok (cx : zv_CX p l R s args m meth c M D g ba ak adV n0 s0 hE) {oc : zv_C} {d ix : Nat} (hC : zv_HC oc l D g ba ak adV d) (hR1 : d + 9 ≤ R.frames) (hR2 : 60 * (d + 9) ≤ R.locals) (hi : zv_lk M.2.1 pc = some (.invokevirtual ix)) {go : zv_G} (hgo : ∀ pc ls st h, go pc ls st h = some (rv, hE) → zv_ok p l e R s m args below meth c Q M D g ba ak n0 s0 hE pc ls st h) (hr : zv_iv oc go pc ls st h (zv_lk M.2.2.2.2.1 ix) = some (rv, hE)) : zv_ok p l e R s m args below meth c Q M D g ba ak n0 s0 hE pc ls st h := by
  unfold zv_iv at hr
  cases hf : zv_lk M.2.2.2.2.1 ix with
  | none => rw [hf] at hr; cases hr
  | some en =>
    rw [hf] at hr
    dsimp only at hr
    split at hr
    · exact zv_call_ok cx hC hf hR1 hR2 (Or.inl ⟨‹_›, hi⟩) hgo hr
    · cases hr
theorem zv_is_ok (cx : zv_CX p l R s args m meth c M D g ba ak adV n0 s0 hE) {oc : zv_C} {d ix : Nat} (hC : zv_HC oc l D g ba ak adV d) (hR1 : d + 9 ≤ R.frames) (hR2 : 60 * (d + 9) ≤ R.locals) (hR3 : 8 + (nativeFrameWords "java/lang/System" "arraycopy" 5 + 11) ≤ R.locals) (hi : zv_lk M.2.1 pc = some (.invokestatic ix)) {go : zv_G} (hgo : ∀ pc ls st h, go pc ls st h = some (rv, hE) → zv_ok p l e R s m args below meth c Q M D g ba ak n0 s0 hE pc ls st h) (hr : zv_is oc go pc ls st h (zv_lk M.2.2.2.2.1 ix) = some (rv, hE)) : zv_ok p l e R s m args below meth c Q M D g ba ak n0 s0 hE pc ls st h := by
  unfold zv_is at hr
  cases hf : zv_lk M.2.2.2.2.1 ix with
  | none => rw [hf] at hr; cases hr
  | some en =>
    rw [hf] at hr
    dsimp only at hr
    split at hr
    · exact zv_call_ok cx hC hf hR1 hR2 (Or.inr (Or.inl ⟨‹_›, hi⟩)) hgo hr
    · split at hr
      · exact zv_cyS_ok cx ⟨by omega, hR3⟩ hi hf ‹_› hgo hr
      · split at hr
        · exact zv_mx_ok (b := true) cx ⟨by omega, by omega⟩ hi hf ‹_› hgo hr
        · split at hr
          · exact zv_mx_ok (b := false) cx ⟨by omega, by omega⟩ hi hf ‹_› hgo hr
          · cases hr
theorem zv_ip_ok (cx : zv_CX p l R s args m meth c M D g ba ak adV n0 s0 hE) {oc : zv_C} {d ix : Nat} (hC : zv_HC oc l D g ba ak adV d) (hR1 : d + 9 ≤ R.frames) (hR2 : 60 * (d + 9) ≤ R.locals) (hi : zv_lk M.2.1 pc = some (.invokespecial ix)) {go : zv_G} (hgo : ∀ pc ls st h, go pc ls st h = some (rv, hE) → zv_ok p l e R s m args below meth c Q M D g ba ak n0 s0 hE pc ls st h) (hr : zv_ip oc go pc ls st h (zv_lk M.2.2.2.2.1 ix) = some (rv, hE)) : zv_ok p l e R s m args below meth c Q M D g ba ak n0 s0 hE pc ls st h := by
  unfold zv_ip at hr
  cases hf : zv_lk M.2.2.2.2.1 ix with
  | none => rw [hf] at hr; cases hr
  | some en =>
    rw [hf] at hr
    dsimp only at hr
    split at hr
    · exact zv_call_ok cx hC hf hR1 hR2 (Or.inr (Or.inr ⟨‹_›, hi⟩)) hgo hr
    · split at hr
      · exact zv_oi_ok cx ⟨by omega, by omega⟩ hi hf ‹_› hgo hr
      · cases hr
theorem zv_rt_mo {w : Option zv_V} {t : Option FieldType} (hr : zv_rt h w t = some (rv, hE)) : h = hE ∧ w = rv := by
  unfold zv_rt at hr
  split at hr
  all_goals first | (cases hr; done) | (cases hr; exact ⟨rfl, rfl⟩) | (split at hr <;> cases hr; exact ⟨rfl, rfl⟩)
theorem zv_rt_i {x : Int} {t : Option FieldType} {q : Option zv_V × zv_H} (hr : zv_rt h (some (zv_i x)) t = some q) : t = some .int ∨ (t = some .boolean ∧ (x = 0 ∨ x = 1)) ∨ (t = some .char ∧ 0 ≤ x ∧ x ≤ 65535) ∨ (t = some .byte ∧ -128 ≤ x ∧ x ≤ 127) := by
  rcases t with _ | t
  · cases hr
  · cases t with
    | int => exact Or.inl rfl
    | boolean =>
      by_cases z : x = 0 ∨ x = 1
      · exact Or.inr (Or.inl ⟨rfl, z⟩)
      · unfold zv_rt at hr
        simp only [zv_i, if_neg z] at hr
        cases hr
    | char =>
      by_cases z : 0 ≤ x ∧ x ≤ 65535
      · exact Or.inr (Or.inr (Or.inl ⟨rfl, z⟩))
      · unfold zv_rt at hr
        simp only [zv_i, if_neg z] at hr
        cases hr
    | byte =>
      by_cases z : -128 ≤ x ∧ x ≤ 127
      · exact Or.inr (Or.inr (Or.inr ⟨rfl, z⟩))
      · unfold zv_rt at hr
        simp only [zv_i, if_neg z] at hr
        cases hr
    | _ => cases hr
theorem zv_rt_j {x : Int64} {t : Option FieldType} {q : Option zv_V × zv_H} (hr : zv_rt h (some (zv_j x)) t = some q) : t = some .long := by
  rcases t with _ | t
  · cases hr
  · cases t with
    | long => rfl
    | _ => cases hr
theorem zv_rt_r {x : Nat} {t : Option FieldType} {q : Option zv_V × zv_H} (hr : zv_rt h (some (zv_r x)) t = some q) : ∃ C, t = some (.object C) := by
  rcases t with _ | t
  · cases hr
  · cases t with
    | object C => exact ⟨C, rfl⟩
    | _ => cases hr
theorem zv_rt_n {t : Option FieldType} {q : Option zv_V × zv_H} (hr : zv_rt h none t = some q) : t = none := by
  rcases t with _ | t
  · rfl
  · cases t <;> cases hr
theorem zv_op_len {i : Instr} {ls' : zv_Ls} {st' : List zv_V} (hop : zv_op i ls st = some (ls', st')) : ls'.length = ls.length := by
  unfold zv_op at hop
  split at hop
  all_goals try (cases hop; done)
  all_goals try (cases hop; first | rfl | exact zv_s1_len _ _ _ | exact zv_s2_len _ _ _)
  all_goals try (split at hop <;> cases hop; first | rfl | exact zv_s1_len _ _ _ | exact zv_s2_len _ _ _)
  all_goals (split at hop <;> first | (cases hop; done) | (split at hop <;> cases hop; exact zv_s1_len _ _ _))
set_option maxHeartbeats 8000000 in
theorem zv_hp_ok (cx : zv_CX p l R s args m meth c M D g ba ak adV n0 s0 hE) (he : zv_HE p l e R s m args below meth c Q M D g ba ak n0 s0 rv hE) {oc : zv_C} {d : Nat} (hC : zv_HC oc l D g ba ak adV d) (hR1 : d + 9 ≤ R.frames) (hR2 : 60 * (d + 9) ≤ R.locals) (hR3 : 8 + (nativeFrameWords "java/lang/System" "arraycopy" 5 + 11) ≤ R.locals) {i : Instr} (hi : zv_lk M.2.1 pc = some i) {go : zv_G} (hgo : ∀ pc ls st h, go pc ls st h = some (rv, hE) → zv_ok p l e R s m args below meth c Q M D g ba ak n0 s0 hE pc ls st h) (hr : zv_hp oc M go pc ls st h i = some (rv, hE)) : zv_ok p l e R s m args below meth c Q M D g ba ak n0 s0 hE pc ls st h := by
  unfold zv_hp at hr
  split at hr
  · exact zv_goto_ok cx hi hgo hr
  · obtain ⟨tgt, ht, hb⟩ := zv_bc_ok hr
    exact zv_if_ok cx hi hgo ht _ (fun hx => (zv_eq0 hx).symm) hb
  · obtain ⟨tgt, ht, hb⟩ := zv_bn_ok hr
    exact zv_if_ok cx hi hgo ht _ (fun hx => not_congr (zv_eq0 hx).symm) (zv_or_sw hb)
  · obtain ⟨tgt, ht, hb⟩ := zv_bc_ok hr
    exact zv_if_ok cx hi hgo ht _ (fun hx => (zv_lt0 hx).symm) hb
  · obtain ⟨tgt, ht, hb⟩ := zv_bn_ok hr
    exact zv_if_ok cx hi hgo ht _ (fun hx => by rw [zv_ge0 hx]; omega) (zv_or_sw hb)
  · obtain ⟨tgt, ht, hb⟩ := zv_bn_ok hr
    exact zv_if_ok cx hi hgo ht _ (fun hx => by rw [zv_gt0 hx]; omega) (zv_or_sw hb)
  · obtain ⟨tgt, ht, hb⟩ := zv_bc_ok hr
    exact zv_if_ok cx hi hgo ht _ (fun hx => (zv_le0 hx).symm) hb
  · obtain ⟨tgt, ht, hb⟩ := zv_bc_ok hr
    exact zv_icmp_ok cx hi hgo ht _ (fun hx hy => (zv_inj hx hy).symm) hb
  · obtain ⟨tgt, ht, hb⟩ := zv_bn_ok hr
    exact zv_icmp_ok cx hi hgo ht _ (fun hx hy => not_congr (zv_inj hx hy).symm) (zv_or_sw hb)
  · obtain ⟨tgt, ht, hb⟩ := zv_bc_ok hr
    exact zv_icmp_ok cx hi hgo ht _ (fun hx hy => (zv_lt hx hy).symm) hb
  · obtain ⟨tgt, ht, hb⟩ := zv_bn_ok hr
    exact zv_icmp_ok cx hi hgo ht _ (fun hx hy => by rw [zv_le hy hx]; omega) (zv_or_sw hb)
  · obtain ⟨tgt, ht, hb⟩ := zv_bn_ok hr
    exact zv_icmp_ok cx hi hgo ht _ (fun hx hy => by rw [zv_lt hy hx]; omega) (zv_or_sw hb)
  · obtain ⟨tgt, ht, hb⟩ := zv_bc_ok hr
    exact zv_icmp_ok cx hi hgo ht _ (fun hx hy => (zv_le hx hy).symm) hb
  · split at hr
    · cases hr
    · rename_i hxy
      obtain ⟨tgt, ht, hb⟩ := zv_bc_ok hr
      exact zv_acmp_ok cx hxy hi hgo ht _ Iff.rfl hb
  · split at hr
    · cases hr
    · rename_i hxy
      obtain ⟨tgt, ht, hb⟩ := zv_bn_ok hr
      exact zv_acmp_ok cx hxy hi hgo ht _ Iff.rfl (zv_or_sw hb)
  · obtain ⟨tgt, ht, hb⟩ := zv_bc_ok hr
    exact zv_nul_ok cx hi hgo ht hb
  · obtain ⟨tgt, ht, hb⟩ := zv_bn_ok hr
    exact zv_nnl_ok cx hi hgo ht (zv_or_sw hb)
  · split at hr
    · rename_i dflt lo hi' offs x st hlen
      obtain ⟨len, hd1, -⟩ := cx.2.2.2.2.2.2.1 pc _ hi
      rcases zv_tsw_ok _ _ hr with ⟨q1, q2⟩ | ⟨q1, q2, off, q3, q4⟩
      · obtain ⟨tgt, ht, hg⟩ := zv_jp_ok q2
        refine ⟨(hgo _ _ _ _ hg).1, fun H locs cells slots lsR a1 a0 a2 a3 a4 a5 a6 a7 => ?_⟩
        have hx := (zv_fa a2).1
        exact lv_tableOut cx.1.1 cx.1.2.1 hd1 (by rw [zv_toInt hx]; omega) ht ((hgo _ _ _ _ hg).2 H locs cells slots lsR a1 a0 (zv_fa a2).2 a3 a4 a5 a6 a7)
      · obtain ⟨tgt, ht, hg⟩ := zv_jp_ok q4
        refine ⟨(hgo _ _ _ _ hg).1, fun H locs cells slots lsR a1 a0 a2 a3 a4 a5 a6 a7 => ?_⟩
        have hx := (zv_fa a2).1
        exact lv_tableIn cx.1.1 cx.1.2.1 hd1 (by rw [zv_toInt hx]; omega) (by rw [zv_toInt hx]; omega) (off := off) (by rw [zv_toInt hx, ← Array.getElem?_toList]; exact q3) ht ((hgo _ _ _ _ hg).2 H locs cells slots lsR a1 a0 (zv_fa a2).2 a3 a4 a5 a6 a7)
    · cases hr
  · split at hr
    · rename_i dflt ps x st hlen
      obtain ⟨len, hd1, -⟩ := cx.2.2.2.2.2.2.1 pc _ hi
      have q2 := zv_lsw_ok _ hr
      obtain ⟨tgt, ht, hg⟩ := zv_jp_ok q2
      refine ⟨(hgo _ _ _ _ hg).1, fun H locs cells slots lsR a1 a0 a2 a3 a4 a5 a6 a7 => ?_⟩
      have hx := (zv_fa a2).1
      exact lv_lookup cx.1.1 cx.1.2.1 hd1 hlen (by rw [zv_toInt hx]) ht ((hgo _ _ _ _ hg).2 H locs cells slots lsR a1 a0 (zv_fa a2).2 a3 a4 a5 a6 a7)
    · cases hr
  · exact zv_gf_ok cx hi hgo hr
  · exact zv_gs_ok cx hi hgo hr
  · exact zv_pf_ok cx hi hgo hr
  · exact zv_al_ok cx hi hgo hr
  · exact zv_aI_ok cx hi hgo hr
  · exact zv_aB_ok cx hi hgo hr
  · exact zv_aJ_ok cx hi hgo hr
  · exact zv_aR_ok cx hi hgo hr
  · exact zv_wI_ok cx hi hgo hr
  · exact zv_wB_ok cx hi hgo hr
  · exact zv_wJ_ok cx hi hgo hr
  · exact zv_wR_ok cx hi hgo hr
  · exact zv_nw_ok cx hi hgo hr
  · exact zv_nA_ok cx (at' := .int) (ty := .int) (t0 := 0) (cA := g 2) rfl zv_wA_int (by omega) rfl (fun C q => by cases q) (by decide) (fun h q => ⟨_, by rw [zv_el_2 (by rw [q]), q], fun cA => by rw [zv_mk_I]; rfl⟩) hi hgo hr
  · exact zv_nA_ok cx (at' := .boolean) (ty := .boolean) (t0 := 1) (cA := g 3) rfl zv_wA_boolean (by omega) rfl (fun C q => by cases q) (by decide) (fun h q => ⟨_, by rw [zv_el_3 (by rw [q]), q], fun cA => by rw [zv_mk_I]; rfl⟩) hi hgo hr
  · exact zv_nA_ok cx (at' := .byte) (ty := .byte) (t0 := 2) (cA := g 4) rfl zv_wA_byte (by omega) rfl (fun C q => by cases q) (by decide) (fun h q => ⟨_, by rw [zv_el_4 (by rw [q]), q], fun cA => by rw [zv_mk_I]; rfl⟩) hi hgo hr
  · exact zv_nA_ok cx (at' := .long) (ty := .long) (t0 := 3) (cA := g 5) rfl zv_wA_long (by omega) rfl (fun C q => by cases q) (by decide) (fun h q => ⟨_, by rw [zv_el_5 (by rw [q]), q], fun cA => by rw [zv_mk_J]; rfl⟩) hi hgo hr
  · exact zv_an_ok cx hi hgo hr
  · exact zv_ls_ok cx hi hgo hr
  · exact zv_li_ok cx hi hgo hr
  · exact zv_ll_ok cx hi hgo hr
  · exact zv_iv_ok cx hC hR1 hR2 hi hgo hr
  · exact zv_is_ok cx hC hR1 hR2 hR3 hi hgo hr
  · exact zv_ip_ok cx hC hR1 hR2 hi hgo hr
  · obtain ⟨rfl, rfl⟩ := zv_rt_mo hr
    refine ⟨zv_mo.rf _, fun H locs cells slots lsR a1 a0 a2 a3 a4 a5 a6 a7 => ?_⟩
    refine (he H locs lsR pc cells slots a3 a4 a5 a6).1 _ rfl (zv_fa a2).1 ?_ (zv_dg cx hi rfl)
    exact zv_rt_i hr
  · obtain ⟨rfl, rfl⟩ := zv_rt_mo hr
    refine ⟨zv_mo.rf _, fun H locs cells slots lsR a1 a0 a2 a3 a4 a5 a6 a7 => ?_⟩
    exact (he H locs lsR pc cells slots a3 a4 a5 a6).2.1 _ rfl (zv_rt_j hr) (zv_dg cx hi rfl)
  · obtain ⟨rfl, rfl⟩ := zv_rt_mo hr
    refine ⟨zv_mo.rf _, fun H locs cells slots lsR a1 a0 a2 a3 a4 a5 a6 a7 => ?_⟩
    obtain ⟨C, hCC⟩ := zv_rt_r hr
    exact (he H locs lsR pc cells slots a3 a4 a5 a6).2.2.1 _ C rfl hCC (zv_dg cx hi rfl)
  · obtain ⟨rfl, rfl⟩ := zv_rt_mo hr
    refine ⟨zv_mo.rf _, fun H locs cells slots lsR a1 a0 a2 a3 a4 a5 a6 a7 => ?_⟩
    exact (he H locs lsR pc cells slots a3 a4 a5 a6).2.2.2 rfl (zv_rt_n hr) (zv_dg cx hi rfl)
  · cases hr
end ZSND
