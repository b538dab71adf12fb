/-! 23.sound -/
section
/-! whole methods, by depth -/
section ZSND
variable {p : Program} {l : Launch} {e : Env} {R : Room} {s : State} {m : MethodId} {args : Array Value} {below : List Frame} {meth : Method} {c : Code} {Q : State → Prop} {M : zv_M} {D : va_G} {g : Nat → ClassId} {ba : Nat} {ak adV : Nat → Nat} {n0 s0 : Nat} {rv : Option zv_V} {hE : zv_H}
variable {pc : Nat} {ls : zv_Ls} {st : List zv_V} {h : zv_H}
theorem zv_op_sw {i : Instr} {q : zv_Ls × List zv_V} (hop : zv_op i ls st = some q) : zv_sw i = false := by
  cases hs : zv_sw i with
  | false => rfl
  | true =>
    unfold zv_sw at hs
    split at hs
    · unfold zv_op at hop
      cases hop
    · unfold zv_op at hop
      cases hop
    · cases hs
theorem zv_stp_ok (cx : zv_CX p l R s args m meth c M D g ba ak adV n0 s0 hE) (he : zv_HE p l e R s m args below meth c Q M D g ba ak n0 s0 rv hE) {oc : zv_C} {d : Nat} (hC : zv_HC oc l D g ba ak adV d) (hR1 : d + 9 ≤ R.frames) (hR2 : 60 * (d + 9) ≤ R.locals) (hR3 : 8 + (nativeFrameWords "java/lang/System" "arraycopy" 5 + 11) ≤ R.locals) {go : zv_G} (hgo : ∀ pc ls st h, go pc ls st h = some (rv, hE) → zv_ok p l e R s m args below meth c Q M D g ba ak n0 s0 hE pc ls st h) (hr : zv_stp oc M go pc ls st h = some (rv, hE)) : zv_ok p l e R s m args below meth c Q M D g ba ak n0 s0 hE pc ls st h := by
  unfold zv_stp at hr
  cases hi : zv_lk M.2.1 pc with
  | none => rw [hi] at hr; cases hr
  | some i =>
    rw [hi] at hr
    dsimp only at hr
    cases hop : zv_op i ls st with
    | none =>
      rw [hop] at hr
      exact zv_hp_ok cx he hC hR1 hR2 hR3 hi hgo hr
    | some q =>
      rw [hop] at hr
      obtain ⟨ls', st'⟩ := q
      dsimp only at hr
      refine ⟨(hgo _ _ _ _ hr).1, fun H locs cells slots lsR a1 a0 a2 a3 a4 a5 a6 a7 => ?_⟩
      exact zv_op_ok cx.1.1 cx.1.2.1 hop (zv_dg cx hi (zv_op_sw hop)) (fun lsR' b1 b2 => (hgo _ _ _ _ hr).2 H locs cells slots lsR' b1 ((zv_op_len hop).trans a0) b2 a3 a4 a5 a6 a7) lsR a1 a2
theorem zv_ok_msk (b : List Bool) (hk : zv_ok p l e R s m args below meth c Q M D g ba ak n0 s0 hE pc (zv_msk b ls) st h) : zv_ok p l e R s m args below meth c Q M D g ba ak n0 s0 hE pc ls st h :=
  ⟨hk.1, fun H locs cells slots lsR a1 a0 a2 a3 a4 a5 a6 a7 => hk.2 H locs cells slots lsR (a1.msk b) ((zv_msk_len b ls).trans a0) a2 a3 a4 a5 a6 a7⟩
theorem zv_seg_ok (cx : zv_CX p l R s args m meth c M D g ba ak adV n0 s0 hE) (he : zv_HE p l e R s m args below meth c Q M D g ba ak n0 s0 rv hE) {oc : zv_C} {d : Nat} (hC : zv_HC oc l D g ba ak adV d) (hR1 : d + 9 ≤ R.frames) (hR2 : 60 * (d + 9) ≤ R.locals) (hR3 : 8 + (nativeFrameWords "java/lang/System" "arraycopy" 5 + 11) ≤ R.locals) {kt : zv_G} (hkt : ∀ pc ls st h, kt pc ls st h = some (rv, hE) → zv_ok p l e R s m args below meth c Q M D g ba ak n0 s0 hE pc ls st h) : ∀ (n pc : Nat) (ls : zv_Ls) (st : List zv_V) (h : zv_H), zv_seg oc M kt n pc ls st h = some (rv, hE) → zv_ok p l e R s m args below meth c Q M D g ba ak n0 s0 hE pc ls st h
  | 0, pc, ls, st, h, hr => hkt _ _ _ _ hr
  | n + 1, pc, ls, st, h, hr => by
    unfold zv_seg at hr
    refine zv_stp_ok cx he hC hR1 hR2 hR3 (fun pc1 ls1 st1 h1 hg => ?_) hr
    cases hb : zv_lk M.2.2.1 pc1 with
    | some b =>
      simp only [hb] at hg
      exact zv_ok_msk b (hkt _ _ _ _ hg)
    | none =>
      simp only [hb] at hg
      exact zv_seg_ok cx he hC hR1 hR2 hR3 hkt n pc1 ls1 st1 h1 hg
theorem zv_it_ok (cx : zv_CX p l R s args m meth c M D g ba ak adV n0 s0 hE) (he : zv_HE p l e R s m args below meth c Q M D g ba ak n0 s0 rv hE) {oc : zv_C} {d : Nat} (hC : zv_HC oc l D g ba ak adV d) (hR1 : d + 9 ≤ R.frames) (hR2 : 60 * (d + 9) ≤ R.locals) (hR3 : 8 + (nativeFrameWords "java/lang/System" "arraycopy" 5 + 11) ≤ R.locals) : ∀ (n pc : Nat) (ls : zv_Ls) (st : List zv_V) (h : zv_H), zv_it oc M n pc ls st h = some (rv, hE) → zv_ok p l e R s m args below meth c Q M D g ba ak n0 s0 hE pc ls st h
  | 0, pc, ls, st, h, hr => by cases hr
  | n + 1, pc, ls, st, h, hr => zv_seg_ok cx he hC hR1 hR2 hR3 (zv_it_ok cx he hC hR1 hR2 hR3 n) 400 pc ls st h hr
theorem zv_lim_ok (cx : zv_CX p l R s args m meth c M D g ba ak adV n0 s0 hE) (he : zv_HE p l e R s m args below meth c Q M D g ba ak n0 s0 rv hE) {oc : zv_C} {d : Nat} (hC : zv_HC oc l D g ba ak adV d) (hR1 : d + 9 ≤ R.frames) (hR2 : 60 * (d + 9) ≤ R.locals) (hR3 : 8 + (nativeFrameWords "java/lang/System" "arraycopy" 5 + 11) ≤ R.locals) (hr : zv_lim oc M pc ls st h = some (rv, hE)) : zv_ok p l e R s m args below meth c Q M D g ba ak n0 s0 hE pc ls st h := by
  obtain ⟨n, hn⟩ := (zv_lim_iff _ _ _ _ _ _ _).mp hr
  exact zv_it_ok cx he hC hR1 hR2 hR3 n pc ls st h hn
end ZSND
theorem zv_en_len : ∀ (as : List zv_V) (n : Nat), zv_wd as ≤ n → (zv_en as n).length = n
  | [], n, _ => by simp [zv_en]
  | Sum.inl x :: t, 0, h => by simp [zv_wd] at h
  | Sum.inl x :: t, n + 1, h => by
    have := zv_en_len t n (by simp [zv_wd] at h; omega)
    simp [zv_en, this]
  | Sum.inr (Sum.inr x) :: t, 0, h => by simp [zv_wd] at h
  | Sum.inr (Sum.inr x) :: t, n + 1, h => by
    have := zv_en_len t n (by simp [zv_wd] at h; omega)
    simp [zv_en, this]
  | Sum.inr (Sum.inl x) :: t, 0, h => by simp [zv_wd] at h
  | Sum.inr (Sum.inl x) :: t, 1, h => by simp [zv_wd] at h
  | Sum.inr (Sum.inl x) :: t, n + 2, h => by
    have := zv_en_len t n (by simp [zv_wd] at h; omega)
    simp [zv_en, this]
theorem zv_ld_rep (n i : Nat) : zv_ld (List.replicate n none) i = none := by
  induction n generalizing i with
  | zero => rfl
  | succ n ih =>
    cases i with
    | zero => rfl
    | succ i => exact ih i
theorem zv_en_ld (ba : Nat) (ak : Nat → Nat) : ∀ (as : List zv_V) (n k i : Nat) (v : zv_V), zv_ld (zv_en as n) i = some v → (k + i, zv_cv ba ak v) ∈ lv_args k (as.map (zv_cv ba ak)) ∧ v ∈ as
  | [], n, k, i, v, h => by
    rw [zv_en, zv_ld_rep] at h
    cases h
  | Sum.inl x :: t, 0, k, i, v, h => by simp [zv_en, zv_ld] at h
  | Sum.inl x :: t, n + 1, k, 0, v, h => by
    simp only [zv_en, zv_ld, Option.some.injEq] at h
    subst h
    exact ⟨by simp [lv_args, zv_cv], by simp⟩
  | Sum.inl x :: t, n + 1, k, i + 1, v, h => by
    have := zv_en_ld ba ak t n (k + 1) i v h
    refine ⟨?_, List.mem_cons_of_mem _ this.2⟩
    rw [show k + (i + 1) = k + 1 + i by omega]
    simp only [List.map_cons, lv_args]
    exact List.mem_cons_of_mem _ this.1
  | Sum.inr (Sum.inr x) :: t, 0, k, i, v, h => by simp [zv_en, zv_ld] at h
  | Sum.inr (Sum.inr x) :: t, n + 1, k, 0, v, h => by
    simp only [zv_en, zv_ld, Option.some.injEq] at h
    subst h
    exact ⟨by simp [lv_args, zv_cv], by simp⟩
  | Sum.inr (Sum.inr x) :: t, n + 1, k, i + 1, v, h => by
    have := zv_en_ld ba ak t n (k + 1) i v h
    refine ⟨?_, List.mem_cons_of_mem _ this.2⟩
    rw [show k + (i + 1) = k + 1 + i by omega]
    have hc := zv_cat1 ba ak x
    simp only [List.map_cons, lv_args, zv_cv]
    rw [hc]
    exact List.mem_cons_of_mem _ this.1
  | Sum.inr (Sum.inl x) :: t, 0, k, i, v, h => by simp [zv_en, zv_ld] at h
  | Sum.inr (Sum.inl x) :: t, 1, k, i, v, h => by simp [zv_en, zv_ld] at h
  | Sum.inr (Sum.inl x) :: t, n + 2, k, 0, v, h => by
    simp only [zv_en, zv_ld, Option.some.injEq] at h
    subst h
    exact ⟨by simp [lv_args, zv_cv], by simp⟩
  | Sum.inr (Sum.inl x) :: t, n + 2, k, 1, v, h => by simp [zv_en, zv_ld] at h
  | Sum.inr (Sum.inl x) :: t, n + 2, k, i + 2, v, h => by
    have := zv_en_ld ba ak t n (k + 2) i v h
    refine ⟨?_, List.mem_cons_of_mem _ this.2⟩
    rw [show k + (i + 2) = k + 2 + i by omega]
    simp only [List.map_cons, lv_args, zv_cv]
    exact List.mem_cons_of_mem _ this.1
theorem zv_lg_len (ba : Nat) (ak : Nat → Nat) : ∀ as : List zv_V, (lg_sl (as.map (zv_cv ba ak))).length = zv_wd as
  | [] => rfl
  | Sum.inl x :: t => by
    have := zv_lg_len ba ak t
    unfold lg_sl at this ⊢
    simp only [List.map_cons, List.flatMap_cons, List.length_append, this, zv_wd, zv_cv]
    show 1 + zv_wd t = _
    omega
  | Sum.inr (Sum.inl x) :: t => by
    have := zv_lg_len ba ak t
    unfold lg_sl at this ⊢
    simp only [List.map_cons, List.flatMap_cons, List.length_append, this, zv_wd, zv_cv]
    show 2 + zv_wd t = _
    omega
  | Sum.inr (Sum.inr x) :: t => by
    have := zv_lg_len ba ak t
    have hc := zv_cat1 ba ak x
    unfold lg_sl at this ⊢
    simp only [List.map_cons, List.flatMap_cons, List.length_append, this, zv_wd, zv_cv]
    rw [if_neg (by omega)]
    show 1 + zv_wd t = _
    omega
end
/-! 24.sound -/
section
/-! the contracts of the program's methods, by depth -/
def zv_vP (o : Option Nat) (M : zv_M) : Prop := M.1.1 = M.1.2.1.cls ∧ plainName M.1.2.1.cls = true ∧ ∀ ci, o = some ci → (ci = 10 ∧ M.1.2.1.cls = "java/lang/String") ∨ ∃ q, ¬ ci = 10 ∧ vwCl[ci]? = some q ∧ q.1 = M.1.2.1.cls
theorem zv_aw : nativeFrameWords "java/lang/System" "arraycopy" 5 ≤ 100 := by decide +kernel
theorem zv_nar_bool {x : Int} (hx : x = 0 ∨ x = 1) : narrow .boolean (.int (Int32.ofInt x)) = .int (Int32.ofInt x) := by
  rcases hx with rfl | rfl <;> rfl
theorem zv_nar_byte {x : Int} (hx : -128 ≤ x ∧ x ≤ 127) : narrow .byte (.int (Int32.ofInt x)) = .int (Int32.ofInt x) := by
  have h : (Int32.ofInt x).toInt8.toInt32 = Int32.ofInt x := by
    apply Int32.toInt_inj.mp
    rw [Int8.toInt_toInt32, Int32.toInt_toInt8, zv_toInt (by unfold zv_rg; omega)]
    rw [Int.bmod_def]
    split <;> omega
  show Value.int (Int32.ofInt x).toInt8.toInt32 = _
  rw [h]
theorem zv_nar_char {x : Int} (hx : 0 ≤ x ∧ x ≤ 65535) : narrow .char (.int (Int32.ofInt x)) = .int (Int32.ofInt x) := by
  have hn : (Int32.ofInt x).toUInt32.toNat = x.toNat := by
    have e : (Int32.ofInt x).toUInt32.toNat = (Int32.ofInt x).toBitVec.toNat := rfl
    rw [e, Int32.toBitVec_ofInt, BitVec.toNat_ofInt]
    have : ((2 ^ 32 : Nat) : Int) = 4294967296 := by decide
    omega
  have h0 : (Int32.ofInt x).toUInt32.toUInt16.toUInt32 = (Int32.ofInt x).toUInt32 := by
    apply UInt32.toNat_inj.mp
    rw [UInt16.toNat_toUInt32, UInt32.toNat_toUInt16, hn]
    omega
  have h : (Int32.ofInt x).toUInt32.toUInt16.toUInt32.toInt32 = Int32.ofInt x := by
    rw [h0]
    rfl
  show Value.int (Int32.ofInt x).toUInt32.toUInt16.toUInt32.toInt32 = _
  rw [h]
theorem zv_met_ok {l : Launch} {D : va_G} {g : Nat → ClassId} {ba : Nat} {ak adV : Nat → Nat} {d : Nat} {oc : zv_C} (hC : zv_HC oc l D g ba ak adV d) {M : zv_M} (hV : zv_vM M) {o : Option Nat} (hP : zv_vP o M) {as : List zv_V} (hw : zv_wd as ≤ M.1.2.2.2.1) {h : zv_H} {rv : Option zv_V} {hE : zv_H} (hr : zv_lim oc M 0 (zv_en as M.1.2.2.2.1) [] h = some (rv, hE)) (hmo : zv_mo h hE) :
    Met l M.1.2.1 (Cond.code M.1.2.1 M.1.2.2.1 M.1.2.2.2.1 M.1.2.2.2.2 :: zv_tb) (zv_rm (d + 1) h hE) (zv_Pc D g ba ak adV as h) (zv_Qc D g ba ak rv hE) (zv_n hE - zv_n h) (zv_s hE - zv_s h) (zv_Ac ba) := by
  refine Met.ofW (cc := M.1.2.2.1) (maxL := M.1.2.2.2.1) (ret := M.1.2.2.2.2) hP.2.1 rfl ?_
  intro p e s m args below meth c s₁ B hml hv
  obtain ⟨rfl, hg, hRH, hK, hNF, hNM, hAO, hSS, hSC⟩ := hv
  have hts : ∀ w ∈ zv_tb, w.before (as.map (zv_cv ba ak)).toArray s = true := fun w hw => atoms_spec (ws := Cond.code M.1.2.1 M.1.2.2.1 M.1.2.2.2.1 M.1.2.2.2.2 :: zv_tb) B.pre w (List.mem_cons_of_mem _ hw)
  have hown : s.vm.findClass M.1.1 = some m.cls := by
    rw [hP.1]
    exact findClass_of_methodNamed B.named
  have hlocks := B.notSynchronized
  have hret := B.returns
  have hname : meth.name = M.1.2.1.name := (name_of_methodNamed B.named B.method).1
  have cx : zv_CX p l (headSpec (Cond.code M.1.2.1 M.1.2.2.1 M.1.2.2.2.1 M.1.2.2.2.2 :: zv_tb) (zv_rm (d + 1) h hE)).room s (as.map (zv_cv ba ak)).toArray m meth c M D g ba ak adV (zv_n h) (zv_s h) hE :=
    ⟨⟨B.exec, B.bytes, hml, hown, hts⟩, ⟨hK, hNF, hNM, hAO, hSS⟩, fun q => hname.trans q, hRH.1, by show zv_n hE ≤ zv_n hE - zv_n h + zv_n h; omega, by show zv_s hE ≤ zv_s hE - zv_s h + zv_s h; omega, hV⟩
  have he : zv_HE p l e (headSpec (Cond.code M.1.2.1 M.1.2.2.1 M.1.2.2.2.1 M.1.2.2.2.2 :: zv_tb) (zv_rm (d + 1) h hE)).room s m (as.map (zv_cv ba ak)).toArray below meth c (MQ below (zv_Qc D g ba ak rv hE) (as.map (zv_cv ba ak)).toArray s (zv_n hE - zv_n h) (zv_s hE - zv_s h) (zv_Ac ba)) M D g ba ak (zv_n h) (zv_s h) rv hE := by
    intro H locs lsR pc cells slots b1 b2 b3 b4
    have e1 : zv_n hE - zv_n h = cells := by omega
    have e2 : zv_s hE - zv_s h = slots := by omega
    rw [e1, e2]
    refine ⟨fun x hx hrg ht hdg => ?_, fun x hx ht hdg => ?_, fun r C hx ht hdg => ?_, fun hx ht hdg => ?_⟩
    · subst hx
      rcases ht with ht | ⟨ht, h01⟩ | ⟨ht, h01⟩ | ⟨ht, h01⟩
      · exact W.zret B.exec B.bytes (hret.trans ht) rfl (fun t ht hW => ⟨rfl, hrg, by rw [ht]; exact b1, b2.F ht⟩) b2.2.2 hdg hlocks
      · exact W.zret B.exec B.bytes (hret.trans ht) (zv_nar_bool h01) (fun t ht hW => ⟨rfl, hrg, by rw [ht]; exact b1, b2.F ht⟩) b2.2.2 hdg hlocks
      · exact W.zret B.exec B.bytes (hret.trans ht) (zv_nar_char h01) (fun t ht hW => ⟨rfl, hrg, by rw [ht]; exact b1, b2.F ht⟩) b2.2.2 hdg hlocks
      · exact W.zret B.exec B.bytes (hret.trans ht) (zv_nar_byte h01) (fun t ht hW => ⟨rfl, hrg, by rw [ht]; exact b1, b2.F ht⟩) b2.2.2 hdg hlocks
    · subst hx
      exact W.lret B.exec B.bytes (hret.trans ht) (fun t ht hW => ⟨rfl, trivial, by rw [ht]; exact b1, b2.F ht⟩) b2.2.2 hdg hlocks
    · subst hx
      refine W.aret B.exec B.bytes (hret.trans ht) (Or.inl ⟨C, rfl⟩) ?_ (fun t ht hW => ⟨rfl, trivial, by rw [ht]; exact b1, b2.F ht⟩) b2.2.2 hdg hlocks
      rcases zv_ad_cases ba ak r with ⟨-, q⟩ | ⟨a, q⟩
      · exact Or.inl q
      · exact Or.inr ⟨a, q⟩
    · subst hx
      exact W.vret B.exec B.bytes (hret.trans ht) (fun t ht hW => ⟨rfl, trivial, by rw [ht]; exact b1, b2.F ht⟩) b2.2.2 hdg hlocks
  have haw := zv_aw
  have hok := zv_lim_ok cx he hC (by show d + 9 ≤ d + 1 + 8; omega) (by show 60 * (d + 9) ≤ 60 * (d + 1 + 8); omega) (by show _ ≤ 60 * (d + 1 + 8); omega) hr
  have hll := zv_lg_len ba ak as
  have hl := lv_entry (as.map (zv_cv ba ak)) (n := M.1.2.2.2.1) (by omega)
  rw [lg_entry_eq]
  refine hok.2 s.heap [] 0 0 _ ⟨by rw [hl.1, zv_en_len as _ hw], hl.2.1, fun i v hv => ?_⟩ (zv_en_len as _ hw) (fun v hv => by cases hv) hRH va_S.rf (Nat.zero_add _) (Nat.zero_add _) hSC
  have := zv_en_ld ba ak as M.1.2.2.2.1 0 i v hv
  rw [Nat.zero_add] at this
  exact ⟨hl.2.2 _ this.1, hg v this.2⟩
/-- the JDK's members -/
def zv_JOK (l : Launch) (D : va_G) (g : Nat → ClassId) (ba : Nat) (ak adV : Nat → Nat) : Prop := ∀ d id as h o h1, 900 ≤ id → zv_jd id as h = some (o, h1) → zv_cal l D g ba ak adV (d + 1) id as h o h1
theorem zv_sem_cal {l : Launch} {D : va_G} {g : Nat → ClassId} {ba : Nat} {ak adV : Nat → Nat} (hJ : zv_JOK l D g ba ak adV) (hV : ∀ id o M, zv_prog id = some (o, M) → zv_vM M ∧ zv_vP o M) {d : Nat} (hC : zv_HC (zv_cs zv_prog d) l D g ba ak adV d) {id : Nat} {as : List zv_V} {h : zv_H} {o : Option zv_V} {h1 : zv_H} (hr : zv_sem zv_prog (zv_cs zv_prog d) id as h = some (o, h1)) : zv_cal l D g ba ak adV (d + 1) id as h o h1 := by
  have hmo := zv_mn_sem (zv_HM_cs zv_prog d) hr
  unfold zv_sem at hr
  split at hr
  · exact hJ d id as h o h1 ‹_› hr
  · rename_i hid
    cases hp : zv_prog id with
    | none => rw [hp] at hr; cases hr
    | some q =>
      obtain ⟨oo, M⟩ := q
      rw [hp] at hr
      dsimp only at hr
      split at hr
      · rename_i hq
        obtain ⟨hrc, hwd⟩ := hq
        obtain ⟨hv, hP⟩ := hV id oo M hp
        have hinf : zv_inf id = some M.1.2 := by
          unfold zv_inf
          rw [if_neg hid, hp]
          rfl
        refine ⟨hmo, fun hI y bytes maxL ret e => ?_, fun y bytes maxL ret e => ?_⟩
        · rw [hinf] at e
          have e2 := Option.some.inj e
          have hy : M.1.2.1 = y := congrArg Prod.fst e2
          unfold zv_isI at hI
          rw [if_neg hid, hp] at hI
          cases oo with
          | none => cases hI
          | some ci =>
            unfold zv_rc at hrc
            split at hrc
            · rename_i e3; cases e3
            · rename_i ci' r t e3
              cases e3
              rcases hP.2.2 ci rfl with ⟨h10, hS⟩ | ⟨q, h10, hq1, hq2⟩
              · rw [if_pos h10] at hrc
                exact ⟨r, t, rfl, Or.inr ⟨hrc.1, hrc.2, by rw [← hy]; exact hS⟩⟩
              · rw [if_neg h10] at hrc
                exact ⟨r, t, rfl, Or.inl ⟨ci, q, hrc, hq1, hq2.trans (congrArg MethodName.cls hy)⟩⟩
            · exact hrc.elim
        · rw [hinf] at e
          have e2 := Option.some.inj e
          have := zv_met_ok hC hv hP hwd hr hmo
          have h1 : M.1.2.1 = y := congrArg Prod.fst e2
          have h2 : M.1.2.2.1 = bytes := congrArg (fun z => z.2.1) e2
          have h3 : M.1.2.2.2.1 = maxL := congrArg (fun z => z.2.2.1) e2
          have h4 : M.1.2.2.2.2 = ret := congrArg (fun z => z.2.2.2) e2
          rw [h1, h2, h3, h4] at this
          exact this
      · cases hr
theorem zv_HC_cs {l : Launch} {D : va_G} {g : Nat → ClassId} {ba : Nat} {ak adV : Nat → Nat} (hJ : zv_JOK l D g ba ak adV) (hV : ∀ id o M, zv_prog id = some (o, M) → zv_vM M ∧ zv_vP o M) : ∀ d, zv_HC (zv_cs zv_prog d) l D g ba ak adV d
  | 0 => ⟨fun _ _ _ _ e => (by cases e), fun _ _ _ _ _ e => (by cases e), fun _ _ _ _ _ e => (by cases e), fun _ _ _ _ _ e => (by cases e)⟩
  | d + 1 => ⟨fun _ _ _ _ e => zv_sem_cal hJ hV (zv_HC_cs hJ hV d) (zv_pjV_eq e), fun _ _ _ _ _ e => zv_sem_cal hJ hV (zv_HC_cs hJ hV d) (zv_pjI_eq e), fun _ _ _ _ _ e => zv_sem_cal hJ hV (zv_HC_cs hJ hV d) (zv_pjJ_eq e), fun _ _ _ _ _ e => zv_sem_cal hJ hV (zv_HC_cs hJ hV d) (zv_pjR_eq e)⟩
end
/-! 25.chk -/
section
/-! the tables, checked: the words of this in general -/
theorem zv_lk_mem {α : Type} : ∀ (l : List (Nat × α)) (n : Nat) (a : α), zv_lk l n = some a → (n, a) ∈ l
  | [], n, a, h => by cases h
  | q :: l, n, a, h => by
    unfold zv_lk at h
    cases hb : Nat.beq q.1 n with
    | true =>
      rw [hb] at h
      have e1 : q.1 = n := Nat.eq_of_beq_eq_true hb
      have e2 : q.2 = a := Option.some.inj h
      rw [← e1, ← e2]
      exact List.mem_cons_self
    | false =>
      rw [hb] at h
      exact List.mem_cons_of_mem _ (zv_lk_mem l n a h)
/-- a class's pool says what is so -/
def zv_vPl (own : String) (P : zv_P) : Prop :=
  (∀ q ∈ P.1, (zv_ft q.2.1 q.2.2.1 = 4 ∧ Cond.fieldLink own q.1 "java/lang/String" "coder" "B" ∈ zv_tb) ∨ (zv_ft q.2.1 q.2.2.1 = 5 ∧ Cond.fieldLink own q.1 "java/lang/String" "value" "[B" ∈ zv_tb) ∨ ∃ C T N ty, zv_CF q.2.1 C T N ty ∧ q.2.2.1 < N ∧ (q.2.2.2 = false → Cond.fieldLink own q.1 C (T q.2.2.1).2.1 (T q.2.2.1).2.2.1 ∈ zv_tb) ∧ (q.2.2.2 = true → ∃ host, Cond.fieldLinkNest own q.1 C (T q.2.2.1).2.1 (T q.2.2.1).2.2.1 host ∈ tables_1)) ∧
  (∀ q ∈ P.2.1, (q.2.2.1 = 20 ∧ Cond.methodLink own q.1 Lib.objectInit ∈ zv_tb ∧ Cond.instanceMethod Lib.objectInit ∈ zv_tb ∧ Cond.code Lib.objectInit ⟨#[0xb1]⟩ 1 none ∈ zv_tb) ∨
    (q.2.2.1 = 21 ∧ Cond.methodLink own q.1 arraycopyName ∈ zv_tb ∧ Cond.native arraycopyName ∈ zv_tb ∧ Cond.static arraycopyName ∈ zv_tb ∧ Cond.initialized "java/lang/System" ∈ zv_tb) ∨
    (q.2.2.1 = 22 ∧ Cond.methodLink own q.1 Lib.Math.max.name ∈ zv_tb) ∨ (q.2.2.1 = 23 ∧ Cond.methodLink own q.1 Lib.Math.min.name ∈ zv_tb) ∨
    ∃ y bytes maxL ret, zv_inf q.2.1 = some (y, (bytes, (maxL, ret))) ∧ zv_vC own q.1 q.2 y bytes maxL ret) ∧
  (∀ q ∈ P.2.2.2.1, Cond.constantLong own q.1 q.2 ∈ zv_tb) ∧
  (∀ q ∈ P.2.2.2.2.1, q.2 < 24 ∧ zv_sown q.2 = own ∧ zv_six.getD q.2 0 = q.1) ∧
  (∀ q ∈ P.2.2.2.2.2, ∃ C T N ty, zv_CF q.2 C T N ty ∧ Cond.classLink own q.1 C ∈ zv_tb ∧ Cond.instantiable C N ∈ zv_tb ∧ Cond.initialized C ∈ zv_tb) ∧
  (∀ q ∈ P.2.2.1, q.2 = 1 ∧ Cond.fieldLink own q.1 "java/lang/String" "COMPACT_STRINGS" "Z" ∈ zv_tb)
def zv_fin (ci k : Nat) : Bool := match vwCl[ci]? with
  | some q => (q.2.1 k).2.2.2
  | none => true
def zv_chk (ci : Nat) (M : zv_M) : Bool :=
  (M.2.1.all fun q => match decode M.1.2.2.1 q.1 with
    | .ok (i, len) => decide (i = q.2) && (Nat.beq len (zv_len i) || zv_sw i)
    | .error _ => false) &&
  (M.2.1.all fun q => match q.2 with
    | .putfield ix => match zv_lk M.2.2.2.1 ix with
      | some f => !(zv_fin f.1 f.2.1) || (decide (M.1.2.1.name = "<init>") && (Nat.beq f.1 ci && !f.2.2))
      | none => true
    | _ => true) && Nat.ble M.1.2.2.2.1 40
theorem zv_vM_of {ci : Nat} {M : zv_M} {q : vw_C} (hq : vwCl[ci]? = some q) (hown : q.1 = M.1.1) (hpl : zv_vPl M.1.1 M.2.2.2) (hc : zv_chk ci M = true) : zv_vM M := by
  unfold zv_chk at hc
  simp only [Bool.and_eq_true] at hc
  obtain ⟨⟨h1, h2⟩, h3⟩ := hc
  obtain ⟨p1, p2, p3, p4, p5, p6⟩ := hpl
  refine ⟨fun pc i hi => ?_, fun ix f hf => ?_, fun ix e he => p2 _ (zv_lk_mem _ _ _ he), fun ix v hv => p3 _ (zv_lk_mem _ _ _ hv), fun ix k hk => p4 _ (zv_lk_mem _ _ _ hk), fun ix k hk => p5 _ (zv_lk_mem _ _ _ hk), Nat.le_of_ble_eq_true h3, fun ix v hv => p6 _ (zv_lk_mem _ _ _ hv)⟩
  · have := List.all_eq_true.mp h1 _ (zv_lk_mem _ _ _ hi)
    dsimp only at this
    split at this
    · rename_i i' len hd
      simp only [Bool.and_eq_true, Bool.or_eq_true, decide_eq_true_eq] at this
      refine ⟨len, by rw [hd, this.1], ?_⟩
      rw [← this.1]
      rcases this.2 with z | z
      · exact Or.inl (Nat.eq_of_beq_eq_true z)
      · exact Or.inr z
    · cases this
  · rcases p1 _ (zv_lk_mem _ _ _ hf) with z | z | ⟨C, T, N, ty, a1, a2, a3, a4⟩
    · exact Or.inl z
    · exact Or.inr (Or.inl z)
    refine Or.inr (Or.inr ⟨C, T, N, ty, a1, a2, ?_, fun pc hpc hfin => ?_⟩)
    · cases hb : f.2.2 with
      | false => exact Or.inl (a3 hb)
      | true => exact Or.inr (a4 hb)
    · have := List.all_eq_true.mp h2 _ (zv_lk_mem _ _ _ hpc)
      dsimp only at this
      rw [hf] at this
      dsimp only at this
      have hz : zv_fin f.1 f.2.1 = true := by
        unfold zv_fin
        rw [a1.1]
        exact hfin
      rw [hz] at this
      simp only [Bool.not_true, Bool.false_or, Bool.and_eq_true, decide_eq_true_eq, Bool.not_eq_true'] at this
      obtain ⟨b1, b2, b3⟩ := this
      refine ⟨a3 b3, b1, ?_⟩
      have e1 : f.1 = ci := Nat.eq_of_beq_eq_true b2
      have e2 := a1.1
      rw [e1] at e2
      have e3 := Option.some.inj (hq.symm.trans e2)
      rw [← hown, e3]
theorem zv_vM_of2 {M : zv_M} (hpl : zv_vPl M.1.1 M.2.2.2) (hf : ∀ q ∈ M.2.2.2.1, (zv_ft q.2.1 q.2.2.1 = 4 ∨ zv_ft q.2.1 q.2.2.1 = 5)) (hc : zv_chk 99 M = true) : zv_vM M := by
  unfold zv_chk at hc
  simp only [Bool.and_eq_true] at hc
  obtain ⟨⟨h1, h2⟩, h3⟩ := hc
  obtain ⟨p1, p2, p3, p4, p5, p6⟩ := hpl
  refine ⟨fun pc i hi => ?_, fun ix f hq => ?_, fun ix e he => p2 _ (zv_lk_mem _ _ _ he), fun ix v hv => p3 _ (zv_lk_mem _ _ _ hv), fun ix k hk => p4 _ (zv_lk_mem _ _ _ hk), fun ix k hk => p5 _ (zv_lk_mem _ _ _ hk), Nat.le_of_ble_eq_true h3, fun ix v hv => p6 _ (zv_lk_mem _ _ _ hv)⟩
  · have := List.all_eq_true.mp h1 _ (zv_lk_mem _ _ _ hi)
    dsimp only at this
    split at this
    · rename_i i' len hd
      simp only [Bool.and_eq_true, Bool.or_eq_true, decide_eq_true_eq] at this
      refine ⟨len, by rw [hd, this.1], ?_⟩
      rw [← this.1]
      rcases this.2 with z | z
      · exact Or.inl (Nat.eq_of_beq_eq_true z)
      · exact Or.inr z
    · cases this
  · rcases p1 _ (zv_lk_mem _ _ _ hq) with z | z | ⟨C, T, N, ty, a1, a2, a3, a4⟩
    · exact Or.inl z
    · exact Or.inr (Or.inl z)
    · exfalso
      have htk := a1.2.2.2.2.2.2 _ a2
      rcases hf _ (zv_lk_mem _ _ _ hq) with z | z <;> rw [z] at htk <;> exact htk.elim
end
/-! 26.cf -/
section
def zv_tykb (n : Nat) (t : FieldType) : Bool := match n, t with
  | 0, .int => true
  | 1, .boolean => true
  | 2, .long => true
  | 3, .object _ => true
  | 3, .array _ => true
  | _, _ => false
theorem zv_tykb_ok {n : Nat} {t : FieldType} (h : zv_tykb n t = true) : zv_tyk n t := by
  unfold zv_tykb at h
  split at h
  · rfl
  · rfl
  · rfl
  · exact Or.inl ⟨_, rfl⟩
  · exact Or.inr ⟨_, rfl⟩
  · cases h
/-- what is so of a callee, whoever calls it -/
def zv_vD (y : MethodName) (bytes : ByteArray) (maxL : Nat) (ret : Option FieldType) : Prop := Cond.code y bytes maxL ret ∈ zv_tb ∧ Cond.initialized y.cls ∈ zv_tb ∧ (y.cls ≠ "java/lang/invoke/MethodHandle" ∧ y.cls ≠ "java/lang/invoke/VarHandle") ∧ maxL ≤ 40
theorem zv_CF_0 : zv_CF 0 RX0 TX0 14 tyX0 := ⟨rfl, (by decide +kernel), fun w hw => List.mem_filter.mpr ⟨inX0 w hw, (by
  have h : (wsX00).all goodWord = true := by decide +kernel
  exact List.all_eq_true.mp h w hw)⟩, tyX0_ok, nmX0, (by decide +kernel), fun k hk => (by
  have h : ∀ k, k < 14 → zv_tykb (zv_ft 0 k) (tyX0 k) = true := by decide +kernel
  exact zv_tykb_ok (h k hk))⟩
theorem zv_CF_1 : zv_CF 1 RX1 TX1 4 tyX1 := ⟨rfl, (by decide +kernel), fun w hw => List.mem_filter.mpr ⟨inX1 w hw, (by
  have h : (wsX10).all goodWord = true := by decide +kernel
  exact List.all_eq_true.mp h w hw)⟩, tyX1_ok, nmX1, (by decide +kernel), fun k hk => (by
  have h : ∀ k, k < 4 → zv_tykb (zv_ft 1 k) (tyX1 k) = true := by decide +kernel
  exact zv_tykb_ok (h k hk))⟩
theorem zv_CF_2 : zv_CF 2 RX2 TX2 3 tyX2 := ⟨rfl, (by decide +kernel), fun w hw => List.mem_filter.mpr ⟨inX2 w hw, (by
  have h : (wsX20).all goodWord = true := by decide +kernel
  exact List.all_eq_true.mp h w hw)⟩, tyX2_ok, nmX2, (by decide +kernel), fun k hk => (by
  have h : ∀ k, k < 3 → zv_tykb (zv_ft 2 k) (tyX2 k) = true := by decide +kernel
  exact zv_tykb_ok (h k hk))⟩
theorem zv_CF_3 : zv_CF 3 RX3 TX3 13 tyX3 := ⟨rfl, (by decide +kernel), fun w hw => List.mem_filter.mpr ⟨inX3 w hw, (by
  have h : (wsX30).all goodWord = true := by decide +kernel
  exact List.all_eq_true.mp h w hw)⟩, tyX3_ok, nmX3, (by decide +kernel), fun k hk => (by
  have h : ∀ k, k < 13 → zv_tykb (zv_ft 3 k) (tyX3 k) = true := by decide +kernel
  exact zv_tykb_ok (h k hk))⟩
theorem zv_CF_4 : zv_CF 4 RX4 TX4 10 tyX4 := ⟨rfl, (by decide +kernel), fun w hw => List.mem_filter.mpr ⟨inX4 w hw, (by
  have h : (wsX40).all goodWord = true := by decide +kernel
  exact List.all_eq_true.mp h w hw)⟩, tyX4_ok, nmX4, (by decide +kernel), fun k hk => (by
  have h : ∀ k, k < 10 → zv_tykb (zv_ft 4 k) (tyX4 k) = true := by decide +kernel
  exact zv_tykb_ok (h k hk))⟩
theorem zv_CF_5 : zv_CF 5 RX5 TX5 18 tyX5 := ⟨rfl, (by decide +kernel), fun w hw => List.mem_filter.mpr ⟨inX5 w hw, (by
  have h : (wsX50).all goodWord = true := by decide +kernel
  exact List.all_eq_true.mp h w hw)⟩, tyX5_ok, nmX5, (by decide +kernel), fun k hk => (by
  have h : ∀ k, k < 18 → zv_tykb (zv_ft 5 k) (tyX5 k) = true := by decide +kernel
  exact zv_tykb_ok (h k hk))⟩
theorem zv_CF_6 : zv_CF 6 RX6 TX6 6 tyX6 := ⟨rfl, (by decide +kernel), fun w hw => List.mem_filter.mpr ⟨inX6 w hw, (by
  have h : (wsX60).all goodWord = true := by decide +kernel
  exact List.all_eq_true.mp h w hw)⟩, tyX6_ok, nmX6, (by decide +kernel), fun k hk => (by
  have h : ∀ k, k < 6 → zv_tykb (zv_ft 6 k) (tyX6 k) = true := by decide +kernel
  exact zv_tykb_ok (h k hk))⟩
theorem zv_CF_7 : zv_CF 7 RX7 TX7 2 tyX7 := ⟨rfl, (by decide +kernel), fun w hw => List.mem_filter.mpr ⟨inX7 w hw, (by
  have h : (wsX70).all goodWord = true := by decide +kernel
  exact List.all_eq_true.mp h w hw)⟩, tyX7_ok, nmX7, (by decide +kernel), fun k hk => (by
  have h : ∀ k, k < 2 → zv_tykb (zv_ft 7 k) (tyX7 k) = true := by decide +kernel
  exact zv_tykb_ok (h k hk))⟩
theorem zv_CF_8 : zv_CF 8 RX8 TX8 8 tyX8 := ⟨rfl, (by decide +kernel), fun w hw => List.mem_filter.mpr ⟨inX8 w hw, (by
  have h : (wsX80).all goodWord = true := by decide +kernel
  exact List.all_eq_true.mp h w hw)⟩, tyX8_ok, nmX8, (by decide +kernel), fun k hk => (by
  have h : ∀ k, k < 8 → zv_tykb (zv_ft 8 k) (tyX8 k) = true := by decide +kernel
  exact zv_tykb_ok (h k hk))⟩
theorem zv_CF_9 : zv_CF 9 RX9 TX9 48 tyX9 := ⟨rfl, (by decide +kernel), fun w hw => List.mem_filter.mpr ⟨inX9 w hw, (by
  have h : (wsX90).all goodWord = true := by decide +kernel
  exact List.all_eq_true.mp h w hw)⟩, tyX9_ok, nmX9, (by decide +kernel), fun k hk => (by
  have h : ∀ k, k < 48 → zv_tykb (zv_ft 9 k) (tyX9 k) = true := by decide +kernel
  exact zv_tykb_ok (h k hk))⟩
end
