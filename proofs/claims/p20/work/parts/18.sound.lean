/-! each instruction of the small machine is the machine's -/
def zv_WH (p : Program) (l : Launch) (e : Env) (R : Room) (s : State) (m : MethodId) (args : Array Value) (below : List Frame) (meth : Method) (c : Code) (Q : State → Prop) (M : zv_M) (D : va_G) (g : Nat → ClassId) (ba : Nat) (ak : Nat → Nat) (n0 s0 : Nat) (pc : Nat) (ls : zv_Ls) (st : List zv_V) (h : zv_H) : Prop :=
  ∀ H locs cells slots lsR, zv_RL ba ak lsR ls → ls.length = M.1.2.2.2.1 → (∀ v ∈ st, zv_vg v) → zv_RH D g ba ak h H → va_S (zv_Ac ba) s.heap H locs → cells + n0 = zv_n h → slots + s0 = zv_s h → zv_SC ba ak s h → W p l e R s m args below meth c H locs cells slots Q (F0 m pc lsR (st.map (zv_cv ba ak)))
def zv_ok (p : Program) (l : Launch) (e : Env) (R : Room) (s : State) (m : MethodId) (args : Array Value) (below : List Frame) (meth : Method) (c : Code) (Q : State → Prop) (M : zv_M) (D : va_G) (g : Nat → ClassId) (ba : Nat) (ak : Nat → Nat) (n0 s0 : Nat) (hE : zv_H) (pc : Nat) (ls : zv_Ls) (st : List zv_V) (h : zv_H) : Prop :=
  zv_mo h hE ∧ zv_WH p l e R s m args below meth c Q M D g ba ak n0 s0 pc ls st h
def zv_CX (p : Program) (l : Launch) (R : Room) (s : State) (args : Array Value) (m : MethodId) (meth : Method) (c : Code) (M : zv_M) (D : va_G) (g : Nat → ClassId) (ba : Nat) (ak adV : Nat → Nat) (n0 s0 : Nat) (hE : zv_H) : Prop :=
  (p.tables.exec = Jvm.exec ∧ c.code = M.1.2.2.1 ∧ c.maxLocals = M.1.2.2.2.1 ∧ s.vm.findClass M.1.1 = some m.cls ∧ (∀ w ∈ zv_tb, w.before args s = true)) ∧
  (va_K D vwCl (zv_tys g) s ∧ zv_NF s ∧ zv_NM s ∧ va_AO "BranchedText$State" s ∧ zv_SS ba ak adV s) ∧
  (M.1.2.1.name = "<init>" → meth.name = "<init>") ∧ s.heap.size = ba + n0 + 1 ∧ zv_n hE ≤ R.cells + n0 ∧ zv_s hE ≤ R.slots + s0 ∧ zv_vM M
section ZSND
variable {p : Program} {l : Launch} {e : Env} {R : Room} {s : State} {m : MethodId} {args : Array Value} {below : List Frame} {meth : Method} {c : Code} {Q : State → Prop} {M : zv_M} {D : va_G} {g : Nat → ClassId} {ba : Nat} {ak adV : Nat → Nat} {n0 s0 : Nat} {rv : Option zv_V} {hE : zv_H}
variable {pc : Nat} {ls : zv_Ls} {st : List zv_V} {h : zv_H}
theorem zv_dg (cx : zv_CX p l R s args m meth c M D g ba ak adV n0 s0 hE) {i : Instr} (hi : zv_lk M.2.1 pc = some i) (hs : zv_sw i = false) : decode M.1.2.2.1 pc = .ok (i, zv_len i) := by
  obtain ⟨len, h1, h2⟩ := cx.2.2.2.2.2.2.1 pc i hi
  rcases h2 with h2 | h2
  · rw [h1, h2]
  · rw [hs] at h2
    cases h2
theorem zv_jp_ok {go : zv_G} {off : Int} {r : Option zv_V × zv_H} (hr : zv_jp go pc off ls st h = some r) : ∃ tgt : Nat, (pc : Int) + off = (tgt : Int) ∧ go tgt ls st h = some r := by
  unfold zv_jp at hr
  split at hr
  · cases hr
  · exact ⟨_, by omega, hr⟩
theorem zv_bc_ok {go : zv_G} {off : Int} {r : Option zv_V × zv_H} {P : Prop} [Decidable P] (hr : zv_bc go pc off ls st h P = some r) : ∃ tgt : Nat, (pc : Int) + off = (tgt : Int) ∧ ((P ∧ go tgt ls st h = some r) ∨ (¬ P ∧ go (pc + 3) ls st h = some r)) := by
  unfold zv_bc at hr
  split at hr
  · cases hr
  · refine ⟨((pc : Int) + off).toNat, by omega, ?_⟩
    split at hr
    · exact Or.inl ⟨‹_›, hr⟩
    · exact Or.inr ⟨‹_›, hr⟩
theorem zv_bn_ok {go : zv_G} {off : Int} {r : Option zv_V × zv_H} {P : Prop} [Decidable P] (hr : zv_bn go pc off ls st h P = some r) : ∃ tgt : Nat, (pc : Int) + off = (tgt : Int) ∧ ((P ∧ go (pc + 3) ls st h = some r) ∨ (¬ P ∧ go tgt ls st h = some r)) := by
  unfold zv_bn at hr
  split at hr
  · cases hr
  · refine ⟨((pc : Int) + off).toNat, by omega, ?_⟩
    split at hr
    · exact Or.inl ⟨‹_›, hr⟩
    · exact Or.inr ⟨‹_›, hr⟩
theorem zv_goto_ok (cx : zv_CX p l R s args m meth c M D g ba ak adV n0 s0 hE) {off : Int} (hi : zv_lk M.2.1 pc = some (.goto off)) {go : zv_G} (hgo : ∀ pc ls st h, go pc ls st h = some (rv, hE) → zv_ok p l e R s m args below meth c Q M D g ba ak n0 s0 hE pc ls st h) (hr : zv_jp go pc off ls st h = some (rv, hE)) : zv_ok p l e R s m args below meth c Q M D g ba ak n0 s0 hE pc ls st h := by
  obtain ⟨tgt, ht, hg⟩ := zv_jp_ok hr
  refine ⟨(hgo _ _ _ _ hg).1, fun H locs cells slots lsR a1 a0 a2 a3 a4 a5 a6 a7 => ?_⟩
  exact lv_goto cx.1.1 cx.1.2.1 (zv_dg cx hi rfl) ht ((hgo _ _ _ _ hg).2 H locs cells slots lsR a1 a0 a2 a3 a4 a5 a6 a7)
/-- a branch: what it takes from the stack, when it jumps -/
theorem zv_two_ok (cx : zv_CX p l R s args m meth c M D g ba ak adV n0 s0 hE) {go : zv_G} (hgo : ∀ pc ls st h, go pc ls st h = some (rv, hE) → zv_ok p l e R s m args below meth c Q M D g ba ak n0 s0 hE pc ls st h) {tgt : Nat} {P : Prop} {pre : List zv_V}
    (hW : ∀ {H : Heap} {locs : List Loc} {cells slots : Nat} {lsR : Array Slot}, (∀ v ∈ pre, zv_vg v) → (P → W p l e R s m args below meth c H locs cells slots Q (F0 m tgt lsR (st.map (zv_cv ba ak)))) → (¬ P → W p l e R s m args below meth c H locs cells slots Q (F0 m (pc + 3) lsR (st.map (zv_cv ba ak)))) → W p l e R s m args below meth c H locs cells slots Q (F0 m pc lsR ((pre ++ st).map (zv_cv ba ak))))
    (hr : (P ∧ go tgt ls st h = some (rv, hE)) ∨ (¬ P ∧ go (pc + 3) ls st h = some (rv, hE))) : zv_ok p l e R s m args below meth c Q M D g ba ak n0 s0 hE pc ls (pre ++ st) h := by
  rcases hr with ⟨hp, hg⟩ | ⟨hp, hg⟩
  · refine ⟨(hgo _ _ _ _ hg).1, fun H locs cells slots lsR a1 a0 a2 a3 a4 a5 a6 a7 => ?_⟩
    exact hW (fun v hv => a2 v (List.mem_append_left _ hv)) (fun _ => (hgo _ _ _ _ hg).2 H locs cells slots lsR a1 a0 (fun v hv => a2 v (List.mem_append_right _ hv)) a3 a4 a5 a6 a7) (fun hn => absurd hp hn)
  · refine ⟨(hgo _ _ _ _ hg).1, fun H locs cells slots lsR a1 a0 a2 a3 a4 a5 a6 a7 => ?_⟩
    exact hW (fun v hv => a2 v (List.mem_append_left _ hv)) (fun hn => absurd hn hp) (fun _ => (hgo _ _ _ _ hg).2 H locs cells slots lsR a1 a0 (fun v hv => a2 v (List.mem_append_right _ hv)) a3 a4 a5 a6 a7)
theorem zv_or_sw {A B : Prop} {P : Prop} (h : (P ∧ A) ∨ (¬ P ∧ B)) : (¬ P ∧ B) ∨ (¬ ¬ P ∧ A) := by
  rcases h with ⟨a, b⟩ | ⟨a, b⟩
  · exact Or.inr ⟨fun q => q a, b⟩
  · exact Or.inl ⟨a, b⟩
/-- the branches on one int -/
theorem zv_if_ok (cx : zv_CX p l R s args m meth c M D g ba ak adV n0 s0 hE) {k : ClassFile.Cond} {off : Int} {x : Int} (hi : zv_lk M.2.1 pc = some (.ifCond k off)) {go : zv_G} (hgo : ∀ pc ls st h, go pc ls st h = some (rv, hE) → zv_ok p l e R s m args below meth c Q M D g ba ak n0 s0 hE pc ls st h) {tgt : Nat} (ht : (pc : Int) + off = (tgt : Int)) (P : Prop)
    (hP : zv_rg x → (P ↔ match k with
      | .eq => Int32.ofInt x = 0
      | .ne => ¬ Int32.ofInt x = 0
      | .lt => Int32.ofInt x < 0
      | .ge => 0 ≤ Int32.ofInt x
      | .gt => 0 < Int32.ofInt x
      | .le => Int32.ofInt x ≤ 0))
    (hr : (P ∧ go tgt ls st h = some (rv, hE)) ∨ (¬ P ∧ go (pc + 3) ls st h = some (rv, hE))) : zv_ok p l e R s m args below meth c Q M D g ba ak n0 s0 hE pc ls (zv_i x :: st) h := by
  refine zv_two_ok (pre := [zv_i x]) cx hgo (fun hv kt kf => ?_) hr
  have hx := hP (hv _ List.mem_cons_self)
  have hdg := zv_dg cx hi rfl
  cases k with
  | eq => exact lv_if_eq cx.1.1 cx.1.2.1 hdg ht (fun q => kt (hx.mpr q)) (fun q => kf (fun z => q (hx.mp z)))
  | ne => exact lv_if_ne cx.1.1 cx.1.2.1 hdg ht (fun q => kt (hx.mpr q)) (fun q => kf (fun z => hx.mp z q))
  | lt => exact lv_if_lt cx.1.1 cx.1.2.1 hdg ht (fun q => kt (hx.mpr q)) (fun q => kf (fun z => q (hx.mp z)))
  | ge => exact lv_if_ge cx.1.1 cx.1.2.1 hdg ht (fun q => kt (hx.mpr q)) (fun q => kf (fun z => q (hx.mp z)))
  | gt => exact lv_if_gt cx.1.1 cx.1.2.1 hdg ht (fun q => kt (hx.mpr q)) (fun q => kf (fun z => q (hx.mp z)))
  | le => exact lv_if_le cx.1.1 cx.1.2.1 hdg ht (fun q => kt (hx.mpr q)) (fun q => kf (fun z => q (hx.mp z)))
theorem zv_icmp_ok (cx : zv_CX p l R s args m meth c M D g ba ak adV n0 s0 hE) {k : ClassFile.Cond} {off : Int} {x y : Int} (hi : zv_lk M.2.1 pc = some (.if_icmp k off)) {go : zv_G} (hgo : ∀ pc ls st h, go pc ls st h = some (rv, hE) → zv_ok p l e R s m args below meth c Q M D g ba ak n0 s0 hE pc ls st h) {tgt : Nat} (ht : (pc : Int) + off = (tgt : Int)) (P : Prop)
    (hP : zv_rg x → zv_rg y → (P ↔ match k with
      | .eq => Int32.ofInt x = Int32.ofInt y
      | .ne => ¬ Int32.ofInt x = Int32.ofInt y
      | .lt => Int32.ofInt x < Int32.ofInt y
      | .ge => Int32.ofInt y ≤ Int32.ofInt x
      | .gt => Int32.ofInt y < Int32.ofInt x
      | .le => Int32.ofInt x ≤ Int32.ofInt y))
    (hr : (P ∧ go tgt ls st h = some (rv, hE)) ∨ (¬ P ∧ go (pc + 3) ls st h = some (rv, hE))) : zv_ok p l e R s m args below meth c Q M D g ba ak n0 s0 hE pc ls (zv_i y :: zv_i x :: st) h := by
  refine zv_two_ok (pre := [zv_i y, zv_i x]) cx hgo (fun hv kt kf => ?_) hr
  have hx := hP (hv _ (List.mem_cons_of_mem _ List.mem_cons_self)) (hv _ List.mem_cons_self)
  have hdg := zv_dg cx hi rfl
  cases k with
  | eq => exact lv_icmp_eq cx.1.1 cx.1.2.1 hdg ht (fun q => kt (hx.mpr q)) (fun q => kf (fun z => q (hx.mp z)))
  | ne => exact lv_icmp_ne cx.1.1 cx.1.2.1 hdg ht (fun q => kt (hx.mpr q)) (fun q => kf (fun z => hx.mp z q))
  | lt => exact lv_icmp_lt cx.1.1 cx.1.2.1 hdg ht (fun q => kt (hx.mpr q)) (fun q => kf (fun z => q (hx.mp z)))
  | ge => exact lv_icmp_ge cx.1.1 cx.1.2.1 hdg ht (fun q => kt (hx.mpr q)) (fun q => kf (fun z => q (hx.mp z)))
  | gt => exact lv_icmp_gt cx.1.1 cx.1.2.1 hdg ht (fun q => kt (hx.mpr q)) (fun q => kf (fun z => q (hx.mp z)))
  | le => exact lv_icmp_le cx.1.1 cx.1.2.1 hdg ht (fun q => kt (hx.mpr q)) (fun q => kf (fun z => q (hx.mp z)))
theorem zv_ad_inj {x y : Nat} (hx : ¬ (1000000 ≤ x ∨ 1000000 ≤ y)) : zv_ad ba ak x = zv_ad ba ak y ↔ x = y := by
  unfold zv_ad
  constructor
  · intro q
    by_cases h1 : x = 0 <;> by_cases h2 : y = 0
    · omega
    · rw [if_pos h1, if_neg h2] at q; cases q
    · rw [if_neg h1, if_pos h2] at q; cases q
    · rw [if_neg h1, if_neg h2, if_pos (by omega), if_pos (by omega)] at q
      have := Option.some.inj q
      omega
  · intro q
    rw [q]
theorem zv_acmp_ok (cx : zv_CX p l R s args m meth c M D g ba ak adV n0 s0 hE) {k : ClassFile.ACond} {off : Int} {x y : Nat} (hxy : ¬ (1000000 ≤ x ∨ 1000000 ≤ y)) (hi : zv_lk M.2.1 pc = some (.if_acmp k off)) {go : zv_G} (hgo : ∀ pc ls st h, go pc ls st h = some (rv, hE) → zv_ok p l e R s m args below meth c Q M D g ba ak n0 s0 hE pc ls st h) {tgt : Nat} (ht : (pc : Int) + off = (tgt : Int)) (P : Prop)
    (hP : P ↔ match k with
      | .eq => x = y
      | .ne => ¬ x = y)
    (hr : (P ∧ go tgt ls st h = some (rv, hE)) ∨ (¬ P ∧ go (pc + 3) ls st h = some (rv, hE))) : zv_ok p l e R s m args below meth c Q M D g ba ak n0 s0 hE pc ls (zv_r y :: zv_r x :: st) h := by
  refine zv_two_ok (pre := [zv_r y, zv_r x]) cx hgo (fun hv kt kf => ?_) hr
  have hdg := zv_dg cx hi rfl
  have hj := zv_ad_inj (ba := ba) (ak := ak) hxy
  cases k with
  | eq => exact lv_acmp_eq cx.1.1 cx.1.2.1 hdg ht (fun q => kt (hP.mpr (hj.mp q))) (fun q => kf (fun z => q (hj.mpr (hP.mp z))))
  | ne => exact lv_acmp_ne cx.1.1 cx.1.2.1 hdg ht (fun q => kt (hP.mpr (fun z => q (hj.mpr z)))) (fun q => kf (fun z => hP.mp z (hj.mp q)))
theorem zv_nul_ok (cx : zv_CX p l R s args m meth c M D g ba ak adV n0 s0 hE) {off : Int} {x : Nat} (hi : zv_lk M.2.1 pc = some (.ifnull off)) {go : zv_G} (hgo : ∀ pc ls st h, go pc ls st h = some (rv, hE) → zv_ok p l e R s m args below meth c Q M D g ba ak n0 s0 hE pc ls st h) {tgt : Nat} (ht : (pc : Int) + off = (tgt : Int))
    (hr : (x = 0 ∧ go tgt ls st h = some (rv, hE)) ∨ (¬ x = 0 ∧ go (pc + 3) ls st h = some (rv, hE))) : zv_ok p l e R s m args below meth c Q M D g ba ak n0 s0 hE pc ls (zv_r x :: st) h := by
  refine zv_two_ok (pre := [zv_r x]) cx hgo (fun hv kt kf => ?_) hr
  have hdg := zv_dg cx hi rfl
  show W p l e R s m args below meth c _ _ _ _ Q (F0 m pc _ (va_rf (zv_ad ba ak x) :: st.map (zv_cv ba ak)))
  unfold zv_ad
  by_cases hx : x = 0
  · rw [if_pos hx]
    exact lv_ifnullN cx.1.1 cx.1.2.1 hdg ht (kt hx)
  · rw [if_neg hx]
    exact lv_ifnull cx.1.1 cx.1.2.1 hdg (kf hx)
theorem zv_nnl_ok (cx : zv_CX p l R s args m meth c M D g ba ak adV n0 s0 hE) {off : Int} {x : Nat} (hi : zv_lk M.2.1 pc = some (.ifnonnull off)) {go : zv_G} (hgo : ∀ pc ls st h, go pc ls st h = some (rv, hE) → zv_ok p l e R s m args below meth c Q M D g ba ak n0 s0 hE pc ls st h) {tgt : Nat} (ht : (pc : Int) + off = (tgt : Int))
    (hr : (¬ x = 0 ∧ go tgt ls st h = some (rv, hE)) ∨ (¬ ¬ x = 0 ∧ go (pc + 3) ls st h = some (rv, hE))) : zv_ok p l e R s m args below meth c Q M D g ba ak n0 s0 hE pc ls (zv_r x :: st) h := by
  refine zv_two_ok (pre := [zv_r x]) cx hgo (fun hv kt kf => ?_) hr
  have hdg := zv_dg cx hi rfl
  show W p l e R s m args below meth c _ _ _ _ Q (F0 m pc _ (va_rf (zv_ad ba ak x) :: st.map (zv_cv ba ak)))
  unfold zv_ad
  by_cases hx : x = 0
  · rw [if_pos hx]
    exact lv_ifnonnullN cx.1.1 cx.1.2.1 hdg (kf (fun q => q hx))
  · rw [if_neg hx]
    exact lv_ifnonnull cx.1.1 cx.1.2.1 hdg ht (kt hx)
theorem zv_tsw_ok {go : zv_G} {x dflt : Int} {r : Option zv_V × zv_H} : ∀ (offs : List Int) (lo : Int), zv_tsw go pc x dflt ls st h lo offs = some r → ((x < lo ∨ lo + offs.length ≤ x) ∧ zv_jp go pc dflt ls st h = some r) ∨ (lo ≤ x ∧ x < lo + offs.length ∧ ∃ off, offs[(x - lo).toNat]? = some off ∧ zv_jp go pc off ls st h = some r)
  | [], lo, hr => by
    refine Or.inl ⟨?_, hr⟩
    simp
    omega
  | o :: t, lo, hr => by
    unfold zv_tsw at hr
    split at hr
    · rename_i q
      refine Or.inr ⟨by omega, by simp; omega, o, ?_, hr⟩
      rw [q, Int.sub_self]
      rfl
    · rename_i q
      rcases zv_tsw_ok t (lo + 1) hr with ⟨a, b⟩ | ⟨a1, a2, off, a3, a4⟩
      · refine Or.inl ⟨?_, b⟩
        simp
        omega
      · refine Or.inr ⟨by omega, by simp; omega, off, ?_, a4⟩
        rw [show (x - lo).toNat = (x - (lo + 1)).toNat + 1 by omega, List.getElem?_cons_succ]
        exact a3
theorem zv_lsw_ok {go : zv_G} {x dflt : Int} {r : Option zv_V × zv_H} : ∀ (ps : List (Int × Int)), zv_lsw go pc x dflt ls st h ps = some r → zv_jp go pc (Op.lookupswitch.offset ps dflt x) ls st h = some r
  | [], hr => hr
  | o :: t, hr => by
    unfold zv_lsw at hr
    split at hr
    · rename_i q
      have : Op.lookupswitch.offset (o :: t) dflt x = o.2 := by
        simp [Op.lookupswitch.offset, q]
      rw [this]
      exact hr
    · rename_i q
      have := zv_lsw_ok t hr
      have e : Op.lookupswitch.offset (o :: t) dflt x = Op.lookupswitch.offset t dflt x := by
        simp [Op.lookupswitch.offset, Ne.symm q]
      rw [e]
      exact this
end ZSND
