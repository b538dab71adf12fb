/-! what a method's table must say; what holds while it runs -/
def zv_sown (i : Nat) : String := if i < 23 then "BranchedText$Reader" else "BranchedTextModel"
def zv_six : List Nat := [80, 98, 133, 145, 147, 149, 150, 152, 154, 131, 123, 168, 170, 172, 174, 176, 178, 180, 182, 184, 186, 188, 190, 320]
def zv_stx : List String := ["start", "join", "not", "gap", "size", "kind", "same", "near", "long", "and", "or", "put", "cut", "wait", "undo", "redo", "go", "name", "withdraw", "restore", "carry", "merge", "prune", "<=>[];"]
def zv_sl : List Nat := zv_txt.map List.length
def zv_sb : List (List Int32) := zv_txt.map fun t => t.map Int32.ofInt
/-- the texts -/
def zv_SS (ba : Nat) (ak adV : Nat → Nat) (U : State) : Prop :=
  vk_S 24 zv_sl zv_sb (fun i => ak (1000000 + i)) (fun i => ak (1000100 + i)) (zv_Ac ba) U U.heap ∧ (∀ i, i < 24 → vk_R (zv_sown i) (zv_six.getD i 0) (zv_stx.getD i "") (ak (1000000 + i)) U) ∧ va_Z "java/lang/String" "COMPACT_STRINGS" "Z" (.int 1) (zv_Ac ba) U U.heap ∧ va_Zq "jdk/internal/util/Preconditions" "SIOOBE_FORMATTER" "Ljava/util/function/BiFunction;" (zv_Ac ba) U U.heap
/-- what holds of a state at a method's start, but for its cells -/
def zv_ST (D : va_G) (g : Nat → ClassId) (ba : Nat) (ak adV : Nat → Nat) (h : zv_H) (U : State) : Prop :=
  va_K D vwCl (zv_tys g) U ∧ zv_NF U ∧ zv_NM U ∧ va_AO "BranchedText$State" U ∧ zv_SS ba ak adV U ∧ zv_SC ba ak U h
/-- which method has a number -/
def zv_inf (id : Nat) : Option (MethodName × (ByteArray × (Nat × Option FieldType))) :=
  if 900 ≤ id then zv_jinf id else (zv_prog id).map fun q => q.2.1.2
def zv_sw (i : Instr) : Bool := match i with
  | .tableswitch _ _ _ _ => true
  | .lookupswitch _ _ => true
  | _ => false
def zv_isI (id : Nat) : Bool := if 900 ≤ id then false else match zv_prog id with
  | some (some _, _) => true
  | _ => false
/-- a call's words -/
def zv_vC (own : String) (ix : Nat) (e : Nat × (Nat × (Nat × Nat))) (y : MethodName) (bytes : ByteArray) (maxL : Nat) (ret : Option FieldType) : Prop :=
  Cond.code y bytes maxL ret ∈ zv_tb ∧ Cond.initialized y.cls ∈ zv_tb ∧ (y.cls ≠ "java/lang/invoke/MethodHandle" ∧ y.cls ≠ "java/lang/invoke/VarHandle") ∧ maxL ≤ 40 ∧
  match e.2.1 with
  | 0 => zv_isI e.1 = true ∧ Cond.methodLink own ix y ∈ zv_tb ∧ Cond.instanceMethod y ∈ zv_tb ∧ Cond.selects y.cls y y ∈ zv_tb ∧ (parseMethodDescriptor y.desc).map (fun d => d.parameters.length + 1) = some e.2.2.1
  | 10 => zv_isI e.1 = true ∧ (∃ host, Cond.methodLinkNest own ix y host ∈ tables_1) ∧ Cond.instanceMethod y ∈ zv_tb ∧ Cond.selects y.cls y y ∈ zv_tb ∧ (parseMethodDescriptor y.desc).map (fun d => d.parameters.length + 1) = some e.2.2.1
  | 1 => zv_isI e.1 = true ∧ Cond.methodLink own ix y ∈ zv_tb ∧ Cond.instanceMethod y ∈ zv_tb ∧ y.name = "<init>" ∧ ret = none ∧ (parseMethodDescriptor y.desc).map (fun d => d.parameters.length + 1) = some e.2.2.1
  | 11 => zv_isI e.1 = true ∧ (∃ host, Cond.methodLinkNest own ix y host ∈ tables_1) ∧ Cond.instanceMethod y ∈ zv_tb ∧ y.name = "<init>" ∧ ret = none ∧ (parseMethodDescriptor y.desc).map (fun d => d.parameters.length + 1) = some e.2.2.1
  | 2 => Cond.methodLink own ix y ∈ zv_tb ∧ Cond.static y ∈ zv_tb ∧ (parseMethodDescriptor y.desc).map (fun d => d.parameters.length) = some e.2.2.1
  | 12 => (∃ host, Cond.methodLinkNest own ix y host ∈ tables_1) ∧ Cond.static y ∈ zv_tb ∧ (parseMethodDescriptor y.desc).map (fun d => d.parameters.length) = some e.2.2.1
  | _ => False
/-- what a method's table says is so -/
def zv_vM (M : zv_M) : Prop :=
  (∀ pc i, zv_lk M.2.1 pc = some i → ∃ len, decode M.1.2.2.1 pc = .ok (i, len) ∧ (len = zv_len i ∨ zv_sw i = true)) ∧
  (∀ ix f, zv_lk M.2.2.2.1 ix = some f → (zv_ft f.1 f.2.1 = 4 ∧ Cond.fieldLink M.1.1 ix "java/lang/String" "coder" "B" ∈ zv_tb) ∨ (zv_ft f.1 f.2.1 = 5 ∧ Cond.fieldLink M.1.1 ix "java/lang/String" "value" "[B" ∈ zv_tb) ∨ ∃ C T N ty, zv_CF f.1 C T N ty ∧ f.2.1 < N ∧ zv_lkf M.1.1 ix C (T f.2.1).2.1 (T f.2.1).2.2.1 ∧
    ∀ pc, zv_lk M.2.1 pc = some (.putfield ix) → (T f.2.1).2.2.2 = true → Cond.fieldLink M.1.1 ix C (T f.2.1).2.1 (T f.2.1).2.2.1 ∈ zv_tb ∧ M.1.2.1.name = "<init>" ∧ C = M.1.1) ∧
  (∀ ix e, zv_lk M.2.2.2.2.1 ix = some e → (e.2.1 = 20 ∧ Cond.methodLink M.1.1 ix Lib.objectInit ∈ zv_tb ∧ Cond.instanceMethod Lib.objectInit ∈ zv_tb ∧ Cond.code Lib.objectInit ⟨#[0xb1]⟩ 1 none ∈ zv_tb) ∨
    (e.2.1 = 21 ∧ Cond.methodLink M.1.1 ix arraycopyName ∈ zv_tb ∧ Cond.native arraycopyName ∈ zv_tb ∧ Cond.static arraycopyName ∈ zv_tb ∧ Cond.initialized "java/lang/System" ∈ zv_tb) ∨
    (e.2.1 = 22 ∧ Cond.methodLink M.1.1 ix Lib.Math.max.name ∈ zv_tb) ∨ (e.2.1 = 23 ∧ Cond.methodLink M.1.1 ix Lib.Math.min.name ∈ zv_tb) ∨
    ∃ y bytes maxL ret, zv_inf e.1 = some (y, (bytes, (maxL, ret))) ∧ zv_vC M.1.1 ix e y bytes maxL ret) ∧
  (∀ ix v, zv_lk M.2.2.2.2.2.2.1 ix = some v → Cond.constantLong M.1.1 ix v ∈ zv_tb) ∧
  (∀ ix k, zv_lk M.2.2.2.2.2.2.2.1 ix = some k → k < 24 ∧ zv_sown k = M.1.1 ∧ zv_six.getD k 0 = ix) ∧
  (∀ ix ci, zv_lk M.2.2.2.2.2.2.2.2 ix = some ci → ∃ C T N ty, zv_CF ci C T N ty ∧ Cond.classLink M.1.1 ix C ∈ zv_tb ∧ Cond.instantiable C N ∈ zv_tb ∧ Cond.initialized C ∈ zv_tb) ∧
  M.1.2.2.2.1 ≤ 40 ∧ (∀ ix v, zv_lk M.2.2.2.2.2.1 ix = some v → v = 1 ∧ Cond.fieldLink M.1.1 ix "java/lang/String" "COMPACT_STRINGS" "Z" ∈ zv_tb)
/-- cells are only made, the script stays -/
def zv_mo (h h' : zv_H) : Prop := zv_n h ≤ zv_n h' ∧ zv_s h ≤ zv_s h' ∧ h'.2.2.2.2 = h.2.2.2.2
theorem zv_mo.rf (h : zv_H) : zv_mo h h := ⟨Nat.le_refl _, Nat.le_refl _, rfl⟩
theorem zv_mo.tr {a b c : zv_H} (h1 : zv_mo a b) (h2 : zv_mo b c) : zv_mo a c := ⟨Nat.le_trans h1.1 h2.1, Nat.le_trans h1.2.1 h2.2.1, h2.2.2.trans h1.2.2⟩
def zv_vs (o : Option zv_V) : Prop := match o with
  | none => True
  | some v => zv_vg v
/-- a method's start and end -/
def zv_Pc (D : va_G) (g : Nat → ClassId) (ba : Nat) (ak adV : Nat → Nat) (as : List zv_V) (h : zv_H) : Array Value → State → Prop := fun v U => v = (as.map (zv_cv ba ak)).toArray ∧ (∀ v ∈ as, zv_vg v) ∧ zv_RH D g ba ak h U.heap ∧ zv_ST D g ba ak adV h U
def zv_Qc (D : va_G) (g : Nat → ClassId) (ba : Nat) (ak : Nat → Nat) (o : Option zv_V) (h1 : zv_H) : Array Value → State → Outcome → State → Prop := fun _ st oc t => oc = .returned (o.map (zv_cv ba ak)) ∧ zv_vs o ∧ zv_RH D g ba ak h1 t.heap ∧ va_F (zv_Ac ba) st t
def zv_rm (d : Nat) (h h1 : zv_H) : Room := { frames := d + 8, cells := zv_n h1 - zv_n h, slots := zv_s h1 - zv_s h, locals := 60 * (d + 8) }
/-- the receiver is there -/
def zv_rcv (h : zv_H) (as : List zv_V) (C : String) : Prop := ∃ r as', as = zv_r r :: as' ∧ ((∃ ci q, zv_ob h r ci ∧ vwCl[ci]? = some q ∧ q.1 = C) ∨ (1000000 ≤ r ∧ r < 1000024 ∧ C = "java/lang/String"))
/-- a call keeps its contract -/
def zv_cal (l : Launch) (D : va_G) (g : Nat → ClassId) (ba : Nat) (ak adV : Nat → Nat) (d id : Nat) (as : List zv_V) (h : zv_H) (o : Option zv_V) (h1 : zv_H) : Prop :=
  zv_mo h h1 ∧ (zv_isI id = true → ∀ y bytes maxL ret, zv_inf id = some (y, (bytes, (maxL, ret))) → zv_rcv h as y.cls) ∧
  ∀ y bytes maxL ret, zv_inf id = some (y, (bytes, (maxL, ret))) → Met l y (Cond.code y bytes maxL ret :: zv_tb) (zv_rm d h h1) (zv_Pc D g ba ak adV as h) (zv_Qc D g ba ak o h1) (zv_n h1 - zv_n h) (zv_s h1 - zv_s h) (zv_Ac ba)
theorem zv_wd_sum (ba : Nat) (ak : Nat → Nat) : ∀ l : List zv_V, ((l.map (zv_cv ba ak)).map fun v => v.category).sum = zv_wd l
  | [] => rfl
  | Sum.inl x :: t => by
    have := zv_wd_sum ba ak t
    rw [List.map_cons, List.map_cons, List.sum_cons, this]
    show 1 + zv_wd t = zv_wd t + 1
    omega
  | Sum.inr (Sum.inl x) :: t => by
    have := zv_wd_sum ba ak t
    rw [List.map_cons, List.map_cons, List.sum_cons, this]
    show 2 + zv_wd t = zv_wd t + 2
    omega
  | Sum.inr (Sum.inr x) :: t => by
    have h1 := zv_wd_sum ba ak t
    have h2 := zv_cat1 ba ak x
    rw [List.map_cons, List.map_cons, List.sum_cons, h1]
    show (va_rf (zv_ad ba ak x)).category + zv_wd t = zv_wd t + 1
    omega
theorem zv_tk_ok : ∀ (n : Nat) (acc st as rest : List zv_V), zv_tk n acc st = some (as, rest) → ∃ pre, st = pre ++ rest ∧ as = pre.reverse ++ acc ∧ pre.length = n
  | 0, acc, st, as, rest, h => by
    cases h
    exact ⟨[], rfl, rfl, rfl⟩
  | n + 1, acc, [], as, rest, h => by cases h
  | n + 1, acc, v :: st, as, rest, h => by
    obtain ⟨pre, h1, h2, h3⟩ := zv_tk_ok n (v :: acc) st as rest h
    exact ⟨v :: pre, by rw [h1]; rfl, by rw [h2]; simp, by simp [h3]⟩
theorem zv_Zq_kept {C n d : String} {A : Nat → Prop} {U : State} {H H1 : Heap} (h : va_Zq C n d A U H) (hq : ∀ a : Nat, a < H.size → ¬ A a → H1[a]? = H[a]?) : va_Zq C n d A U H1 := by
  rcases h with h | ⟨t, h⟩
  · exact Or.inl (h.kept hq)
  · exact Or.inr ⟨t, h.kept hq⟩
theorem zv_Zq_moved {C n d : String} {A : Nat → Prop} {u U : State} {H : Heap} (hvm : u.vm.Alike U.vm) (h : va_Zq C n d A u H) : va_Zq C n d A U H := by
  rcases h with h | ⟨t, h⟩
  · exact Or.inl (h.moved hvm)
  · exact Or.inr ⟨t, h.moved hvm⟩
theorem zv_SS.moved {ba : Nat} {ak adV : Nat → Nat} {s U : State} {H : Heap} {locs : List Loc} (h : zv_SS ba ak adV s) (hS : va_S (zv_Ac ba) s.heap H locs) (hU : U.heap = H) (hW : s.WarmedH U.vm) : zv_SS ba ak adV U := by
  obtain ⟨h1, h2, h3, h4⟩ := h
  refine ⟨?_, fun i hi => (h2 i hi).warm hW, ?_, ?_⟩
  · rw [hU]
    exact (h1.kept hS.2.1).moved hW.alike
  · rw [hU]
    exact (h3.kept hS.2.1).moved hW.alike
  · rw [hU]
    exact zv_Zq_moved hW.alike (zv_Zq_kept h4 hS.2.1)
theorem zv_ST.next {D : va_G} {g : Nat → ClassId} {ba : Nat} {ak adV : Nat → Nat} {h h1 : zv_H} {s U : State} {H : Heap} {locs : List Loc} (q : zv_ST D g ba ak adV h s) (hS : va_S (zv_Ac ba) s.heap H locs) (hU : U.heap = H) (hW : s.WarmedH U.vm) (hsc : zv_SC ba ak s h1) : zv_ST D g ba ak adV h1 U := by
  obtain ⟨q1, q2, q3, q4, q5, -⟩ := q
  refine ⟨va_K.moved hW.alike q1, fun own ix C n d host hw => va_Nw.warmF hW (q2 own ix C n d host hw), fun own ix y host hw => va_Nw.warmM hW (q3 own ix y host hw), va_AO.moved hW.alike q4, q5.moved hS hU hW, ?_⟩
  have hlt := hsc.lt
  obtain ⟨xs, a1, a2, a3, a4⟩ := hsc
  refine ⟨xs, ?_, a2, a3, a4⟩
  rw [hU]
  exact (a1.kept (hS.2.1 _ hlt (by unfold zv_Ac; omega))).moved hW.alike
theorem zv_Pc_blind {D : va_G} {g : Nat → ClassId} {ba : Nat} {ak adV : Nat → Nat} {as : List zv_V} {h : zv_H} : FrameBlind (zv_Pc D g ba ak adV as h) := by
  intro a U gf mk q
  obtain ⟨q1, q2, q3, q4, q5, q6, q7, ⟨q8, q9, q10, q12⟩, q11⟩ := q
  refine ⟨q1, q2, q3, va_K.moved (u := U) (U := U.calling gf mk a) (Vm.Alike.refl U.vm) q4, fun own ix C n d host hw => va_Nw.same rfl rfl (q5 own ix C n d host hw), fun own ix y host hw => va_Nw.same rfl rfl (q6 own ix y host hw), va_AO.moved (u := U) (U := U.calling gf mk a) (Vm.Alike.refl U.vm) q7, ⟨q8.moved (u := U) (U := U.calling gf mk a) (Vm.Alike.refl U.vm), fun i hi => (q9 i hi).same rfl, q10.moved (u := U) (U := U.calling gf mk a) (Vm.Alike.refl U.vm), zv_Zq_moved (u := U) (U := U.calling gf mk a) (Vm.Alike.refl U.vm) q12⟩, ?_⟩
  obtain ⟨xs, a1, a2, a3, a4⟩ := q11
  exact ⟨xs, a1.moved (u := U) (U := U.calling gf mk a) (Vm.Alike.refl U.vm), a2, a3, a4⟩
