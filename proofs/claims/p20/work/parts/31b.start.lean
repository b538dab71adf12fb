def lw_P (b : Addr) (xs : List Int32) (args : Array Value) (s : State) : Prop := args = #[.ref b] ∧ s.IntsAt b xs ∧ xs.length ≤ 3072 ∧ (Jvm.Cond.and given_1 narrow_1).before args s = true
def lw_Q (_ : Array Value) (s : State) (o : Outcome) (t : State) : Prop := o = .returned (some (.int 1)) ∧ Framed s o t [] 600000 7302250
def lw_Z (below : List Frame) (a : Array Value) (s : State) : State → Prop := fun t => ∃ o, t.status = .running ∧ Ended t below o ∧ lw_Q a s o t
/-- the law's own end, with 1 on the stack, nothing written that was there before, its room as the claim has it -/
theorem lw_ret {p : Program} {l : Launch} {e : Env} {s : State} {m : MethodId} {below : List Frame} {meth : Method} {c : Code} {b : Nat} (hx : p.tables.exec = Jvm.exec) (hb : c.code = code) (hr : meth.sig.returnType = ret) (hlocks : meth.locks = false) {pc : Nat} {H : Heap} {ls : Array Slot} (hdg : decode code pc = .ok (.ireturn, 1)) : W p l e room_1 s m #[Value.ref b] below meth c H [] 600000 7302250 (lw_Z below #[Value.ref b] s) (F0 m pc ls [.int 1]) := by
  intro T hT X
  obtain ⟨fs, hret, hrun, hended, hW, hframe⟩ := X.leave (v := some (.int 1)) (hlocks := hlocks) (fun h => by rw [hr] at h; cases h)
  have hmeth' : T.vm.method? m = some meth := X.method'
  refine ⟨T.setFrames fs, ?_, .returned (some (.int 1)), hrun, hended, rfl, ⟨_, rfl⟩, hW, hframe⟩
  jvm_step X.here [X.here.top, hx, hb, hdg, hmeth', hr, ret, narrow_b1]
  (try refine ⟨rfl, ?_⟩); (try refine ⟨rfl, ?_⟩)
  first | (intro acts; rw [hret _ acts rfl rfl rfl]) | rw [hret _ _ rfl rfl rfl]
  exact Steps.refl _
/-- what holds at the law's entry: the machine, the code, the tables' words (any of lw_tbl by 'hts w (by decide +kernel)'), the script of L ints xs at the cell b, what the Statement gives of the start (any of its parts by flat_of_before) -/
def lw_At (p : Program) (s : State) (m : MethodId) (meth : Method) (c : Code) (b L : Nat) (xs : Nat → Int32) : Prop :=
  p.tables.exec = Jvm.exec ∧ c.code = code ∧ meth.sig.returnType = ret ∧ c.maxLocals = 4 ∧ s.vm.findClass R_law = some m.cls ∧ (∀ w ∈ lw_tbl, w.before #[Value.ref b] s = true) ∧ va_X b L xs s s.heap ∧ b < s.heap.size ∧ meth.locks = false ∧ (Jvm.Cond.and given_1 narrow_1).before #[Value.ref b] s = true
theorem zs_zk : zv_chk 99 mcL_law = true := zy_chk_ok (by decide +kernel)
theorem zs_vM : zv_vM mcL_law := zv_vM_of2 zv_vPl_10 (fun _ h => absurd h List.not_mem_nil) zs_zk
def zs_h0 (L : Nat) (X : Nat → Int) : zv_H := ((0, 0), (fun _ _ => 0, (fun _ _ => 0, (fun _ _ => 0, (L, X)))))
theorem zs_start {p : Program} {e : Env} {s : State} {m : MethodId} {below : List Frame} {meth : Method} {c : Code} (l : Launch) {b L : Nat} {xs : Nat → Int32} (hL : L ≤ 3072) (C0 : lw_At p s m meth c b L xs) {d : Nat} (hd : d ≤ 1000) {hE : zv_H} (hn : zv_n hE ≤ 600000) (hs : zv_s hE ≤ 7302250)
    (hr : zv_lim (zv_cs zv_prog d) mcL_law 0 (zv_en [zv_r 2000000] 4) [] (zs_h0 L fun k => (xs k).toInt) = some (some (zv_i 1), hE)) (hall : ∀ id o M, zv_prog id = some (o, M) → zv_vM M ∧ zv_vP o M) :
    W p l e room_1 s m #[Value.ref b] below meth c s.heap [] 0 0 (lw_Z below #[Value.ref b] s) (entryFrame m ([Value.ref b] : List Value).toArray 4) := by
  obtain ⟨hx, hb, hrt, hml, hown, hts, hX, hbl, hlocks, hgv⟩ := id C0
  obtain ⟨ba, hba⟩ : ∃ ba, s.heap.size = ba + 1 := ⟨s.heap.size - 1, by omega⟩
  obtain ⟨D, g, hK⟩ := zs_K hts
  obtain ⟨adK, adV, hSS⟩ := zs_SS (b := b) hts hgv hba
  have cx : zv_CX p l room_1 s #[Value.ref b] m meth c mcL_law D g ba (zs_ak b adK adV) adV 0 0 hE :=
    ⟨⟨hx, hb, hml, hown, fun w hw => hts w (zv_tb_lw hw)⟩, ⟨hK, zs_NF hts, zs_NM hts, zs_AO hts, hSS⟩, fun q => absurd q (by decide +kernel), hba, (by show zv_n hE ≤ 600000 + 0; omega), (by show zv_s hE ≤ 7302250 + 0; omega), zs_vM⟩
  have he : zv_HE p l e room_1 s m #[Value.ref b] below meth c (lw_Z below #[Value.ref b] s) mcL_law D g ba (zs_ak b adK adV) 0 0 (some (zv_i 1)) hE := by
    intro H locs lsR pc cells slots b1 b2 b3 b4
    refine ⟨fun x hx' hrg ht hdg => ?_, fun x hx' _ _ => (by cases hx'), fun r C hx' _ _ => (by cases hx'), fun hx' _ _ => (by cases hx')⟩
    cases hx'
    refine va_forget (fun q hq => ?_) ?_
    · have h2 : ba < q.base := b2.2.2 q hq
      omega
    · refine W.widen (k := 600000) (n := 7302250) (by omega) (by omega) ?_
      exact lw_ret hx hb hrt hlocks hdg
  have haw := zv_aw
  have hok := zv_lim_ok cx he (zv_HC_cs (zv_JOK_ok l D g ba (zs_ak b adK adV) adV) hall d) (by show d + 9 ≤ 2048; omega) (by show 60 * (d + 9) ≤ 84000; omega) (by show _ ≤ 84000; omega) hr
  have hw : zv_wd [zv_r 2000000] ≤ 4 := by decide
  have hll := zv_lg_len ba (zs_ak b adK adV) [zv_r 2000000]
  have hl := lv_entry (([zv_r 2000000] : List zv_V).map (zv_cv ba (zs_ak b adK adV))) (n := 4) (by omega)
  rw [lg_entry_eq]
  refine hok.2 s.heap [] 0 0 _ ⟨by rw [zv_en_len _ _ hw]; exact hl.1, hl.2.1, fun i v hv => ?_⟩ (zv_en_len _ _ hw) (fun v hv => by cases hv) ⟨hba, fun k q h => ?_, fun r k => ?_, by show 0 < 1000000; omega⟩ va_S.rf rfl rfl ⟨xs, hX, ?_, ?_, fun k hk => rfl⟩
  · have := zv_en_ld ba (zs_ak b adK adV) [zv_r 2000000] 4 0 i v hv
    rw [Nat.zero_add] at this
    refine ⟨hl.2.2 _ this.1, ?_⟩
    have e1 := List.mem_singleton.mp this.2
    rw [e1]
    trivial
  · have h' : ([] : va_W)[k]? = some q := h
    cases h'
  · show zv_rg 0
    unfold zv_rg
    omega
  · show b ≤ ba
    omega
  · show L < 2147483648
    omega
