/-! calls -/
section ZSND
variable {p : Program} {l : Launch} {e : Env} {R : Room} {s : State} {m : MethodId} {args : Array Value} {below : List Frame} {meth : Method} {c : Code} {Q : State → Prop} {M : zv_M} {D : va_G} {g : Nat → ClassId} {ba : Nat} {ak adV : Nat → Nat} {n0 s0 : Nat} {rv : Option zv_V} {hE : zv_H}
variable {pc : Nat} {ls : zv_Ls} {st : List zv_V} {h : zv_H}
/-- behind a call -/
theorem zv_callk {H : Heap} {locs : List Loc} {cells slots mc ms : Nat} {lsR : Array Slot} {st0 rest : List Value} {a : Array Value} {o : Option zv_V} {h1 : zv_H} (hr : va_Run p l e R s m args below meth c H locs cells slots mc ms (F0 m pc lsR st0) rest (zv_Qc D g ba ak o h1 a) (zv_Ac ba)) (hS : va_S (zv_Ac ba) s.heap H locs)
    (kk : ∀ H1 locs1, zv_vs o → zv_RH D g ba ak h1 H1 → va_S (zv_Ac ba) s.heap H1 locs1 → W p l e R s m args below meth c H1 locs1 (cells + mc) (slots + ms) Q (F0 m (pc + 3) lsR ((o.map (zv_cv ba ak)).toList ++ rest))) : W p l e R s m args below meth c H locs cells slots Q (F0 m pc lsR st0) := by
  intro T hT X
  obtain ⟨v, st₀, t, T', L, h0, X', hL, e1, e2, ⟨hv, hvs, hRH, hz, hk⟩, stp⟩ := hr T hT X
  cases hv
  rw [h0] at hz hk
  obtain ⟨t2, a1, b1⟩ := kk T'.heap (locs ++ L) hvs (by rw [e1]; exact hRH)
    ⟨Nat.le_trans hS.1 (by rw [e1]; exact hz), fun q h1 h2 => by rw [e1, hk q (Nat.lt_of_lt_of_le h1 hS.1) h2]; exact hS.2.1 q h1 h2, fun q hq => by
      rcases List.mem_append.mp hq with h | h
      · exact hS.2.2 q h
      · exact hL q h⟩ T' rfl X'
  exact ⟨t2, stp t2 a1, b1⟩
theorem zv_ctx_ws {args : Array Value} {own : String} {ix : Nat} {en : Nat × (Nat × (Nat × Nat))} {y : MethodName} {bytes : ByteArray} {maxL : Nat} {ret : Option FieldType} (hv : zv_vC own ix en y bytes maxL ret) : ∀ w ∈ Cond.code y bytes maxL ret :: zv_tb, w ∈ zv_tb := fun w hw => by
  rcases List.mem_cons.mp hw with q | q
  · rw [q]; exact hv.1
  · exact q
/-- what the machine needs of a call, out of its contract -/
theorem zv_run_ok (cx : zv_CX p l R s args m meth c M D g ba ak adV n0 s0 hE) {d ix : Nat} {en : Nat × (Nat × (Nat × Nat))} {y : MethodName} {bytes : ByteArray} {maxL : Nat} {ret : Option FieldType} (hv : zv_vC M.1.1 ix en y bytes maxL ret) (hinf : zv_inf en.1 = some (y, (bytes, (maxL, ret)))) {as pre rest : List zv_V} {o : Option zv_V} {h1 : zv_H} (hcal : zv_cal l D g ba ak adV d en.1 as h o h1) (has : as = pre.reverse) (hlen : pre.length = en.2.2.1) (hwd : zv_wd rest ≤ 8) (hR1 : d + 9 ≤ R.frames) (hR2 : 60 * (d + 9) ≤ R.locals)
    (hi : (en.2.1 = 0 ∨ en.2.1 = 10) ∧ zv_lk M.2.1 pc = some (.invokevirtual ix) ∨ (en.2.1 = 2 ∨ en.2.1 = 12) ∧ zv_lk M.2.1 pc = some (.invokestatic ix) ∨ (en.2.1 = 1 ∨ en.2.1 = 11) ∧ zv_lk M.2.1 pc = some (.invokespecial ix))
    {H : Heap} {locs : List Loc} {cells slots : Nat} {lsR : Array Slot} (a1 : zv_RL ba ak lsR ls) (a0 : ls.length = M.1.2.2.2.1) (a2 : ∀ v ∈ pre ++ rest, zv_vg v) (a3 : zv_RH D g ba ak h H) (a4 : va_S (zv_Ac ba) s.heap H locs) (a7 : zv_SC ba ak s h) (hc1 : cells + (zv_n h1 - zv_n h) ≤ R.cells) (hc2 : slots + (zv_s h1 - zv_s h) ≤ R.slots) :
    ∃ av : Array Value, va_Run p l e R s m args below meth c H locs cells slots (zv_n h1 - zv_n h) (zv_s h1 - zv_s h) (F0 m pc lsR ((pre ++ rest).map (zv_cv ba ak))) (rest.map (zv_cv ba ak)) (zv_Qc D g ba ak o h1 av) (zv_Ac ba) := by
  obtain ⟨hmo, hrcv, hMet⟩ := hcal
  have hM := hMet y bytes maxL ret hinf
  have hts := cx.1.2.2.2.2
  have hG := zv_tb_good (zv_ctx_ws (args := args) hv)
  have hmlR : c.maxLocals = lsR.size := by
    have := a1.1
    have := cx.1.2.2.1
    omega
  have hfix : CallFix p m c M.1.2.2.1 lsR.size s args zv_tb M.1.1 := ⟨cx.1.1, cx.1.2.1, hmlR, cx.1.2.2.2.1, hts⟩
  have hPc : ∀ U : State, U.heap = H → s.WarmedH U.vm → zv_Pc D g ba ak adV as h (as.map (zv_cv ba ak)).toArray U := by
    intro U hU hW
    refine ⟨rfl, fun v hvm => a2 v (List.mem_append_left _ (by rw [has] at hvm; exact List.mem_reverse.mp hvm)), by rw [hU]; exact a3, ?_⟩
    exact zv_ST.next (h := h) ⟨cx.2.1.1, cx.2.1.2.1, cx.2.1.2.2.1, cx.2.1.2.2.2.1, cx.2.1.2.2.2.2, a7⟩ a4 hU hW a7
  have hsum := zv_wd_sum ba ak rest
  have hw8 : 2 * (F0 m pc lsR ((pre ++ rest).map (zv_cv ba ak))).monitorRoom + ((rest.map (zv_cv ba ak)).map fun v => v.category).sum ≤ 8 := lv_room (by omega)
  have hRR : (zv_rm d h h1).frames + 1 ≤ R.frames ∧ 8 + (maxL + 11) + (zv_rm d h h1).locals ≤ R.locals := by
    have := hv.2.2.2.1
    unfold zv_rm
    dsimp only
    omega
  have hinit := hts _ hv.2.1
  have hmh := hv.2.2.1
  have hkind := hv.2.2.2.2
  have hst : (pre ++ rest).map (zv_cv ba ak) = (as.map (zv_cv ba ak)).reverse ++ rest.map (zv_cv ba ak) := by
    rw [List.map_append, has, ← List.map_reverse, List.reverse_reverse]
  -- the receiver, where there is one
  have hinst : zv_isI en.1 = true → ∃ (b : Addr) (As : List Value), (as.map (zv_cv ba ak)) = .ref b :: As ∧ As.length + 1 = en.2.2.1 ∧ ∃ cellB : Cell, H[b]? = some cellB ∧ cellB.vm.isStatics = false ∧ s.vm.findClass y.cls = some cellB.cls := by
    intro hI
    obtain ⟨r, as', ha, hk⟩ := hrcv hI y bytes maxL ret hinf
    have hl2 : as'.length + 1 = en.2.2.1 := by
      have : as.length = en.2.2.1 := by rw [has, List.length_reverse, hlen]
      rw [ha] at this
      simpa using this
    rcases hk with ⟨ci, q, hob, hcl, hn⟩ | ⟨k1, k2, hn⟩
    · have hp := zv_lay_pos hob.2
      refine ⟨ba + r, as'.map (zv_cv ba ak), ?_, by simpa using hl2, ?_⟩
      · rw [ha, List.map_cons]
        show va_rf (zv_ad ba ak r) :: _ = _
        rw [zv_ad_in hp hob.1 a3.2.2.2]
      · rw [← hn]
        exact va_recv cx.2.1.1 a3.2.1 hcl (q0 := r - 1) (by rw [zv_ws_at hp hob.1, zv_el_obj hob.2])
    · obtain ⟨k, hk⟩ := Nat.exists_eq_add_of_le k1
      subst hk
      refine ⟨ak (1000000 + k), as'.map (zv_cv ba ak), ?_, by simpa using hl2, ?_⟩
      · rw [ha, List.map_cons]
        show va_rf (zv_ad ba ak (1000000 + k)) :: _ = _
        rw [zv_ad_t]
      · rw [hn]
        exact vk_recv (adK := fun i => ak (1000000 + i)) (i := k) cx.2.1.2.2.2.2.1 (by omega) a4
  have hdgv : ∀ i, zv_lk M.2.1 pc = some i → zv_sw i = false → decode M.1.2.2.1 pc = .ok (i, zv_len i) := fun i hi hs => zv_dg cx hi hs
  rcases hi with ⟨hk, hi⟩ | ⟨hk, hi⟩ | ⟨hk, hi⟩
  · have hdg := hdgv _ hi rfl
    rcases hk with hk | hk <;> rw [hk] at hkind
    · obtain ⟨k0, k1, k2, k3, k4⟩ := hkind
      obtain ⟨b, As, hA, hAl, hcell⟩ := hinst k0
      rw [hA] at hPc hst
      rw [hst]
      have hn : (parseMethodDescriptor y.desc).map (fun d => d.parameters.length) = some As.length := by
        cases hpd : parseMethodDescriptor y.desc with
        | none => rw [hpd] at k4; cases k4
        | some dd =>
          rw [hpd] at k4
          simp only [Option.map_some, Option.some.injEq] at k4 ⊢
          omega
      exact ⟨_, va_runV (As := As) (b := b) (n := As.length) hfix hM (cwV As.length hts (zv_tb_good (fun w hw => by
        simp only [wsV, List.mem_append, List.mem_cons, List.not_mem_nil, or_false] at hw
        rcases hw with (rfl | rfl | rfl | rfl) | rfl | hw
        · exact k1
        · exact k2
        · exact k3
        · exact hv.2.1
        · exact hv.1
        · exact hw)) rfl rfl rfl ⟨rfl, hmh.1, hmh.2, hn⟩ hRR) ⟨zv_Pc_blind, hcell, hPc⟩ rfl rfl rfl (by simp) hw8 hdg ⟨hc1, hc2⟩⟩
    · obtain ⟨k0, ⟨host, k1⟩, k2, k3, k4⟩ := hkind
      obtain ⟨b, As, hA, hAl, hcell⟩ := hinst k0
      rw [hA] at hPc hst
      rw [hst]
      have hn : (parseMethodDescriptor y.desc).map (fun d => d.parameters.length) = some As.length := by
        cases hpd : parseMethodDescriptor y.desc with
        | none => rw [hpd] at k4; cases k4
        | some dd =>
          rw [hpd] at k4
          simp only [Option.map_some, Option.some.injEq] at k4 ⊢
          omega
      exact ⟨_, va_runVN (As := As) (b := b) (n := As.length) hfix hM ⟨va_cnB As.length hts hG rfl rfl rfl (cx.2.1.2.2.1 _ _ _ _ k1) hinit ⟨hmh.1, hmh.2, hn⟩ hRR, hts _ k2, hts _ k3⟩ ⟨zv_Pc_blind, hcell, hPc⟩ rfl rfl rfl (by simp) hw8 hdg ⟨hc1, hc2⟩⟩
  · have hdg := hdgv _ hi rfl
    have hAl : (as.map (zv_cv ba ak)).length = en.2.2.1 := by rw [List.length_map, has, List.length_reverse, hlen]
    rcases hk with hk | hk <;> rw [hk] at hkind
    · obtain ⟨k1, k2, k4⟩ := hkind
      rw [hst]
      exact ⟨_, va_runS (As := as.map (zv_cv ba ak)) (n := en.2.2.1) hfix hM (va_cwS en.2.2.1 hts (zv_tb_good (fun w hw => by
        simp only [va_wsS, List.mem_append, List.mem_cons, List.not_mem_nil, or_false] at hw
        rcases hw with (rfl | rfl | rfl) | rfl | hw
        · exact k1
        · exact k2
        · exact hv.2.1
        · exact hv.1
        · exact hw)) rfl rfl rfl ⟨hmh.1, hmh.2, k4⟩ hRR) ⟨zv_Pc_blind, hPc⟩ rfl hAl rfl rfl hw8 hdg ⟨hc1, hc2⟩⟩
    · obtain ⟨⟨host, k1⟩, k2, k4⟩ := hkind
      rw [hst]
      exact ⟨_, va_runSN (As := as.map (zv_cv ba ak)) (n := en.2.2.1) hfix hM ⟨va_cnB en.2.2.1 hts hG rfl rfl rfl (cx.2.1.2.2.1 _ _ _ _ k1) hinit ⟨hmh.1, hmh.2, k4⟩ hRR, hts _ k2, trivial⟩ ⟨zv_Pc_blind, hPc⟩ rfl hAl rfl rfl hw8 hdg ⟨hc1, hc2⟩⟩
  · have hdg := hdgv _ hi rfl
    rcases hk with hk | hk <;> rw [hk] at hkind
    · obtain ⟨k0, k1, k2, k3, k5, k4⟩ := hkind
      subst k5
      obtain ⟨b, As, hA, hAl, hcell⟩ := hinst k0
      rw [hA] at hPc hst
      rw [hst]
      have hn : (parseMethodDescriptor y.desc).map (fun d => d.parameters.length) = some As.length := by
        cases hpd : parseMethodDescriptor y.desc with
        | none => rw [hpd] at k4; cases k4
        | some dd =>
          rw [hpd] at k4
          simp only [Option.map_some, Option.some.injEq] at k4 ⊢
          omega
      exact ⟨_, va_runI (As := As) (b := b) (n := As.length) hfix hM (cwI As.length hts hG rfl rfl rfl hinit (hts _ k1) (hts _ k2) k3 ⟨hmh.1, hmh.2, hn⟩ hRR) ⟨zv_Pc_blind, hPc⟩ rfl rfl rfl (by simp) hw8 hdg ⟨hc1, hc2⟩⟩
    · obtain ⟨k0, ⟨host, k1⟩, k2, k3, k5, k4⟩ := hkind
      subst k5
      obtain ⟨b, As, hA, hAl, hcell⟩ := hinst k0
      rw [hA] at hPc hst
      rw [hst]
      have hn : (parseMethodDescriptor y.desc).map (fun d => d.parameters.length) = some As.length := by
        cases hpd : parseMethodDescriptor y.desc with
        | none => rw [hpd] at k4; cases k4
        | some dd =>
          rw [hpd] at k4
          simp only [Option.map_some, Option.some.injEq] at k4 ⊢
          omega
      exact ⟨_, va_runIN (As := As) (b := b) (n := As.length) hfix hM ⟨va_cnB As.length hts hG rfl rfl rfl (cx.2.1.2.2.1 _ _ _ _ k1) hinit ⟨hmh.1, hmh.2, hn⟩ hRR, k3, hts _ k2⟩ ⟨zv_Pc_blind, hPc⟩ rfl rfl rfl (by simp) hw8 hdg ⟨hc1, hc2⟩⟩
end ZSND
