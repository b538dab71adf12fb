/-! String.checkIndex, by hand -/
def zj_P : MethodName := ⟨"jdk/internal/util/Preconditions", "checkIndex", "(IILjava/util/function/BiFunction;)I"⟩
def zj_S : MethodName := ⟨"java/lang/String", "checkIndex", "(II)V"⟩
theorem zj_p0 : decode prog_19_method_11_code 0 = .ok (.iload_n 0, 1) := by decide +kernel
theorem zj_p1 : decode prog_19_method_11_code 1 = .ok (.ifCond .lt 8, 3) := by decide +kernel
theorem zj_p4 : decode prog_19_method_11_code 4 = .ok (.iload_n 0, 1) := by decide +kernel
theorem zj_p5 : decode prog_19_method_11_code 5 = .ok (.iload_n 1, 1) := by decide +kernel
theorem zj_p6 : decode prog_19_method_11_code 6 = .ok (.if_icmp .lt 10, 3) := by decide +kernel
theorem zj_p16 : decode prog_19_method_11_code 16 = .ok (.iload_n 0, 1) := by decide +kernel
theorem zj_p17 : decode prog_19_method_11_code 17 = .ok (.ireturn, 1) := by decide +kernel
theorem zj_s0 : decode prog_15_method_155_code 0 = .ok (.iload_n 0, 1) := by decide +kernel
theorem zj_s1 : decode prog_15_method_155_code 1 = .ok (.iload_n 1, 1) := by decide +kernel
theorem zj_s2 : decode prog_15_method_155_code 2 = .ok (.getstatic 1053, 3) := by decide +kernel
theorem zj_s5 : decode prog_15_method_155_code 5 = .ok (.invokestatic 1059, 3) := by decide +kernel
theorem zj_s8 : decode prog_15_method_155_code 8 = .ok (.pop, 1) := by decide +kernel
theorem zj_s9 : decode prog_15_method_155_code 9 = .ok (.return_, 1) := by decide +kernel
def zj_Pc (x y : Int) (v : Value) : Array Value → State → Prop := fun a _ => a = ([.int (Int32.ofInt x), .int (Int32.ofInt y), v] : List Value).toArray
theorem zj_pre (l : Launch) (ba : Nat) {x y : Int} (hx : zv_rg x) (hy : zv_rg y) (hxy : 0 ≤ x ∧ x < y) {v : Value} (hv : v.category = 1) :
    Met l zj_P (Cond.code zj_P prog_19_method_11_code 3 (some .int) :: zv_tb) { frames := 1, cells := 0, slots := 0, locals := 30 } (zj_Pc x y v) (vp_Si (fun r => r = Int32.ofInt x)) 0 0 (zv_Ac ba) := by
  refine Met.ofW (cc := prog_19_method_11_code) (maxL := 3) (ret := some .int) (by decide) rfl ?_
  intro p e s m args below meth c s₁ B hml hP
  have hP : args = _ := hP
  subst hP
  have hx1 := B.exec
  have hb := B.bytes
  have hr := B.returns
  have hlocks := B.notSynchronized
  have hl := lv_entry ([.int (Int32.ofInt x), .int (Int32.ofInt y), v]) (n := 3) (by
    unfold lg_sl
    simp only [List.flatMap_cons, List.flatMap_nil, List.length_append, List.length_nil]
    rw [if_neg (by omega : ¬ v.category = 2)]
    show 1 + (1 + (1 + 0)) ≤ 3
    omega)
  rw [lg_entry_eq]
  generalize ((lg_sl ([.int (Int32.ofInt x), .int (Int32.ofInt y), v]) ++ List.replicate (3 - (lg_sl ([.int (Int32.ofInt x), .int (Int32.ofInt y), v])).length) Slot.unset).toArray) = ls at hl ⊢
  refine lv_iload_n hx1 hb zj_p0 rfl (lv_at hl 0 rfl) ?_
  refine lv_if_lt (tgt := 9) hx1 hb zj_p1 (by decide) (fun q => absurd ((zv_lt0 hx).mp q) (by omega)) (fun _ => ?_)
  refine lv_iload_n hx1 hb zj_p4 rfl (lv_at hl 0 rfl) ?_
  refine lv_iload_n hx1 hb zj_p5 rfl (lv_at hl 1 rfl) ?_
  refine lv_icmp_lt (tgt := 16) hx1 hb zj_p6 (by decide) (fun _ => ?_) (fun q => absurd ((zv_lt hx hy).mpr hxy.2) q)
  refine lv_iload_n hx1 hb zj_p16 rfl (lv_at hl 0 rfl) ?_
  exact W.iret hx1 hb hr (fun t ht hW => ⟨_, rfl, rfl, ht⟩) (fun q h => by cases h) zj_p17 hlocks
theorem zj_str {l : Launch} {D : va_G} {g : Nat → ClassId} {ba : Nat} {ak adV : Nat → Nat} {d : Nat} {x y : Int} (hxy : 0 ≤ x ∧ x < y) {h : zv_H} :
    Met l zj_S (Cond.code zj_S prog_15_method_155_code 2 none :: zv_tb) (zv_rm (d + 1) h h) (zv_Pc D g ba ak adV [zv_i x, zv_i y] h) (zv_Qc D g ba ak none h) (zv_n h - zv_n h) (zv_s h - zv_s h) (zv_Ac ba) := by
  refine Met.ofW (cc := prog_15_method_155_code) (maxL := 2) (ret := none) (by decide) rfl ?_
  intro p e s m args below meth c s₁ B hml hv
  obtain ⟨rfl, hg, hRH, hK, hNF, hNM, hAO, ⟨-, -, -, hZq⟩, hSC⟩ := hv
  have hts : ∀ w ∈ zv_tb, w.before (([zv_i x, zv_i y] : List zv_V).map (zv_cv ba ak)).toArray s = true := fun w hw => atoms_spec (ws := Cond.code zj_S prog_15_method_155_code 2 none :: zv_tb) B.pre w (List.mem_cons_of_mem _ hw)
  have hx : zv_rg x := (zv_fa hg).1
  have hy : zv_rg y := (zv_fa (zv_fa hg).2).1
  have hx1 := B.exec
  have hb := B.bytes
  have hr := B.returns
  have hlocks := B.notSynchronized
  have hown : s.vm.findClass "java/lang/String" = some m.cls := findClass_of_methodNamed B.named
  have hl := lv_entry (([zv_i x, zv_i y] : List zv_V).map (zv_cv ba ak)) (n := 2) (by rw [zv_lg_len]; exact Nat.le_refl 2)
  rw [lg_entry_eq]
  generalize ((lg_sl (([zv_i x, zv_i y] : List zv_V).map (zv_cv ba ak)) ++ List.replicate (2 - (lg_sl (([zv_i x, zv_i y] : List zv_V).map (zv_cv ba ak))).length) Slot.unset).toArray) = ls at hl ⊢
  have hl : lv_has ls 2 [(0, .int (Int32.ofInt x)), (1, .int (Int32.ofInt y))] := hl
  refine lv_iload_n hx1 hb zj_s0 rfl (lv_at hl 0 rfl) ?_
  refine lv_iload_n hx1 hb zj_s1 rfl (lv_at hl 1 rfl) ?_
  have key : ∀ v : Value, v.category = 1 → va_Z "jdk/internal/util/Preconditions" "SIOOBE_FORMATTER" "Ljava/util/function/BiFunction;" v (zv_Ac ba) s s.heap → W p l e (headSpec (Cond.code zj_S prog_15_method_155_code 2 none :: zv_tb) (zv_rm (d + 1) h h)).room s m (([zv_i x, zv_i y] : List zv_V).map (zv_cv ba ak)).toArray below meth c s.heap [] 0 0 (MQ below (zv_Qc D g ba ak none h) (([zv_i x, zv_i y] : List zv_V).map (zv_cv ba ak)).toArray s (zv_n h - zv_n h) (zv_s h - zv_s h) (zv_Ac ba)) (F0 m 2 ls [.int (Int32.ofInt y), .int (Int32.ofInt x)]) := by
    intro v hc hZ
    refine va_gets hx1 hb hZ va_S.rf hown (hts _ (zv_tbk_3 42 rfl rfl)) (fun _ q => q) zj_s2 ?_
    have hrun := va_runS (l := l) (R := (headSpec (Cond.code zj_S prog_15_method_155_code 2 none :: zv_tb) (zv_rm (d + 1) h h)).room) (e := e) (below := below) (meth := meth) (H := s.heap) (locs := []) (cells := 0) (slots := 0) (g := F0 m 5 ls [v, .int (Int32.ofInt y), .int (Int32.ofInt x)]) (As := [.int (Int32.ofInt x), .int (Int32.ofInt y), v]) (rest := []) (n := 3) (own := "java/lang/String") (Ts := zv_tb) ⟨hx1, hb, hml, hown, hts⟩ (zj_pre l ba hx hy hxy hc) (va_cwS (index := 1059) 3 hts (zv_tb_good (fun w hw => by
        simp only [va_wsS, List.mem_append, List.mem_cons, List.not_mem_nil, or_false] at hw
        rcases hw with (rfl | rfl | rfl) | rfl | hw
        · exact (zv_tbk_3 44 rfl rfl)
        · exact (zv_tbk_3 45 rfl rfl)
        · exact (zv_tbk_1 14 rfl rfl)
        · exact (zv_tbk_3 46 rfl rfl)
        · exact hw)) rfl rfl rfl ⟨by decide, by decide, by decide +kernel⟩ ⟨by show 1 + 1 ≤ d + 1 + 8; omega, by show 8 + (3 + 11) + 30 ≤ 60 * (d + 1 + 8); omega⟩) ⟨fun _ _ _ _ q => q, fun U hU hW => rfl⟩ rfl rfl hl.1 rfl (lv_room (by decide)) zj_s5 ⟨Nat.zero_le _, Nat.zero_le _⟩
    intro T hT X
    obtain ⟨v1, st₀, t, T', L, h0, X', hL, e1, e2, ⟨r, hv1, hrx, hh⟩, stp⟩ := hrun T hT X
    cases hv1
    rw [h0] at hh
    have kk : W p l e (headSpec (Cond.code zj_S prog_15_method_155_code 2 none :: zv_tb) (zv_rm (d + 1) h h)).room s m (([zv_i x, zv_i y] : List zv_V).map (zv_cv ba ak)).toArray below meth c s.heap ([] ++ L) (0 + 0) (0 + 0) (MQ below (zv_Qc D g ba ak none h) (([zv_i x, zv_i y] : List zv_V).map (zv_cv ba ak)).toArray s (zv_n h - zv_n h) (zv_s h - zv_s h) (zv_Ac ba)) (F0 m 8 ls [.int r]) := by
      refine lv_pop hx1 hb zj_s8 rfl ?_
      rw [Nat.sub_self, Nat.sub_self]
      exact W.vret hx1 hb hr (fun t ht hW => ⟨rfl, trivial, by rw [ht]; exact hRH, ⟨by rw [ht]; exact Nat.le_refl _, fun q _ _ => by rw [ht]⟩⟩) (fun q hq => hL q (by simpa using hq)) zj_s9 hlocks
    obtain ⟨t2, a1, b1⟩ := kk T' (by rw [e1, hh]) X'
    exact ⟨t2, stp t2 a1, b1⟩
  rcases hZq with hZ | ⟨a, hZ⟩
  · exact key .null rfl hZ
  · exact key (.ref a) rfl hZ
theorem zv_JOK_ok (l : Launch) (D : va_G) (g : Nat → ClassId) (ba : Nat) (ak adV : Nat → Nat) : zv_JOK l D g ba ak adV := by
  intro d id as h o h1 hid hr
  unfold zv_jd at hr
  split at hr
  · split at hr <;> cases hr
    rename_i x y hxy
    refine ⟨zv_mo.rf h, fun hI => (by cases hI), fun y' bytes maxL ret e => ?_⟩
    cases e
    exact zj_str hxy
  · cases hr
