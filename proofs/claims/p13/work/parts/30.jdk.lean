/-! 30.jdk -/
section
/-! String.checkIndex, by hand -/
def zj_P : MethodName := ⟨"jdk/internal/util/Preconditions", "checkIndex", "(IILjava/util/function/BiFunction;)I"⟩
def zj_S : MethodName := ⟨"java/lang/String", "checkIndex", "(II)V"⟩
theorem zj_p0 : decode prog_19_method_11_code 0 = .ok (.iload_n 0, 1) := by decide +kernel
theorem zj_p1 : decode prog_19_method_11_code 1 = .ok (.ifCond .lt 8, 3) := by decide +kernel
theorem zj_p4 : decode prog_19_method_11_code 4 = .ok (.iload_n 0, 1) := by decide +kernel
theorem zj_p5 : decode prog_19_method_11_code 5 = .ok (.iload_n 1, 1) := by decide +kernel
theorem zj_p6 : decode prog_19_method_11_code 6 = .ok (.if_icmp .lt 10, 3) := by decide +kernel
theorem zj_p16 : decode prog_19_method_11_code 16 = .ok (.iload_n 0, 1) := by decide +kernel
theorem zj_p17 : decode prog_19_method_11_code 17 = .ok (.ireturn, 1) := by decide +kernel
theorem zj_s0 : decode prog_15_method_155_code 0 = .ok (.iload_n 0, 1) := by decide +kernel
theorem zj_s1 : decode prog_15_method_155_code 1 = .ok (.iload_n 1, 1) := by decide +kernel
theorem zj_s2 : decode prog_15_method_155_code 2 = .ok (.getstatic 1053, 3) := by decide +kernel
theorem zj_s5 : decode prog_15_method_155_code 5 = .ok (.invokestatic 1059, 3) := by decide +kernel
theorem zj_s8 : decode prog_15_method_155_code 8 = .ok (.pop, 1) := by decide +kernel
theorem zj_s9 : decode prog_15_method_155_code 9 = .ok (.return_, 1) := by decide +kernel
def zj_Pc (x y : Int) (v : Value) : Array Value → State → Prop := fun a _ => a = ([.int (Int32.ofInt x), .int (Int32.ofInt y), v] : List Value).toArray
theorem zj_pre (l : Launch) (ba : Nat) {x y : Int} (hx : zv_rg x) (hy : zv_rg y) (hxy : 0 ≤ x ∧ x < y) {v : Value} (hv : v.category = 1) :
    Met l zj_P (Cond.code zj_P prog_19_method_11_code 3 (some .int) :: zv_tb) { frames := 1, cells := 0, slots := 0, locals := 30 } (zj_Pc x y v) (vp_Si (fun r => r = Int32.ofInt x)) 0 0 (zv_Ac ba) := by
  refine Met.ofW (cc := prog_19_method_11_code) (maxL := 3) (ret := some .int) (by decide) rfl ?_
  intro p e s m args below meth c s₁ B hml hP
  have hP : args = _ := hP
  subst hP
  have hx1 := B.exec
  have hb := B.bytes
  have hr := B.returns
  have hlocks := B.notSynchronized
  have hl := lv_entry ([.int (Int32.ofInt x), .int (Int32.ofInt y), v]) (n := 3) (by
    unfold lg_sl
    simp only [List.flatMap_cons, List.flatMap_nil, List.length_append, List.length_nil]
    rw [if_neg (by omega : ¬ v.category = 2)]
    show 1 + (1 + (1 + 0)) ≤ 3
    omega)
  rw [lg_entry_eq]
  generalize ((lg_sl ([.int (Int32.ofInt x), .int (Int32.ofInt y), v]) ++ List.replicate (3 - (lg_sl ([.int (Int32.ofInt x), .int (Int32.ofInt y), v])).length) Slot.unset).toArray) = ls at hl ⊢
  refine lv_iload_n hx1 hb zj_p0 rfl (lv_at hl 0 rfl) ?_
  refine lv_if_lt (tgt := 9) hx1 hb zj_p1 (by decide) (fun q => absurd ((zv_lt0 hx).mp q) (by omega)) (fun _ => ?_)
  refine lv_iload_n hx1 hb zj_p4 rfl (lv_at hl 0 rfl) ?_
  refine lv_iload_n hx1 hb zj_p5 rfl (lv_at hl 1 rfl) ?_
  refine lv_icmp_lt (tgt := 16) hx1 hb zj_p6 (by decide) (fun _ => ?_) (fun q => absurd ((zv_lt hx hy).mpr hxy.2) q)
  refine lv_iload_n hx1 hb zj_p16 rfl (lv_at hl 0 rfl) ?_
  exact W.iret hx1 hb hr (fun t ht hW => ⟨_, rfl, rfl, ht⟩) (fun q h => by cases h) zj_p17 hlocks
theorem zj_str {l : Launch} {D : va_G} {g : Nat → ClassId} {ba : Nat} {ak adV : Nat → Nat} {d : Nat} {x y : Int} (hxy : 0 ≤ x ∧ x < y) {h : zv_H} :
    Met l zj_S (Cond.code zj_S prog_15_method_155_code 2 none :: zv_tb) (zv_rm (d + 1) h h) (zv_Pc D g ba ak adV [zv_i x, zv_i y] h) (zv_Qc D g ba ak none h) (zv_n h - zv_n h) (zv_s h - zv_s h) (zv_Ac ba) := by
  refine Met.ofW (cc := prog_15_method_155_code) (maxL := 2) (ret := none) (by decide) rfl ?_
  intro p e s m args below meth c s₁ B hml hv
  obtain ⟨rfl, hg, hRH, hK, hNF, hNM, hAO, ⟨-, -, -, hZq⟩, hSC⟩ := hv
  have hts : ∀ w ∈ zv_tb, w.before (([zv_i x, zv_i y] : List zv_V).map (zv_cv ba ak)).toArray s = true := fun w hw => atoms_spec (ws := Cond.code zj_S prog_15_method_155_code 2 none :: zv_tb) B.pre w (List.mem_cons_of_mem _ hw)
  have hx : zv_rg x := (zv_fa hg).1
  have hy : zv_rg y := (zv_fa (zv_fa hg).2).1
  have hx1 := B.exec
  have hb := B.bytes
  have hr := B.returns
  have hlocks := B.notSynchronized
  have hown : s.vm.findClass "java/lang/String" = some m.cls := findClass_of_methodNamed B.named
  have hl := lv_entry (([zv_i x, zv_i y] : List zv_V).map (zv_cv ba ak)) (n := 2) (by rw [zv_lg_len]; exact Nat.le_refl 2)
  rw [lg_entry_eq]
  generalize ((lg_sl (([zv_i x, zv_i y] : List zv_V).map (zv_cv ba ak)) ++ List.replicate (2 - (lg_sl (([zv_i x, zv_i y] : List zv_V).map (zv_cv ba ak))).length) Slot.unset).toArray) = ls at hl ⊢
  have hl : lv_has ls 2 [(0, .int (Int32.ofInt x)), (1, .int (Int32.ofInt y))] := hl
  refine lv_iload_n hx1 hb zj_s0 rfl (lv_at hl 0 rfl) ?_
  refine lv_iload_n hx1 hb zj_s1 rfl (lv_at hl 1 rfl) ?_
  have key : ∀ v : Value, v.category = 1 → va_Z "jdk/internal/util/Preconditions" "SIOOBE_FORMATTER" "Ljava/util/function/BiFunction;" v (zv_Ac ba) s s.heap → W p l e (headSpec (Cond.code zj_S prog_15_method_155_code 2 none :: zv_tb) (zv_rm (d + 1) h h)).room s m (([zv_i x, zv_i y] : List zv_V).map (zv_cv ba ak)).toArray below meth c s.heap [] 0 0 (MQ below (zv_Qc D g ba ak none h) (([zv_i x, zv_i y] : List zv_V).map (zv_cv ba ak)).toArray s (zv_n h - zv_n h) (zv_s h - zv_s h) (zv_Ac ba)) (F0 m 2 ls [.int (Int32.ofInt y), .int (Int32.ofInt x)]) := by
    intro v hc hZ
    refine va_gets hx1 hb hZ va_S.rf hown (hts _ (zv_tbk_3 42 rfl rfl)) (fun _ q => q) zj_s2 ?_
    have hrun := va_runS (l := l) (R := (headSpec (Cond.code zj_S prog_15_method_155_code 2 none :: zv_tb) (zv_rm (d + 1) h h)).room) (e := e) (below := below) (meth := meth) (H := s.heap) (locs := []) (cells := 0) (slots := 0) (g := F0 m 5 ls [v, .int (Int32.ofInt y), .int (Int32.ofInt x)]) (As := [.int (Int32.ofInt x), .int (Int32.ofInt y), v]) (rest := []) (n := 3) (own := "java/lang/String") (Ts := zv_tb) ⟨hx1, hb, hml, hown, hts⟩ (zj_pre l ba hx hy hxy hc) (va_cwS (index := 1059) 3 hts (zv_tb_good (fun w hw => by
        simp only [va_wsS, List.mem_append, List.mem_cons, List.not_mem_nil, or_false] at hw
        rcases hw with (rfl | rfl | rfl) | rfl | hw
        · exact (zv_tbk_3 44 rfl rfl)
        · exact (zv_tbk_3 45 rfl rfl)
        · exact (zv_tbk_1 14 rfl rfl)
        · exact (zv_tbk_3 46 rfl rfl)
        · exact hw)) rfl rfl rfl ⟨by decide, by decide, by decide +kernel⟩ ⟨by show 1 + 1 ≤ d + 1 + 8; omega, by show 8 + (3 + 11) + 30 ≤ 60 * (d + 1 + 8); omega⟩) ⟨fun _ _ _ _ q => q, fun U hU hW => rfl⟩ rfl rfl hl.1 rfl (lv_room (by decide)) zj_s5 ⟨Nat.zero_le _, Nat.zero_le _⟩
    intro T hT X
    obtain ⟨v1, st₀, t, T', L, h0, X', hL, e1, e2, ⟨r, hv1, hrx, hh⟩, stp⟩ := hrun T hT X
    cases hv1
    rw [h0] at hh
    have kk : W p l e (headSpec (Cond.code zj_S prog_15_method_155_code 2 none :: zv_tb) (zv_rm (d + 1) h h)).room s m (([zv_i x, zv_i y] : List zv_V).map (zv_cv ba ak)).toArray below meth c s.heap ([] ++ L) (0 + 0) (0 + 0) (MQ below (zv_Qc D g ba ak none h) (([zv_i x, zv_i y] : List zv_V).map (zv_cv ba ak)).toArray s (zv_n h - zv_n h) (zv_s h - zv_s h) (zv_Ac ba)) (F0 m 8 ls [.int r]) := by
      refine lv_pop hx1 hb zj_s8 rfl ?_
      rw [Nat.sub_self, Nat.sub_self]
      exact W.vret hx1 hb hr (fun t ht hW => ⟨rfl, trivial, by rw [ht]; exact hRH, ⟨by rw [ht]; exact Nat.le_refl _, fun q _ _ => by rw [ht]⟩⟩) (fun q hq => hL q (by simpa using hq)) zj_s9 hlocks
    obtain ⟨t2, a1, b1⟩ := kk T' (by rw [e1, hh]) X'
    exact ⟨t2, stp t2 a1, b1⟩
  rcases hZq with hZ | ⟨a, hZ⟩
  · exact key .null rfl hZ
  · exact key (.ref a) rfl hZ
theorem zv_JOK_ok (l : Launch) (D : va_G) (g : Nat → ClassId) (ba : Nat) (ak adV : Nat → Nat) : zv_JOK l D g ba ak adV := by
  intro d id as h o h1 hid hr
  unfold zv_jd at hr
  split at hr
  · split at hr <;> cases hr
    rename_i x y hxy
    refine ⟨zv_mo.rf h, fun hI => (by cases hI), fun y' bytes maxL ret e => ?_⟩
    cases e
    exact zj_str hxy
  · cases hr
end
/-! 31.start -/
section
/-! the law's start: what the machine's first state says -/
theorem zs_arr {args : Array Value} {s : State} {t : FieldType} (h : (Cond.arrayClass t).before args s = true) : ∃ c : ClassId, ArrOfT s c t ∧ s.vm.findClass ("[" ++ t.toString) = some c := by
  obtain ⟨c, k, comp, h1, h2, h3⟩ := Cond.arrayClass_spec h
  exact ⟨c, fun n z => ⟨(fun k h => by cases h), k, h2, comp, h3⟩, h1⟩
theorem zs_arrO {args : Array Value} {s : State} {C : String} (h : (Cond.arrayOver (.object C)).before args s = true) : ∃ c : ClassId, ArrOfT s c (.object C) ∧ va_RA s c (.object C) := by
  obtain ⟨comp, c, k, h1, -, h3, h4, h5⟩ := Cond.arrayOver_spec h
  exact ⟨c, fun n z => ⟨(fun k h => by cases h), k, h3, comp, h4⟩, k, comp, h3, h4, h1, h5⟩
theorem zs_K {args : Array Value} {s : State} (hts : ∀ w ∈ lw_tbl, w.before args s = true) : ∃ (D : va_G) (g : Nat → ClassId), va_K D vwCl (zv_tys g) s := by
  obtain ⟨c0, i0, k0⟩ := u_known (C := RX0) (T := TX0) (N := 14) (n := 14) hts inX0 (hts (.instantiable RX0 14) (List.mem_append_right _ (zv_t1_1 99 rfl)))
  obtain ⟨c1, i1, k1⟩ := u_known (C := RX1) (T := TX1) (N := 4) (n := 4) hts inX1 (hts (.instantiable RX1 4) (List.mem_append_right _ (zv_t1_2 58 rfl)))
  obtain ⟨c2, i2, k2⟩ := u_known (C := RX2) (T := TX2) (N := 3) (n := 3) hts inX2 (hts (.instantiable RX2 3) (List.mem_append_right _ (zv_t1_2 13 rfl)))
  obtain ⟨c3, i3, k3⟩ := u_known (C := RX3) (T := TX3) (N := 13) (n := 13) hts inX3 (hts (.instantiable RX3 13) (List.mem_append_right _ (zv_t1_1 44 rfl)))
  obtain ⟨c4, i4, k4⟩ := u_known (C := RX4) (T := TX4) (N := 10) (n := 10) hts inX4 (hts (.instantiable RX4 10) (List.mem_append_right _ (zv_t1_1 205 rfl)))
  obtain ⟨c5, i5, k5⟩ := u_known (C := RX5) (T := TX5) (N := 18) (n := 18) hts inX5 (hts (.instantiable RX5 18) (List.mem_append_right _ (zv_t1_1 105 rfl)))
  obtain ⟨c6, i6, k6⟩ := u_known (C := RX6) (T := TX6) (N := 6) (n := 6) hts inX6 (hts (.instantiable RX6 6) (List.mem_append_right _ (zv_t1_2 31 rfl)))
  obtain ⟨c7, i7, k7⟩ := u_known (C := RX7) (T := TX7) (N := 2) (n := 2) hts inX7 (hts (.instantiable RX7 2) (List.mem_append_right _ (zv_t1_1 28 rfl)))
  obtain ⟨c8, i8, k8⟩ := u_known (C := RX8) (T := TX8) (N := 8) (n := 8) hts inX8 (hts (.instantiable RX8 8) (List.mem_append_right _ (zv_t1_1 20 rfl)))
  obtain ⟨c9, i9, k9⟩ := u_known (C := RX9) (T := TX9) (N := 48) (n := 48) hts inX9 (hts (.instantiable RX9 48) (List.mem_append_right _ (zv_t1_6 25 rfl)))
  obtain ⟨a2, p2, q2⟩ := zs_arr (hts _ (zv_tb_lw zv_wA_int))
  obtain ⟨a3, p3, q3⟩ := zs_arr (hts _ (zv_tb_lw zv_wA_boolean))
  obtain ⟨a4, p4, q4⟩ := zs_arr (hts _ (zv_tb_lw zv_wA_byte))
  obtain ⟨a5, p5, q5⟩ := zs_arr (hts _ (zv_tb_lw zv_wA_long))
  obtain ⟨a6, p6, q6⟩ := zs_arrO (hts (.arrayOver (.object "BranchedText$State")) (List.mem_append_right _ (zv_t1_1 203 rfl)))
  refine ⟨(fun c => [c0, c1, c2, c3, c4, c5, c6, c7, c8, c9].getD c 0, fun c => [i0, i1, i2, i3, i4, i5, i6, i7, i8, i9].getD c (fun _ => 0)), fun k => [0, 0, a2, a3, a4, a5, a6].getD k 0, fun c q hq => ?_, fun k q hq => ?_⟩
  · match c, hq with
    | 0, hq => have e := Option.some.inj hq; subst e; exact k0
    | 1, hq => have e := Option.some.inj hq; subst e; exact k1
    | 2, hq => have e := Option.some.inj hq; subst e; exact k2
    | 3, hq => have e := Option.some.inj hq; subst e; exact k3
    | 4, hq => have e := Option.some.inj hq; subst e; exact k4
    | 5, hq => have e := Option.some.inj hq; subst e; exact k5
    | 6, hq => have e := Option.some.inj hq; subst e; exact k6
    | 7, hq => have e := Option.some.inj hq; subst e; exact k7
    | 8, hq => have e := Option.some.inj hq; subst e; exact k8
    | 9, hq => have e := Option.some.inj hq; subst e; exact k9
    | n + 10, hq => exact absurd (List.getElem?_eq_some_iff.mp hq).1 (by show ¬ n + 10 < 10; omega)
  · match k, hq with
    | 0, hq => have e := Option.some.inj hq; subst e; exact ⟨p2, q2⟩
    | 1, hq => have e := Option.some.inj hq; subst e; exact ⟨p3, q3⟩
    | 2, hq => have e := Option.some.inj hq; subst e; exact ⟨p4, q4⟩
    | 3, hq => have e := Option.some.inj hq; subst e; exact ⟨p5, q5⟩
    | 4, hq => have e := Option.some.inj hq; subst e; exact ⟨p6, q6⟩
    | n + 5, hq => exact absurd (List.getElem?_eq_some_iff.mp hq).1 (by show ¬ n + 5 < 5; omega)
def zs_tm (i : Nat) : Term := Term.string (zv_sown i) (zv_six.getD i 0)
def zs_val (i : Nat) : Term := Term.field (zs_tm i) "java/lang/String" "value" "[B"
def zs_el (i j : Nat) : Cond := Cond.eq (.elem (zs_val i) (.int (Int32.ofNat j))) (.int ((zv_sb.getD i []).getD j 0))
def zs_T (i : Nat) : List Cond := [Cond.exactly (zs_tm i) "java/lang/String", Cond.eq (.field (zs_tm i) "java/lang/String" "coder" "B") (.int 0), Cond.arrayOf (zs_val i) .byte, Cond.eq (.length (zs_val i)) (.int (Int32.ofNat (zv_sl.getD i 0)))] ++ ((List.range (zv_sl.getD i 0)).map (zs_el i) ++ (List.range i).map fun j => Cond.not (Cond.eq (zs_tm j) (zs_tm i)))
def zs_F : List Cond := (flatC narrow_1).take 7 ++ (List.range 24).flatMap zs_T
theorem zs_flat : flatC narrow_1 = zs_F := by decide +kernel
theorem zs_mem {args : Array Value} {s : State} (h : (Jvm.Cond.and given_1 narrow_1).before args s = true) {i : Nat} (hi : i < 24) {w : Cond} (hw : w ∈ zs_T i) : w.before args s = true := by
  refine flat_of_before _ h _ ?_
  show w ∈ flatC given_1 ++ flatC narrow_1
  rw [zs_flat]
  exact List.mem_append_right _ (List.mem_append_right _ (List.mem_flatMap.mpr ⟨i, List.mem_range.mpr hi, hw⟩))
theorem zs_len : ∀ i : Nat, i < 24 → zv_sl.getD i 0 < 2 ^ 31 := by decide +kernel
theorem zs_S {args : Array Value} {s : State} {A : Nat → Prop} (h : (Jvm.Cond.and given_1 narrow_1).before args s = true) (hA : ∀ a : Nat, a < s.heap.size → ¬ A a) :
    ∃ adK adV : Nat → Nat, vk_S 24 zv_sl zv_sb adK adV A s s.heap ∧ ∀ i : Nat, i < 24 → (zs_tm i).eval args s none [] s = some (.ref (adK i)) := by
  refine vk_Sof (tm := zs_tm) zs_len (fun i hi => zs_mem h hi ?_) (fun i hi => zs_mem h hi ?_) (fun i hi => zs_mem h hi ?_) (fun i hi => zs_mem h hi ?_) (fun i hi j hj => zs_mem h hi (w := zs_el i j) ?_) (fun i j hi hj hij => ?_) hA
  · exact List.mem_cons_self
  · exact List.mem_cons_of_mem _ List.mem_cons_self
  · exact List.mem_cons_of_mem _ (List.mem_cons_of_mem _ List.mem_cons_self)
  · exact List.mem_cons_of_mem _ (List.mem_cons_of_mem _ (List.mem_cons_of_mem _ List.mem_cons_self))
  · exact List.mem_append_right _ (List.mem_append_left _ (List.mem_map.mpr ⟨j, List.mem_range.mpr hj, rfl⟩))
  · rcases Nat.lt_or_gt_of_ne hij with q | q
    · exact Or.inl (zs_mem h hj (List.mem_append_right _ (List.mem_append_right _ (List.mem_map.mpr ⟨i, List.mem_range.mpr q, rfl⟩))))
    · exact Or.inr (zs_mem h hi (List.mem_append_right _ (List.mem_append_right _ (List.mem_map.mpr ⟨j, List.mem_range.mpr q, rfl⟩))))
theorem zs_ref : ∀ i : Nat, i < 24 → Cond.stringRef (zv_sown i) (zv_six.getD i 0) (zv_stx.getD i "") ∈ lw_tbl := by
  intro i hi
  match i, hi with
  | 0, _ => exact (List.mem_append_right _ (zv_t1_3 13 rfl))
  | 1, _ => exact (List.mem_append_right _ (zv_t1_3 99 rfl))
  | 2, _ => exact (List.mem_append_right _ (zv_t1_3 113 rfl))
  | 3, _ => exact (List.mem_append_right _ (zv_t1_3 118 rfl))
  | 4, _ => exact (List.mem_append_right _ (zv_t1_3 119 rfl))
  | 5, _ => exact (List.mem_append_right _ (zv_t1_3 120 rfl))
  | 6, _ => exact (List.mem_append_right _ (zv_t1_3 121 rfl))
  | 7, _ => exact (List.mem_append_right _ (zv_t1_3 122 rfl))
  | 8, _ => exact (List.mem_append_right _ (zv_t1_3 123 rfl))
  | 9, _ => exact (List.mem_append_right _ (zv_t1_3 130 rfl))
  | 10, _ => exact (List.mem_append_right _ (zv_t1_3 131 rfl))
  | 11, _ => exact (List.mem_append_right _ (zv_t1_3 144 rfl))
  | 12, _ => exact (List.mem_append_right _ (zv_t1_3 145 rfl))
  | 13, _ => exact (List.mem_append_right _ (zv_t1_3 146 rfl))
  | 14, _ => exact (List.mem_append_right _ (zv_t1_3 147 rfl))
  | 15, _ => exact (List.mem_append_right _ (zv_t1_3 148 rfl))
  | 16, _ => exact (List.mem_append_right _ (zv_t1_3 149 rfl))
  | 17, _ => exact (List.mem_append_right _ (zv_t1_3 150 rfl))
  | 18, _ => exact (List.mem_append_right _ (zv_t1_3 151 rfl))
  | 19, _ => exact (List.mem_append_right _ (zv_t1_3 152 rfl))
  | 20, _ => exact (List.mem_append_right _ (zv_t1_3 153 rfl))
  | 21, _ => exact (List.mem_append_right _ (zv_t1_3 154 rfl))
  | 22, _ => exact (List.mem_append_right _ (zv_t1_3 155 rfl))
  | 23, _ => exact (List.mem_append_right _ (zv_t1_6 238 rfl))
  | n + 24, h => exact absurd h (by omega)
/-- where what stood there before lies -/
def zs_ak (b : Nat) (adK adV : Nat → Nat) : Nat → Nat := fun r => if r = 2000000 then b else if r < 1000100 then adK (r - 1000000) else adV (r - 1000100)
theorem zs_akK {b : Nat} {adK adV : Nat → Nat} {i : Nat} (hi : i < 24) : zs_ak b adK adV (1000000 + i) = adK i := by
  unfold zs_ak
  rw [if_neg (by omega), if_pos (by omega), Nat.add_sub_cancel_left]
theorem zs_akV {b : Nat} {adK adV : Nat → Nat} {i : Nat} (hi : i < 24) : zs_ak b adK adV (1000100 + i) = adV i := by
  unfold zs_ak
  rw [if_neg (by omega), if_neg (by omega), Nat.add_sub_cancel_left]
theorem zs_SS {args : Array Value} {s : State} {b ba : Nat} (hts : ∀ w ∈ lw_tbl, w.before args s = true) (h : (Jvm.Cond.and given_1 narrow_1).before args s = true) (hba : s.heap.size = ba + 1) : ∃ adK adV : Nat → Nat, zv_SS ba (zs_ak b adK adV) adV s := by
  have hA : ∀ a : Nat, a < s.heap.size → ¬ zv_Ac ba a := fun a h1 h2 => by
    have h3 : ba < a := h2
    omega
  have hs := flat_of_before _ h
  obtain ⟨adK, adV, hS, hE⟩ := zs_S (A := zv_Ac ba) h hA
  refine ⟨adK, adV, ⟨fun i hi => ?_, fun i j hi hj e => ?_⟩, fun i hi => ?_, ?_, ?_⟩
  · have e1 := zs_akK (b := b) (adK := adK) (adV := adV) hi
    have e2 := zs_akV (b := b) (adK := adK) (adV := adV) hi
    have q := hS.1 i hi
    dsimp only
    rw [e1, e2]
    exact q
  · dsimp only at e
    rw [zs_akK hi, zs_akK hj] at e
    exact hS.2 i j hi hj e
  · rw [zs_akK hi]
    exact vk_R.of (hts _ (zs_ref i hi)) (hE i hi)
  · exact va_Zof (hts (.laysStatic "java/lang/String" "COMPACT_STRINGS" "Z") (List.mem_append_right _ (zv_t1_3 27 rfl))) (hts (.initialized "java/lang/String") (List.mem_append_right _ (zv_t1_1 12 rfl))) (va_eqi (hs _ (List.mem_append_right _ (List.mem_of_getElem? (i := 2) rfl)))) hA
  · exact va_Zqof (hts (.laysStatic "jdk/internal/util/Preconditions" "SIOOBE_FORMATTER" "Ljava/util/function/BiFunction;") (List.mem_append_right _ (zv_t1_3 43 rfl))) (hts (.initialized "jdk/internal/util/Preconditions") (List.mem_append_right _ (zv_t1_1 14 rfl))) (hs _ (List.mem_append_right _ (List.mem_of_getElem? (i := 3) rfl))) hA
theorem zs_NF {args : Array Value} {s : State} (hts : ∀ w ∈ lw_tbl, w.before args s = true) : zv_NF s := fun _ _ _ _ _ _ h => va_Nw.of rfl (hts _ (List.mem_append_right _ h))
theorem zs_NM {args : Array Value} {s : State} (hts : ∀ w ∈ lw_tbl, w.before args s = true) : zv_NM s := fun _ _ _ _ h => va_Nw.of rfl (hts _ (List.mem_append_right _ h))
theorem zs_AO {args : Array Value} {s : State} (hts : ∀ w ∈ lw_tbl, w.before args s = true) : va_AO "BranchedText$State" s := va_AO.of (hts (.arrayOver (.object "BranchedText$State")) (List.mem_append_right _ (zv_t1_1 203 rfl)))
end
/-! 31b.start -/
section
def lw_P (b : Addr) (xs : List Int32) (args : Array Value) (s : State) : Prop := args = #[.ref b] ∧ s.IntsAt b xs ∧ xs.length ≤ 3072 ∧ (Jvm.Cond.and given_1 narrow_1).before args s = true
def lw_Q (_ : Array Value) (s : State) (o : Outcome) (t : State) : Prop := o = .returned (some (.int 1)) ∧ Framed s o t [] 600000 7302250
def lw_Z (below : List Frame) (a : Array Value) (s : State) : State → Prop := fun t => ∃ o, t.status = .running ∧ Ended t below o ∧ lw_Q a s o t
/-- the law's own end, with 1 on the stack, nothing written that was there before, its room as the claim has it -/
theorem lw_ret {p : Program} {l : Launch} {e : Env} {s : State} {m : MethodId} {below : List Frame} {meth : Method} {c : Code} {b : Nat} (hx : p.tables.exec = Jvm.exec) (hb : c.code = code) (hr : meth.sig.returnType = ret) (hlocks : meth.locks = false) {pc : Nat} {H : Heap} {ls : Array Slot} (hdg : decode code pc = .ok (.ireturn, 1)) : W p l e room_1 s m #[Value.ref b] below meth c H [] 600000 7302250 (lw_Z below #[Value.ref b] s) (F0 m pc ls [.int 1]) := by
  intro T hT X
  obtain ⟨fs, hret, hrun, hended, hW, hframe⟩ := X.leave (v := some (.int 1)) (hlocks := hlocks) (fun h => by rw [hr] at h; cases h)
  have hmeth' : T.vm.method? m = some meth := X.method'
  refine ⟨T.setFrames fs, ?_, .returned (some (.int 1)), hrun, hended, rfl, ⟨_, rfl⟩, hW, hframe⟩
  jvm_step X.here [X.here.top, hx, hb, hdg, hmeth', hr, ret, narrow_b1]
  (try refine ⟨rfl, ?_⟩); (try refine ⟨rfl, ?_⟩)
  first | (intro acts; rw [hret _ acts rfl rfl rfl]) | rw [hret _ _ rfl rfl rfl]
  exact Steps.refl _
/-- what holds at the law's entry: the machine, the code, the tables' words (any of lw_tbl by 'hts w (by decide +kernel)'), the script of L ints xs at the cell b, what the Statement gives of the start (any of its parts by flat_of_before) -/
def lw_At (p : Program) (s : State) (m : MethodId) (meth : Method) (c : Code) (b L : Nat) (xs : Nat → Int32) : Prop :=
  p.tables.exec = Jvm.exec ∧ c.code = code ∧ meth.sig.returnType = ret ∧ c.maxLocals = 4 ∧ s.vm.findClass R_law = some m.cls ∧ (∀ w ∈ lw_tbl, w.before #[Value.ref b] s = true) ∧ va_X b L xs s s.heap ∧ b < s.heap.size ∧ meth.locks = false ∧ (Jvm.Cond.and given_1 narrow_1).before #[Value.ref b] s = true
theorem zs_zk : zv_chk 99 mcL_law = true := zy_chk_ok (by decide +kernel)
theorem zs_vM : zv_vM mcL_law := zv_vM_of2 zv_vPl_10 (fun _ h => absurd h List.not_mem_nil) zs_zk
def zs_h0 (L : Nat) (X : Nat → Int) : zv_H := ((0, 0), (fun _ _ => 0, (fun _ _ => 0, (fun _ _ => 0, (L, X)))))
theorem zs_start {p : Program} {e : Env} {s : State} {m : MethodId} {below : List Frame} {meth : Method} {c : Code} (l : Launch) {b L : Nat} {xs : Nat → Int32} (hL : L ≤ 3072) (C0 : lw_At p s m meth c b L xs) {d : Nat} (hd : d ≤ 1000) {hE : zv_H} (hn : zv_n hE ≤ 600000) (hs : zv_s hE ≤ 7302250)
    (hr : zv_lim (zv_cs zv_prog d) mcL_law 0 (zv_en [zv_r 2000000] 4) [] (zs_h0 L fun k => (xs k).toInt) = some (some (zv_i 1), hE)) (hall : ∀ id o M, zv_prog id = some (o, M) → zv_vM M ∧ zv_vP o M) :
    W p l e room_1 s m #[Value.ref b] below meth c s.heap [] 0 0 (lw_Z below #[Value.ref b] s) (entryFrame m ([Value.ref b] : List Value).toArray 4) := by
  obtain ⟨hx, hb, hrt, hml, hown, hts, hX, hbl, hlocks, hgv⟩ := id C0
  obtain ⟨ba, hba⟩ : ∃ ba, s.heap.size = ba + 1 := ⟨s.heap.size - 1, by omega⟩
  obtain ⟨D, g, hK⟩ := zs_K hts
  obtain ⟨adK, adV, hSS⟩ := zs_SS (b := b) hts hgv hba
  have cx : zv_CX p l room_1 s #[Value.ref b] m meth c mcL_law D g ba (zs_ak b adK adV) adV 0 0 hE :=
    ⟨⟨hx, hb, hml, hown, fun w hw => hts w (zv_tb_lw hw)⟩, ⟨hK, zs_NF hts, zs_NM hts, zs_AO hts, hSS⟩, fun q => absurd q (by decide +kernel), hba, (by show zv_n hE ≤ 600000 + 0; omega), (by show zv_s hE ≤ 7302250 + 0; omega), zs_vM⟩
  have he : zv_HE p l e room_1 s m #[Value.ref b] below meth c (lw_Z below #[Value.ref b] s) mcL_law D g ba (zs_ak b adK adV) 0 0 (some (zv_i 1)) hE := by
    intro H locs lsR pc cells slots b1 b2 b3 b4
    refine ⟨fun x hx' hrg ht hdg => ?_, fun x hx' _ _ => (by cases hx'), fun r C hx' _ _ => (by cases hx'), fun hx' _ _ => (by cases hx')⟩
    cases hx'
    refine va_forget (fun q hq => ?_) ?_
    · have h2 : ba < q.base := b2.2.2 q hq
      omega
    · refine W.widen (k := 600000) (n := 7302250) (by omega) (by omega) ?_
      exact lw_ret hx hb hrt hlocks hdg
  have haw := zv_aw
  have hok := zv_lim_ok cx he (zv_HC_cs (zv_JOK_ok l D g ba (zs_ak b adK adV) adV) hall d) (by show d + 9 ≤ 2048; omega) (by show 60 * (d + 9) ≤ 84000; omega) (by show _ ≤ 84000; omega) hr
  have hw : zv_wd [zv_r 2000000] ≤ 4 := by decide
  have hll := zv_lg_len ba (zs_ak b adK adV) [zv_r 2000000]
  have hl := lv_entry (([zv_r 2000000] : List zv_V).map (zv_cv ba (zs_ak b adK adV))) (n := 4) (by omega)
  rw [lg_entry_eq]
  refine hok.2 s.heap [] 0 0 _ ⟨by rw [zv_en_len _ _ hw]; exact hl.1, hl.2.1, fun i v hv => ?_⟩ (zv_en_len _ _ hw) (fun v hv => by cases hv) ⟨hba, fun k q h => ?_, fun r k => ?_, by show 0 < 1000000; omega⟩ va_S.rf rfl rfl ⟨xs, hX, ?_, ?_, fun k hk => rfl⟩
  · have := zv_en_ld ba (zs_ak b adK adV) [zv_r 2000000] 4 0 i v hv
    rw [Nat.zero_add] at this
    refine ⟨hl.2.2 _ this.1, ?_⟩
    have e1 := List.mem_singleton.mp this.2
    rw [e1]
    trivial
  · have h' : ([] : va_W)[k]? = some q := h
    cases h'
  · show zv_rg 0
    unfold zv_rg
    omega
  · show b ≤ ba
    omega
  · show L < 2147483648
    omega
end
