/-! the law's start: what the machine's first state says -/
theorem zs_arr {args : Array Value} {s : State} {t : FieldType} (h : (Cond.arrayClass t).before args s = true) : ∃ c : ClassId, ArrOfT s c t ∧ s.vm.findClass ("[" ++ t.toString) = some c := by
  obtain ⟨c, k, comp, h1, h2, h3⟩ := Cond.arrayClass_spec h
  exact ⟨c, fun n z => ⟨(fun k h => by cases h), k, h2, comp, h3⟩, h1⟩
theorem zs_arrO {args : Array Value} {s : State} {C : String} (h : (Cond.arrayOver (.object C)).before args s = true) : ∃ c : ClassId, ArrOfT s c (.object C) ∧ va_RA s c (.object C) := by
  obtain ⟨comp, c, k, h1, -, h3, h4, h5⟩ := Cond.arrayOver_spec h
  exact ⟨c, fun n z => ⟨(fun k h => by cases h), k, h3, comp, h4⟩, k, comp, h3, h4, h1, h5⟩
theorem zs_K {args : Array Value} {s : State} (hts : ∀ w ∈ lw_tbl, w.before args s = true) : ∃ (D : va_G) (g : Nat → ClassId), va_K D vwCl (zv_tys g) s := by
  obtain ⟨c0, i0, k0⟩ := u_known (C := RX0) (T := TX0) (N := 14) (n := 14) hts inX0 (hts (.instantiable RX0 14) (List.mem_append_right _ (zv_t1_1 99 rfl)))
  obtain ⟨c1, i1, k1⟩ := u_known (C := RX1) (T := TX1) (N := 4) (n := 4) hts inX1 (hts (.instantiable RX1 4) (List.mem_append_right _ (zv_t1_2 58 rfl)))
  obtain ⟨c2, i2, k2⟩ := u_known (C := RX2) (T := TX2) (N := 3) (n := 3) hts inX2 (hts (.instantiable RX2 3) (List.mem_append_right _ (zv_t1_2 13 rfl)))
  obtain ⟨c3, i3, k3⟩ := u_known (C := RX3) (T := TX3) (N := 13) (n := 13) hts inX3 (hts (.instantiable RX3 13) (List.mem_append_right _ (zv_t1_1 44 rfl)))
  obtain ⟨c4, i4, k4⟩ := u_known (C := RX4) (T := TX4) (N := 10) (n := 10) hts inX4 (hts (.instantiable RX4 10) (List.mem_append_right _ (zv_t1_1 205 rfl)))
  obtain ⟨c5, i5, k5⟩ := u_known (C := RX5) (T := TX5) (N := 18) (n := 18) hts inX5 (hts (.instantiable RX5 18) (List.mem_append_right _ (zv_t1_1 105 rfl)))
  obtain ⟨c6, i6, k6⟩ := u_known (C := RX6) (T := TX6) (N := 6) (n := 6) hts inX6 (hts (.instantiable RX6 6) (List.mem_append_right _ (zv_t1_2 31 rfl)))
  obtain ⟨c7, i7, k7⟩ := u_known (C := RX7) (T := TX7) (N := 2) (n := 2) hts inX7 (hts (.instantiable RX7 2) (List.mem_append_right _ (zv_t1_1 28 rfl)))
  obtain ⟨c8, i8, k8⟩ := u_known (C := RX8) (T := TX8) (N := 8) (n := 8) hts inX8 (hts (.instantiable RX8 8) (List.mem_append_right _ (zv_t1_1 20 rfl)))
  obtain ⟨c9, i9, k9⟩ := u_known (C := RX9) (T := TX9) (N := 48) (n := 48) hts inX9 (hts (.instantiable RX9 48) (List.mem_append_right _ (zv_t1_6 25 rfl)))
  obtain ⟨a2, p2, q2⟩ := zs_arr (hts _ (zv_tb_lw zv_wA_int))
  obtain ⟨a3, p3, q3⟩ := zs_arr (hts _ (zv_tb_lw zv_wA_boolean))
  obtain ⟨a4, p4, q4⟩ := zs_arr (hts _ (zv_tb_lw zv_wA_byte))
  obtain ⟨a5, p5, q5⟩ := zs_arr (hts _ (zv_tb_lw zv_wA_long))
  obtain ⟨a6, p6, q6⟩ := zs_arrO (hts (.arrayOver (.object "BranchedText$State")) (List.mem_append_right _ (zv_t1_1 203 rfl)))
  refine ⟨(fun c => [c0, c1, c2, c3, c4, c5, c6, c7, c8, c9].getD c 0, fun c => [i0, i1, i2, i3, i4, i5, i6, i7, i8, i9].getD c (fun _ => 0)), fun k => [0, 0, a2, a3, a4, a5, a6].getD k 0, fun c q hq => ?_, fun k q hq => ?_⟩
  · match c, hq with
    | 0, hq => have e := Option.some.inj hq; subst e; exact k0
    | 1, hq => have e := Option.some.inj hq; subst e; exact k1
    | 2, hq => have e := Option.some.inj hq; subst e; exact k2
    | 3, hq => have e := Option.some.inj hq; subst e; exact k3
    | 4, hq => have e := Option.some.inj hq; subst e; exact k4
    | 5, hq => have e := Option.some.inj hq; subst e; exact k5
    | 6, hq => have e := Option.some.inj hq; subst e; exact k6
    | 7, hq => have e := Option.some.inj hq; subst e; exact k7
    | 8, hq => have e := Option.some.inj hq; subst e; exact k8
    | 9, hq => have e := Option.some.inj hq; subst e; exact k9
    | n + 10, hq => exact absurd (List.getElem?_eq_some_iff.mp hq).1 (by show ¬ n + 10 < 10; omega)
  · match k, hq with
    | 0, hq => have e := Option.some.inj hq; subst e; exact ⟨p2, q2⟩
    | 1, hq => have e := Option.some.inj hq; subst e; exact ⟨p3, q3⟩
    | 2, hq => have e := Option.some.inj hq; subst e; exact ⟨p4, q4⟩
    | 3, hq => have e := Option.some.inj hq; subst e; exact ⟨p5, q5⟩
    | 4, hq => have e := Option.some.inj hq; subst e; exact ⟨p6, q6⟩
    | n + 5, hq => exact absurd (List.getElem?_eq_some_iff.mp hq).1 (by show ¬ n + 5 < 5; omega)
def zs_tm (i : Nat) : Term := Term.string (zv_sown i) (zv_six.getD i 0)
def zs_val (i : Nat) : Term := Term.field (zs_tm i) "java/lang/String" "value" "[B"
def zs_el (i j : Nat) : Cond := Cond.eq (.elem (zs_val i) (.int (Int32.ofNat j))) (.int ((zv_sb.getD i []).getD j 0))
def zs_T (i : Nat) : List Cond := [Cond.exactly (zs_tm i) "java/lang/String", Cond.eq (.field (zs_tm i) "java/lang/String" "coder" "B") (.int 0), Cond.arrayOf (zs_val i) .byte, Cond.eq (.length (zs_val i)) (.int (Int32.ofNat (zv_sl.getD i 0)))] ++ ((List.range (zv_sl.getD i 0)).map (zs_el i) ++ (List.range i).map fun j => Cond.not (Cond.eq (zs_tm j) (zs_tm i)))
def zs_F : List Cond := (flatC narrow_1).take 7 ++ (List.range 24).flatMap zs_T
theorem zs_flat : flatC narrow_1 = zs_F := by decide +kernel
theorem zs_mem {args : Array Value} {s : State} (h : (Jvm.Cond.and given_1 narrow_1).before args s = true) {i : Nat} (hi : i < 24) {w : Cond} (hw : w ∈ zs_T i) : w.before args s = true := by
  refine flat_of_before _ h _ ?_
  show w ∈ flatC given_1 ++ flatC narrow_1
  rw [zs_flat]
  exact List.mem_append_right _ (List.mem_append_right _ (List.mem_flatMap.mpr ⟨i, List.mem_range.mpr hi, hw⟩))
theorem zs_len : ∀ i : Nat, i < 24 → zv_sl.getD i 0 < 2 ^ 31 := by decide +kernel
theorem zs_S {args : Array Value} {s : State} {A : Nat → Prop} (h : (Jvm.Cond.and given_1 narrow_1).before args s = true) (hA : ∀ a : Nat, a < s.heap.size → ¬ A a) :
    ∃ adK adV : Nat → Nat, vk_S 24 zv_sl zv_sb adK adV A s s.heap ∧ ∀ i : Nat, i < 24 → (zs_tm i).eval args s none [] s = some (.ref (adK i)) := by
  refine vk_Sof (tm := zs_tm) zs_len (fun i hi => zs_mem h hi ?_) (fun i hi => zs_mem h hi ?_) (fun i hi => zs_mem h hi ?_) (fun i hi => zs_mem h hi ?_) (fun i hi j hj => zs_mem h hi (w := zs_el i j) ?_) (fun i j hi hj hij => ?_) hA
  · exact List.mem_cons_self
  · exact List.mem_cons_of_mem _ List.mem_cons_self
  · exact List.mem_cons_of_mem _ (List.mem_cons_of_mem _ List.mem_cons_self)
  · exact List.mem_cons_of_mem _ (List.mem_cons_of_mem _ (List.mem_cons_of_mem _ List.mem_cons_self))
  · exact List.mem_append_right _ (List.mem_append_left _ (List.mem_map.mpr ⟨j, List.mem_range.mpr hj, rfl⟩))
  · rcases Nat.lt_or_gt_of_ne hij with q | q
    · exact Or.inl (zs_mem h hj (List.mem_append_right _ (List.mem_append_right _ (List.mem_map.mpr ⟨i, List.mem_range.mpr q, rfl⟩))))
    · exact Or.inr (zs_mem h hi (List.mem_append_right _ (List.mem_append_right _ (List.mem_map.mpr ⟨j, List.mem_range.mpr q, rfl⟩))))
theorem zs_ref : ∀ i : Nat, i < 24 → Cond.stringRef (zv_sown i) (zv_six.getD i 0) (zv_stx.getD i "") ∈ lw_tbl := by
  intro i hi
  match i, hi with
  | 0, _ => exact (List.mem_append_right _ (zv_t1_3 13 rfl))
  | 1, _ => exact (List.mem_append_right _ (zv_t1_3 99 rfl))
  | 2, _ => exact (List.mem_append_right _ (zv_t1_3 113 rfl))
  | 3, _ => exact (List.mem_append_right _ (zv_t1_3 118 rfl))
  | 4, _ => exact (List.mem_append_right _ (zv_t1_3 119 rfl))
  | 5, _ => exact (List.mem_append_right _ (zv_t1_3 120 rfl))
  | 6, _ => exact (List.mem_append_right _ (zv_t1_3 121 rfl))
  | 7, _ => exact (List.mem_append_right _ (zv_t1_3 122 rfl))
  | 8, _ => exact (List.mem_append_right _ (zv_t1_3 123 rfl))
  | 9, _ => exact (List.mem_append_right _ (zv_t1_3 130 rfl))
  | 10, _ => exact (List.mem_append_right _ (zv_t1_3 131 rfl))
  | 11, _ => exact (List.mem_append_right _ (zv_t1_3 144 rfl))
  | 12, _ => exact (List.mem_append_right _ (zv_t1_3 145 rfl))
  | 13, _ => exact (List.mem_append_right _ (zv_t1_3 146 rfl))
  | 14, _ => exact (List.mem_append_right _ (zv_t1_3 147 rfl))
  | 15, _ => exact (List.mem_append_right _ (zv_t1_3 148 rfl))
  | 16, _ => exact (List.mem_append_right _ (zv_t1_3 149 rfl))
  | 17, _ => exact (List.mem_append_right _ (zv_t1_3 150 rfl))
  | 18, _ => exact (List.mem_append_right _ (zv_t1_3 151 rfl))
  | 19, _ => exact (List.mem_append_right _ (zv_t1_3 152 rfl))
  | 20, _ => exact (List.mem_append_right _ (zv_t1_3 153 rfl))
  | 21, _ => exact (List.mem_append_right _ (zv_t1_3 154 rfl))
  | 22, _ => exact (List.mem_append_right _ (zv_t1_3 155 rfl))
  | 23, _ => exact (List.mem_append_right _ (zv_t1_6 238 rfl))
  | n + 24, h => exact absurd h (by omega)
/-- where what stood there before lies -/
def zs_ak (b : Nat) (adK adV : Nat → Nat) : Nat → Nat := fun r => if r = 2000000 then b else if r < 1000100 then adK (r - 1000000) else adV (r - 1000100)
theorem zs_akK {b : Nat} {adK adV : Nat → Nat} {i : Nat} (hi : i < 24) : zs_ak b adK adV (1000000 + i) = adK i := by
  unfold zs_ak
  rw [if_neg (by omega), if_pos (by omega), Nat.add_sub_cancel_left]
theorem zs_akV {b : Nat} {adK adV : Nat → Nat} {i : Nat} (hi : i < 24) : zs_ak b adK adV (1000100 + i) = adV i := by
  unfold zs_ak
  rw [if_neg (by omega), if_neg (by omega), Nat.add_sub_cancel_left]
theorem zs_SS {args : Array Value} {s : State} {b ba : Nat} (hts : ∀ w ∈ lw_tbl, w.before args s = true) (h : (Jvm.Cond.and given_1 narrow_1).before args s = true) (hba : s.heap.size = ba + 1) : ∃ adK adV : Nat → Nat, zv_SS ba (zs_ak b adK adV) adV s := by
  have hA : ∀ a : Nat, a < s.heap.size → ¬ zv_Ac ba a := fun a h1 h2 => by
    have h3 : ba < a := h2
    omega
  have hs := flat_of_before _ h
  obtain ⟨adK, adV, hS, hE⟩ := zs_S (A := zv_Ac ba) h hA
  refine ⟨adK, adV, ⟨fun i hi => ?_, fun i j hi hj e => ?_⟩, fun i hi => ?_, ?_, ?_⟩
  · have e1 := zs_akK (b := b) (adK := adK) (adV := adV) hi
    have e2 := zs_akV (b := b) (adK := adK) (adV := adV) hi
    have q := hS.1 i hi
    dsimp only
    rw [e1, e2]
    exact q
  · dsimp only at e
    rw [zs_akK hi, zs_akK hj] at e
    exact hS.2 i j hi hj e
  · rw [zs_akK hi]
    exact vk_R.of (hts _ (zs_ref i hi)) (hE i hi)
  · exact va_Zof (hts (.laysStatic "java/lang/String" "COMPACT_STRINGS" "Z") (List.mem_append_right _ (zv_t1_3 27 rfl))) (hts (.initialized "java/lang/String") (List.mem_append_right _ (zv_t1_1 12 rfl))) (va_eqi (hs _ (List.mem_append_right _ (List.mem_of_getElem? (i := 2) rfl)))) hA
  · exact va_Zqof (hts (.laysStatic "jdk/internal/util/Preconditions" "SIOOBE_FORMATTER" "Ljava/util/function/BiFunction;") (List.mem_append_right _ (zv_t1_3 43 rfl))) (hts (.initialized "jdk/internal/util/Preconditions") (List.mem_append_right _ (zv_t1_1 14 rfl))) (hs _ (List.mem_append_right _ (List.mem_of_getElem? (i := 3) rfl))) hA
theorem zs_NF {args : Array Value} {s : State} (hts : ∀ w ∈ lw_tbl, w.before args s = true) : zv_NF s := fun _ _ _ _ _ _ h => va_Nw.of rfl (hts _ (List.mem_append_right _ h))
theorem zs_NM {args : Array Value} {s : State} (hts : ∀ w ∈ lw_tbl, w.before args s = true) : zv_NM s := fun _ _ _ _ h => va_Nw.of rfl (hts _ (List.mem_append_right _ h))
theorem zs_AO {args : Array Value} {s : State} (hts : ∀ w ∈ lw_tbl, w.before args s = true) : va_AO "BranchedText$State" s := va_AO.of (hts (.arrayOver (.object "BranchedText$State")) (List.mem_append_right _ (zv_t1_1 203 rfl)))
