/-! the contracts of the program's methods, by depth -/
def zv_vP (o : Option Nat) (M : zv_M) : Prop := M.1.1 = M.1.2.1.cls ∧ plainName M.1.2.1.cls = true ∧ ∀ ci, o = some ci → (ci = 10 ∧ M.1.2.1.cls = "java/lang/String") ∨ ∃ q, ¬ ci = 10 ∧ vwCl[ci]? = some q ∧ q.1 = M.1.2.1.cls
theorem zv_aw : nativeFrameWords "java/lang/System" "arraycopy" 5 ≤ 100 := by decide +kernel
theorem zv_nar_bool {x : Int} (hx : x = 0 ∨ x = 1) : narrow .boolean (.int (Int32.ofInt x)) = .int (Int32.ofInt x) := by
  rcases hx with rfl | rfl <;> rfl
theorem zv_nar_byte {x : Int} (hx : -128 ≤ x ∧ x ≤ 127) : narrow .byte (.int (Int32.ofInt x)) = .int (Int32.ofInt x) := by
  have h : (Int32.ofInt x).toInt8.toInt32 = Int32.ofInt x := by
    apply Int32.toInt_inj.mp
    rw [Int8.toInt_toInt32, Int32.toInt_toInt8, zv_toInt (by unfold zv_rg; omega)]
    rw [Int.bmod_def]
    split <;> omega
  show Value.int (Int32.ofInt x).toInt8.toInt32 = _
  rw [h]
theorem zv_nar_char {x : Int} (hx : 0 ≤ x ∧ x ≤ 65535) : narrow .char (.int (Int32.ofInt x)) = .int (Int32.ofInt x) := by
  have hn : (Int32.ofInt x).toUInt32.toNat = x.toNat := by
    have e : (Int32.ofInt x).toUInt32.toNat = (Int32.ofInt x).toBitVec.toNat := rfl
    rw [e, Int32.toBitVec_ofInt, BitVec.toNat_ofInt]
    have : ((2 ^ 32 : Nat) : Int) = 4294967296 := by decide
    omega
  have h0 : (Int32.ofInt x).toUInt32.toUInt16.toUInt32 = (Int32.ofInt x).toUInt32 := by
    apply UInt32.toNat_inj.mp
    rw [UInt16.toNat_toUInt32, UInt32.toNat_toUInt16, hn]
    omega
  have h : (Int32.ofInt x).toUInt32.toUInt16.toUInt32.toInt32 = Int32.ofInt x := by
    rw [h0]
    rfl
  show Value.int (Int32.ofInt x).toUInt32.toUInt16.toUInt32.toInt32 = _
  rw [h]
theorem zv_met_ok {l : Launch} {D : va_G} {g : Nat → ClassId} {ba : Nat} {ak adV : Nat → Nat} {d : Nat} {oc : zv_C} (hC : zv_HC oc l D g ba ak adV d) {M : zv_M} (hV : zv_vM M) {o : Option Nat} (hP : zv_vP o M) {as : List zv_V} (hw : zv_wd as ≤ M.1.2.2.2.1) {h : zv_H} {rv : Option zv_V} {hE : zv_H} (hr : zv_lim oc M 0 (zv_en as M.1.2.2.2.1) [] h = some (rv, hE)) (hmo : zv_mo h hE) :
    Met l M.1.2.1 (Cond.code M.1.2.1 M.1.2.2.1 M.1.2.2.2.1 M.1.2.2.2.2 :: zv_tb) (zv_rm (d + 1) h hE) (zv_Pc D g ba ak adV as h) (zv_Qc D g ba ak rv hE) (zv_n hE - zv_n h) (zv_s hE - zv_s h) (zv_Ac ba) := by
  refine Met.ofW (cc := M.1.2.2.1) (maxL := M.1.2.2.2.1) (ret := M.1.2.2.2.2) hP.2.1 rfl ?_
  intro p e s m args below meth c s₁ B hml hv
  obtain ⟨rfl, hg, hRH, hK, hNF, hNM, hAO, hSS, hSC⟩ := hv
  have hts : ∀ w ∈ zv_tb, w.before (as.map (zv_cv ba ak)).toArray s = true := fun w hw => atoms_spec (ws := Cond.code M.1.2.1 M.1.2.2.1 M.1.2.2.2.1 M.1.2.2.2.2 :: zv_tb) B.pre w (List.mem_cons_of_mem _ hw)
  have hown : s.vm.findClass M.1.1 = some m.cls := by
    rw [hP.1]
    exact findClass_of_methodNamed B.named
  have hlocks := B.notSynchronized
  have hret := B.returns
  have hname : meth.name = M.1.2.1.name := (name_of_methodNamed B.named B.method).1
  have cx : zv_CX p l (headSpec (Cond.code M.1.2.1 M.1.2.2.1 M.1.2.2.2.1 M.1.2.2.2.2 :: zv_tb) (zv_rm (d + 1) h hE)).room s (as.map (zv_cv ba ak)).toArray m meth c M D g ba ak adV (zv_n h) (zv_s h) hE :=
    ⟨⟨B.exec, B.bytes, hml, hown, hts⟩, ⟨hK, hNF, hNM, hAO, hSS⟩, fun q => hname.trans q, hRH.1, by show zv_n hE ≤ zv_n hE - zv_n h + zv_n h; omega, by show zv_s hE ≤ zv_s hE - zv_s h + zv_s h; omega, hV⟩
  have he : zv_HE p l e (headSpec (Cond.code M.1.2.1 M.1.2.2.1 M.1.2.2.2.1 M.1.2.2.2.2 :: zv_tb) (zv_rm (d + 1) h hE)).room s m (as.map (zv_cv ba ak)).toArray below meth c (MQ below (zv_Qc D g ba ak rv hE) (as.map (zv_cv ba ak)).toArray s (zv_n hE - zv_n h) (zv_s hE - zv_s h) (zv_Ac ba)) M D g ba ak (zv_n h) (zv_s h) rv hE := by
    intro H locs lsR pc cells slots b1 b2 b3 b4
    have e1 : zv_n hE - zv_n h = cells := by omega
    have e2 : zv_s hE - zv_s h = slots := by omega
    rw [e1, e2]
    refine ⟨fun x hx hrg ht hdg => ?_, fun x hx ht hdg => ?_, fun r C hx ht hdg => ?_, fun hx ht hdg => ?_⟩
    · subst hx
      rcases ht with ht | ⟨ht, h01⟩ | ⟨ht, h01⟩ | ⟨ht, h01⟩
      · exact W.zret B.exec B.bytes (hret.trans ht) rfl (fun t ht hW => ⟨rfl, hrg, by rw [ht]; exact b1, b2.F ht⟩) b2.2.2 hdg hlocks
      · exact W.zret B.exec B.bytes (hret.trans ht) (zv_nar_bool h01) (fun t ht hW => ⟨rfl, hrg, by rw [ht]; exact b1, b2.F ht⟩) b2.2.2 hdg hlocks
      · exact W.zret B.exec B.bytes (hret.trans ht) (zv_nar_char h01) (fun t ht hW => ⟨rfl, hrg, by rw [ht]; exact b1, b2.F ht⟩) b2.2.2 hdg hlocks
      · exact W.zret B.exec B.bytes (hret.trans ht) (zv_nar_byte h01) (fun t ht hW => ⟨rfl, hrg, by rw [ht]; exact b1, b2.F ht⟩) b2.2.2 hdg hlocks
    · subst hx
      exact W.lret B.exec B.bytes (hret.trans ht) (fun t ht hW => ⟨rfl, trivial, by rw [ht]; exact b1, b2.F ht⟩) b2.2.2 hdg hlocks
    · subst hx
      refine W.aret B.exec B.bytes (hret.trans ht) (Or.inl ⟨C, rfl⟩) ?_ (fun t ht hW => ⟨rfl, trivial, by rw [ht]; exact b1, b2.F ht⟩) b2.2.2 hdg hlocks
      rcases zv_ad_cases ba ak r with ⟨-, q⟩ | ⟨a, q⟩
      · exact Or.inl q
      · exact Or.inr ⟨a, q⟩
    · subst hx
      exact W.vret B.exec B.bytes (hret.trans ht) (fun t ht hW => ⟨rfl, trivial, by rw [ht]; exact b1, b2.F ht⟩) b2.2.2 hdg hlocks
  have haw := zv_aw
  have hok := zv_lim_ok cx he hC (by show d + 9 ≤ d + 1 + 8; omega) (by show 60 * (d + 9) ≤ 60 * (d + 1 + 8); omega) (by show _ ≤ 60 * (d + 1 + 8); omega) hr
  have hll := zv_lg_len ba ak as
  have hl := lv_entry (as.map (zv_cv ba ak)) (n := M.1.2.2.2.1) (by omega)
  rw [lg_entry_eq]
  refine hok.2 s.heap [] 0 0 _ ⟨by rw [hl.1, zv_en_len as _ hw], hl.2.1, fun i v hv => ?_⟩ (zv_en_len as _ hw) (fun v hv => by cases hv) hRH va_S.rf (Nat.zero_add _) (Nat.zero_add _) hSC
  have := zv_en_ld ba ak as M.1.2.2.2.1 0 i v hv
  rw [Nat.zero_add] at this
  exact ⟨hl.2.2 _ this.1, hg v this.2⟩
/-- the JDK's members -/
def zv_JOK (l : Launch) (D : va_G) (g : Nat → ClassId) (ba : Nat) (ak adV : Nat → Nat) : Prop := ∀ d id as h o h1, 900 ≤ id → zv_jd id as h = some (o, h1) → zv_cal l D g ba ak adV (d + 1) id as h o h1
theorem zv_sem_cal {l : Launch} {D : va_G} {g : Nat → ClassId} {ba : Nat} {ak adV : Nat → Nat} (hJ : zv_JOK l D g ba ak adV) (hV : ∀ id o M, zv_prog id = some (o, M) → zv_vM M ∧ zv_vP o M) {d : Nat} (hC : zv_HC (zv_cs zv_prog d) l D g ba ak adV d) {id : Nat} {as : List zv_V} {h : zv_H} {o : Option zv_V} {h1 : zv_H} (hr : zv_sem zv_prog (zv_cs zv_prog d) id as h = some (o, h1)) : zv_cal l D g ba ak adV (d + 1) id as h o h1 := by
  have hmo := zv_mn_sem (zv_HM_cs zv_prog d) hr
  unfold zv_sem at hr
  split at hr
  · exact hJ d id as h o h1 ‹_› hr
  · rename_i hid
    cases hp : zv_prog id with
    | none => rw [hp] at hr; cases hr
    | some q =>
      obtain ⟨oo, M⟩ := q
      rw [hp] at hr
      dsimp only at hr
      split at hr
      · rename_i hq
        obtain ⟨hrc, hwd⟩ := hq
        obtain ⟨hv, hP⟩ := hV id oo M hp
        have hinf : zv_inf id = some M.1.2 := by
          unfold zv_inf
          rw [if_neg hid, hp]
          rfl
        refine ⟨hmo, fun hI y bytes maxL ret e => ?_, fun y bytes maxL ret e => ?_⟩
        · rw [hinf] at e
          have e2 := Option.some.inj e
          have hy : M.1.2.1 = y := congrArg Prod.fst e2
          unfold zv_isI at hI
          rw [if_neg hid, hp] at hI
          cases oo with
          | none => cases hI
          | some ci =>
            unfold zv_rc at hrc
            split at hrc
            · rename_i e3; cases e3
            · rename_i ci' r t e3
              cases e3
              rcases hP.2.2 ci rfl with ⟨h10, hS⟩ | ⟨q, h10, hq1, hq2⟩
              · rw [if_pos h10] at hrc
                exact ⟨r, t, rfl, Or.inr ⟨hrc.1, hrc.2, by rw [← hy]; exact hS⟩⟩
              · rw [if_neg h10] at hrc
                exact ⟨r, t, rfl, Or.inl ⟨ci, q, hrc, hq1, hq2.trans (congrArg MethodName.cls hy)⟩⟩
            · exact hrc.elim
        · rw [hinf] at e
          have e2 := Option.some.inj e
          have := zv_met_ok hC hv hP hwd hr hmo
          have h1 : M.1.2.1 = y := congrArg Prod.fst e2
          have h2 : M.1.2.2.1 = bytes := congrArg (fun z => z.2.1) e2
          have h3 : M.1.2.2.2.1 = maxL := congrArg (fun z => z.2.2.1) e2
          have h4 : M.1.2.2.2.2 = ret := congrArg (fun z => z.2.2.2) e2
          rw [h1, h2, h3, h4] at this
          exact this
      · cases hr
theorem zv_HC_cs {l : Launch} {D : va_G} {g : Nat → ClassId} {ba : Nat} {ak adV : Nat → Nat} (hJ : zv_JOK l D g ba ak adV) (hV : ∀ id o M, zv_prog id = some (o, M) → zv_vM M ∧ zv_vP o M) : ∀ d, zv_HC (zv_cs zv_prog d) l D g ba ak adV d
  | 0 => ⟨fun _ _ _ _ e => (by cases e), fun _ _ _ _ _ e => (by cases e), fun _ _ _ _ _ e => (by cases e), fun _ _ _ _ _ e => (by cases e)⟩
  | d + 1 => ⟨fun _ _ _ _ e => zv_sem_cal hJ hV (zv_HC_cs hJ hV d) (zv_pjV_eq e), fun _ _ _ _ _ e => zv_sem_cal hJ hV (zv_HC_cs hJ hV d) (zv_pjI_eq e), fun _ _ _ _ _ e => zv_sem_cal hJ hV (zv_HC_cs hJ hV d) (zv_pjJ_eq e), fun _ _ _ _ _ e => zv_sem_cal hJ hV (zv_HC_cs hJ hV d) (zv_pjR_eq e)⟩
