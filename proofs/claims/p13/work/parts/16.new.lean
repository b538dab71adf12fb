/-! 16.new -/
section
/-! new cells; copies; the script -/
theorem zv_n_mk (h : zv_H) (w : Nat) : zv_n (zv_mk h w) = zv_n h + 1 := rfl
theorem zv_s_mk (h : zv_H) (w : Nat) : zv_s (zv_mk h w) = zv_s h + w := rfl
theorem zv_I_mk (h : zv_H) (w a b : Nat) : zv_I (zv_mk h w) a b = if a = zv_n h + 1 then 0 else zv_I h a b := rfl
theorem zv_J_mk (h : zv_H) (w a b : Nat) : zv_J (zv_mk h w) a b = if a = zv_n h + 1 then 0 else zv_J h a b := rfl
theorem zv_R_mk (h : zv_H) (w a b : Nat) : zv_R (zv_mk h w) a b = if a = zv_n h + 1 then 0 else zv_R h a b := rfl
theorem zv_el_mk {g : Nat → ClassId} {ba : Nat} {ak : Nat → Nat} {h : zv_H} {w q : Nat} (hq : q ≤ zv_n h) : zv_el g ba ak (zv_mk h w) q = zv_el g ba ak h q :=
  zv_el_congr (fun j => by rw [zv_I_mk, if_neg (by omega)]) (fun j => by rw [zv_J_mk, if_neg (by omega)]) (fun j => by rw [zv_R_mk, if_neg (by omega)])
theorem zv_hg_mk {h : zv_H} {w : Nat} (hh : zv_hg h) : zv_hg (zv_mk h w) := by
  intro a b
  rw [zv_I_mk]
  split
  · exact zv_rg0
  · exact hh a b
section ZNEW
variable {p : Program} {l : Launch} {e : Env} {R : Room} {s : State} {m : MethodId} {args : Array Value} {below : List Frame} {meth : Method} {c : Code} {H : Heap} {locs : List Loc} {cells slots : Nat} {Q : State → Prop}
variable {cc : ByteArray} {pc : Nat} {ba : Nat} {ak : Nat → Nat} {D : va_G} {g : Nat → ClassId} {lsR : Array Slot} {rest : List Value} {own : String}
/-- the cell that was made lies where the next number says -/
theorem zv_fresh {h h' : zv_H} {x : va_E} {q : Nat} {H1 : Heap} {len : Nat} {sl : Nat} (hR : zv_RH D g ba ak h H) (hS : va_S (zv_Ac ba) s.heap H locs) (hsc : s.heap.size + cells = ba + zv_n h + 1) (hn' : zv_n h' = zv_n h + 1) (hg' : zv_hg h') (hlay : ¬ (zv_lay (zv_n h + 1)).1 = 0) (hel : zv_el g ba ak h' (zv_n h + 1) = x) (hne : ∀ q, q ≤ zv_n h → zv_el g ba ak h' q = zv_el g ba ak h q)
    (q1 : va_P D vwCl (zv_ws g ba ak h ++ [(q, x)]) H1) (q2 : va_D (zv_Ac ba) (zv_ws g ba ak h ++ [(q, x)])) (q3 : va_S (zv_Ac ba) H H1 locs)
    (kk : zv_RH D g ba ak h' H1 → va_S (zv_Ac ba) s.heap H1 locs → W p l e R s m args below meth c H1 locs (cells + 1) sl Q (F0 m (pc + len) lsR (va_rf (zv_ad ba ak (zv_n h + 1)) :: rest))) : W p l e R s m args below meth c H1 locs (cells + 1) sl Q (F0 m (pc + len) lsR (.ref q :: rest)) := by
  refine zv_Wsz fun hz => ?_
  have hlen : (zv_ws g ba ak h).length = zv_n h := by unfold zv_ws; simp
  have hlast : (zv_ws g ba ak h ++ [(q, x)])[zv_n h]? = some (q, x) := by
    rw [List.getElem?_append_right (by omega), hlen, Nat.sub_self]
    rfl
  have hlt := (q1 _ _ hlast).lt
  have hgt := q2.2 _ _ hlast
  have h1 := hR.1
  have h3 := q3.1
  have hq : q = ba + (zv_n h + 1) := by
    dsimp only at hlt hgt
    unfold zv_Ac at hgt
    by_cases hc : q ≤ ba + zv_n h
    · exfalso
      have hk : (zv_ws g ba ak h ++ [(q, x)])[q - ba - 1]? = some (ba + (q - ba), zv_el g ba ak h (q - ba)) := by
        rw [List.getElem?_append_left (by omega)]
        exact zv_ws_at (by omega) (by omega)
      have := q2.1 _ _ _ _ hk hlast (by dsimp only; omega)
      omega
    · omega
  subst hq
  have hws : zv_ws g ba ak h' = zv_ws g ba ak h ++ [(ba + (zv_n h + 1), x)] := by rw [zv_ws_push hn' hne, hel]
  rw [← hws] at q1
  have hl := zv_lay_lt hlay
  rw [show (Value.ref (ba + (zv_n h + 1))) = va_rf (zv_ad ba ak (zv_n h + 1)) from (zv_ad_in (n := zv_n h + 1) (by omega) (Nat.le_refl _) (by omega)).symm]
  exact kk ⟨by rw [hn']; dsimp only at hlt; omega, q1, hg', by omega⟩ (zv_Str hS q3)
theorem zv_new_ok (hx : p.tables.exec = Jvm.exec) (hb : c.code = cc) (hts : ∀ w ∈ zv_tb, w.before args s = true) (hown : s.vm.findClass own = some m.cls) (hK : va_K D vwCl (zv_tys g) s) {h : zv_H} (hR : zv_RH D g ba ak h H) (hS : va_S (zv_Ac ba) s.heap H locs) (hsc : s.heap.size + cells = ba + zv_n h + 1)
    {ci ix : Nat} {C : String} {T : u_T} {N : Nat} {ty : Nat → FieldType} (hCF : zv_CF ci C T N ty) (w1 : Cond.classLink own ix C ∈ zv_tb) (w2 : Cond.instantiable C N ∈ zv_tb) (w3 : Cond.initialized C ∈ zv_tb) (hlay : zv_lay (zv_n h + 1) = (1, ci)) (hc1 : cells + 1 ≤ R.cells) (hc2 : slots + zv_nf ci ≤ R.slots) (hdg : decode cc pc = .ok (.new ix, 3))
    (kk : ∀ H1, zv_RH D g ba ak (zv_mk h (zv_nf ci)) H1 → va_S (zv_Ac ba) s.heap H1 locs → W p l e R s m args below meth c H1 locs (cells + 1) (slots + zv_nf ci) Q (F0 m (pc + 3) lsR (va_rf (zv_ad ba ak (zv_n h + 1)) :: rest))) : W p l e R s m args below meth c H locs cells slots Q (F0 m pc lsR rest) := by
  obtain ⟨h1, h2, h3, h4, h5, h6, h7⟩ := hCF
  rw [← h2] at hc2 kk
  have hsz := hR.1
  refine va_new (fs := zv_fs ba ak (zv_mk h N) (zv_n h + 1) ci) hx hb hts h3 ty h4 hown (hts _ w1) (hts _ w2) (hts _ w3) hK hR.2.1 (zv_ws_D g ba ak h) (zv_Srf hS) (fun q hq => by unfold zv_Ac; omega) h1 (fun j hj => ?_) hc1 hc2 hdg (fun q H1 q1 q2 q3 => ?_)
  · have hat := zv_fs_at (ba := ba) (ak := ak) (h := zv_mk h N) (r := zv_n h + 1) (ci := ci) (k := j) (h2 ▸ hj)
    unfold vp_V
    rw [List.getD_eq_getElem?_getD, hat]
    have hk := h7 j hj
    show defaultValue (ty j) = zv_fv ba ak (zv_mk h N) (zv_n h + 1) ci j
    unfold zv_fv
    rw [zv_I_mk, zv_J_mk, zv_R_mk, if_pos rfl, if_pos rfl, if_pos rfl]
    unfold zv_tyk at hk
    split at hk
    · rename_i z; rw [z, hk]; rfl
    · rename_i z; rw [z, hk]; rfl
    · rename_i z; rw [z, hk]; rfl
    · rename_i z
      rw [z]
      rcases hk with ⟨y, hk⟩ | ⟨y, hk⟩ <;> rw [hk] <;> rfl
    · exact hk.elim
  · exact zv_fresh (h' := zv_mk h N) hR hS hsc rfl (zv_hg_mk hR.2.2.1) (by rw [hlay]; exact Nat.one_ne_zero) (zv_el_obj hlay) (fun q hq => zv_el_mk hq) q1 q2 q3 (kk H1)
/-- an array of numbers -/
theorem zv_newa_ok (hx : p.tables.exec = Jvm.exec) (hb : c.code = cc) {at' : ArrayType} {ty : FieldType} (hat : newarray.typeOf at' = ty) (harr : (Cond.arrayClass (newarray.typeOf at')).before args s = true) (hK : va_K D vwCl (zv_tys g) s) {h : zv_H} (hR : zv_RH D g ba ak h H) (hS : va_S (zv_Ac ba) s.heap H locs) (hsc : s.heap.size + cells = ba + zv_n h + 1)
    {kd : Nat} {x : Int} {a0 : vp_A} (hx0 : 0 ≤ x ∧ x ≤ 60000) (hlay : zv_lay (zv_n h + 1) = (kd, x.toNat)) (hkd : ¬ kd = 0) {t0 : Nat} {cA : ClassId} (ht : (zv_tys g)[t0]? = some (cA, ty)) (hnm : ∀ C, ¬ ty = .object C) (hel : zv_el g ba ak (zv_mk h x.toNat) (zv_n h + 1) = .inl (cA, a0)) (ha : ∀ cA : ClassId, vp_cell cA a0 = arrV cA x.toNat (fun _ => defaultValue ty)) (hbyt : componentBytes ty ≤ 8) (hc1 : cells + 1 ≤ R.cells) (hc2 : slots + x.toNat ≤ R.slots) (hdg : decode cc pc = .ok (.newarray at', 2))
    (kk : ∀ H1, zv_RH D g ba ak (zv_mk h x.toNat) H1 → va_S (zv_Ac ba) s.heap H1 locs → W p l e R s m args below meth c H1 locs (cells + 1) (slots + x.toNat) Q (F0 m (pc + 2) lsR (va_rf (zv_ad ba ak (zv_n h + 1)) :: rest))) : W p l e R s m args below meth c H locs cells slots Q (F0 m pc lsR (.int (Int32.ofInt x) :: rest)) := by
  have hrx : zv_rg x := by unfold zv_rg; omega
  have hsz := hR.1
  refine va_newa hx hb harr hat hK hR.2.1 (zv_ws_D g ba ak h) (zv_Srf hS) (fun q hq => by unfold zv_Ac; omega) ha (fun z => by have := (zv_lt0 hrx).mp z; omega) (zv_clamp hrx hx0.1) (Nat.le_trans (Nat.mul_le_mul (show x.toNat ≤ 60000 by omega) hbyt) (Nat.le_of_ble_eq_true rfl)) hc1 hc2 hdg (fun q cB H1 hK1 q1 q2 q3 => ?_)
  have hcc : cB = cA := by
    have e1 := (hK.2 t0 _ ht).2
    have e2 := (hK1.2 5 (cB, ty) rfl).2
    unfold va_RA at e1 e2
    cases ty with
    | object C => exact absurd rfl (hnm C)
    | _ => exact Option.some.inj (e2.symm.trans e1)
  subst hcc
  exact zv_fresh (h' := zv_mk h x.toNat) hR hS hsc rfl (zv_hg_mk hR.2.2.1) (by rw [hlay]; exact hkd) hel (fun q hq => zv_el_mk hq) q1 q2 q3 (kk H1)
theorem zv_newq_ok (hx : p.tables.exec = Jvm.exec) (hb : c.code = cc) (hown : s.vm.findClass own = some m.cls) (hover : va_AO "BranchedText$State" s) (hK : va_K D vwCl (zv_tys g) s) {h : zv_H} (hR : zv_RH D g ba ak h H) (hS : va_S (zv_Ac ba) s.heap H locs) (hsc : s.heap.size + cells = ba + zv_n h + 1)
    {ix : Nat} {x : Int} (hx0 : 0 ≤ x ∧ x ≤ 60000) (w1 : (Cond.classLink own ix "BranchedText$State").before args s = true) (hlay : zv_lay (zv_n h + 1) = (6, x.toNat)) (hc1 : cells + 1 ≤ R.cells) (hc2 : slots + x.toNat ≤ R.slots) (hdg : decode cc pc = .ok (.anewarray ix, 3))
    (kk : ∀ H1, zv_RH D g ba ak (zv_mk h x.toNat) H1 → va_S (zv_Ac ba) s.heap H1 locs → W p l e R s m args below meth c H1 locs (cells + 1) (slots + x.toNat) Q (F0 m (pc + 3) lsR (va_rf (zv_ad ba ak (zv_n h + 1)) :: rest))) : W p l e R s m args below meth c H locs cells slots Q (F0 m pc lsR (.int (Int32.ofInt x) :: rest)) := by
  have hrx : zv_rg x := by unfold zv_rg; omega
  have hsz := hR.1
  refine va_newq hx hb hown w1 hover hK hR.2.1 (zv_ws_D g ba ak h) (zv_Srf hS) (fun q hq => by unfold zv_Ac; omega) (fun z => by have := (zv_lt0 hrx).mp z; omega) (zv_clamp hrx hx0.1) (by omega) hc1 hc2 hdg (fun q cB H1 hK1 q1 q2 q3 => ?_)
  have hcc : cB = g 6 := by
    obtain ⟨_, _, -, -, -, e1⟩ := (hK.2 4 (g 6, .object "BranchedText$State") rfl).2
    obtain ⟨_, _, -, -, -, e2⟩ := (hK1.2 5 (cB, .object "BranchedText$State") rfl).2
    exact Option.some.inj (e2.symm.trans e1)
  subst hcc
  refine zv_fresh (h' := zv_mk h x.toNat) hR hS hsc rfl (zv_hg_mk hR.2.2.1) (by rw [hlay]; exact Nat.succ_ne_zero 5) ?_ (fun q hq => zv_el_mk hq) q1 q2 q3 (kk H1)
  rw [zv_el_6 (by rw [hlay]), hlay]
  congr 5
  congr 2
  funext j
  rw [zv_R_mk, if_pos rfl]
  rfl
/-- a copy within arrays of ints -/
theorem zv_cy_ok (hx : p.tables.exec = Jvm.exec) (hb : c.code = cc) (hml : c.maxLocals = lsR.size) (hown : s.vm.findClass own = some m.cls) {ix : Nat} (w1 : (Cond.methodLink own ix arraycopyName).before args s = true) (w2 : (Cond.native arraycopyName).before args s = true) (w3 : (Cond.static arraycopyName).before args s = true) (w4 : (Cond.initialized "java/lang/System").before args s = true)
    (hK : va_K D vwCl (zv_tys g) s) {h h' : zv_H} (hR : zv_RH D g ba ak h H) (hS : va_S (zv_Ac ba) s.heap H locs) (hsc : s.heap.size + cells = ba + zv_n h + 1) {sr d : Nat} {sp dp n : Int} (hsp : zv_rg sp) (hdp : zv_rg dp) (hnr : zv_rg n) (ho : zv_cy h sr sp d dp n = some h') (hf : 1 ≤ R.frames) (hlo : (rest.map fun v => v.category).sum + (nativeFrameWords "java/lang/System" "arraycopy" 5 + 11) ≤ R.locals) (hdg : decode cc pc = .ok (.invokestatic ix, 3))
    (kk : ∀ H1 locs1, zv_RH D g ba ak h' H1 → va_S (zv_Ac ba) s.heap H1 locs1 → W p l e R s m args below meth c H1 locs1 cells slots Q (F0 m (pc + 3) lsR rest)) : W p l e R s m args below meth c H locs cells slots Q (F0 m pc lsR (.int (Int32.ofInt n) :: .int (Int32.ofInt dp) :: va_rf (zv_ad ba ak d) :: .int (Int32.ofInt sp) :: va_rf (zv_ad ba ak sr) :: rest)) := by
  unfold zv_cy at ho
  split at ho
  · rename_i q
    obtain ⟨⟨a1, a2, a3, a4⟩, ⟨b1, b2, b3⟩, c1, c2, c3⟩ := q
    cases ho
    have hp1 := zv_lay_pos' (r := sr) (by omega)
    have hp2 := zv_lay_pos' (r := d) (by omega)
    rw [zv_ad_in hp1 a1 hR.2.2.2, zv_ad_in hp2 a2 hR.2.2.2]
    have hcp : ∀ a b, zv_I (zv_cp h sr sp.toNat d dp.toNat n.toNat) a b = if a = d ∧ dp.toNat ≤ b ∧ b < dp.toNat + n.toNat then zv_I h sr (sp.toNat + (b - dp.toNat)) else zv_I h a b := fun _ _ => rfl
    refine va_copyi (ty := .int) hx hb hml hown w1 w2 w3 w4 hK hR.2.1 (zv_ws_D g ba ak h) (zv_Srf hS) (sr - 1) (d - 1) 0 0 (by rw [zv_ws_at hp1 a1, zv_el_2 a3]) (by rw [zv_ws_at hp2 a2, zv_el_2 a4]) rfl rfl rfl (fun z => by have := (zv_lt0 hsp).mp z; omega) (fun z => by have := (zv_lt0 hdp).mp z; omega) (fun z => by have := (zv_lt0 hnr).mp z; omega) (by rw [zv_clamp hsp b1, zv_clamp hnr b3]; omega) (by rw [zv_clamp hdp b2, zv_clamp hnr b3]; omega) (fun _ _ => rfl) hf hlo hdg ?_
    rw [zv_clamp hsp b1, zv_clamp hdp b2, zv_clamp hnr b3]
    intro H1 locs1 q1 q2 q3
    have hel : zv_el g ba ak (zv_cp h sr sp.toNat d dp.toNat n.toNat) d = .inl (g 2, (zv_lay d).2, .inl (va_cpy (fun j => Int32.ofInt (zv_I h sr j)) (fun j => Int32.ofInt (zv_I h d j)) sp.toNat dp.toNat n.toNat)) := by
      rw [zv_el_2 a4]
      congr 3
      congr 1
      funext k
      unfold va_cpy
      rw [hcp]
      by_cases hk : dp.toNat ≤ k ∧ k < dp.toNat + n.toNat
      · rw [if_pos ⟨rfl, hk⟩, if_pos hk]
      · rw [if_neg (fun z => hk z.2), if_neg hk]
    rw [← hel, zv_ws_set (h := h) (h' := zv_cp h sr sp.toNat d dp.toNat n.toNat) hp2 rfl (fun q hq => zv_el_congr (fun j => by rw [hcp, if_neg (fun z => hq z.1)]) (fun _ => rfl) (fun _ => rfl))] at q1
    exact zv_back (h' := zv_cp h sr sp.toNat d dp.toNat n.toNat) hR hS hsc rfl (fun a b => by rw [hcp]; split <;> exact hR.2.2.1 _ _) (kk H1 locs1) q1 q3
  · cases ho
/-- the script -/
def zv_SC (ba : Nat) (ak : Nat → Nat) (s : State) (h : zv_H) : Prop := ∃ xs : Nat → Int32, va_X (ak 2000000) (zv_L h) xs s s.heap ∧ ak 2000000 ≤ ba ∧ zv_L h < 2147483648 ∧ ∀ k, k < zv_L h → zv_X h k = (xs k).toInt
theorem zv_SC.lt {h : zv_H} (hC : zv_SC ba ak s h) : ak 2000000 < s.heap.size := by
  obtain ⟨xs, ⟨scr, h1, -⟩, -⟩ := hC
  exact (Array.getElem?_eq_some_iff.mp h1).1
theorem zv_ad_s (ba : Nat) (ak : Nat → Nat) : va_rf (zv_ad ba ak 2000000) = .ref (ak 2000000) := by
  unfold zv_ad
  rw [if_neg (by omega), if_neg (by omega)]
  rfl
theorem zv_sld_ok (hx : p.tables.exec = Jvm.exec) (hb : c.code = cc) {h : zv_H} (hC : zv_SC ba ak s h) (hS : va_S (zv_Ac ba) s.heap H locs) {j : Int} (hj : zv_rg j) (ho : 0 ≤ j ∧ j < zv_L h) (hdg : decode cc pc = .ok (.iaload, 1))
    (kk : zv_rg (zv_X h j.toNat) → W p l e R s m args below meth c H locs cells slots Q (F0 m (pc + 1) lsR (.int (Int32.ofInt (zv_X h j.toNat)) :: rest))) : W p l e R s m args below meth c H locs cells slots Q (F0 m pc lsR (.int (Int32.ofInt j) :: va_rf (zv_ad ba ak 2000000) :: rest)) := by
  have hlt := hC.lt
  obtain ⟨xs, h1, h2, h3, h4⟩ := hC
  have h5 := h4 j.toNat (by omega)
  rw [h5] at kk
  rw [zv_ad_s]
  exact va_sld hx hb h1 hlt (by unfold zv_Ac; omega) hS (zv_in hj ho.1 ho.2) hdg (by rw [zv_clamp hj ho.1]; have := kk (zv_rg_toInt _); rwa [zv_ofto] at this)
theorem zv_slen_ok (hx : p.tables.exec = Jvm.exec) (hb : c.code = cc) {h : zv_H} (hC : zv_SC ba ak s h) (hS : va_S (zv_Ac ba) s.heap H locs) (hdg : decode cc pc = .ok (.arraylength, 1))
    (kk : W p l e R s m args below meth c H locs cells slots Q (F0 m (pc + 1) lsR (.int (Int32.ofInt (zv_L h)) :: rest))) : W p l e R s m args below meth c H locs cells slots Q (F0 m pc lsR (va_rf (zv_ad ba ak 2000000) :: rest)) := by
  have hlt := hC.lt
  obtain ⟨xs, h1, h2, h3, h4⟩ := hC
  rw [zv_ad_s]
  exact va_slen hx hb h1 hlt (by unfold zv_Ac; omega) hS hdg kk
theorem zv_alen_ok (hx : p.tables.exec = Jvm.exec) (hb : c.code = cc) (hK : va_K D vwCl (zv_tys g) s) {h : zv_H} (hR : zv_RH D g ba ak h H) {r : Nat} (ho : r ≤ zv_n h ∧ 2 ≤ (zv_lay r).1) (hlay : (zv_lay r).1 ≤ 6) (hdg : decode cc pc = .ok (.arraylength, 1))
    (kk : W p l e R s m args below meth c H locs cells slots Q (F0 m (pc + 1) lsR (.int (Int32.ofInt (zv_lay r).2) :: rest))) : W p l e R s m args below meth c H locs cells slots Q (F0 m pc lsR (va_rf (zv_ad ba ak r) :: rest)) := by
  obtain ⟨h1, h2⟩ := ho
  have hp := zv_lay_pos' (r := r) (by omega)
  rw [zv_ad_in hp h1 hR.2.2.2]
  have hv : Int32.ofNat (zv_lay r).2 = Int32.ofInt ((zv_lay r).2 : Int) := rfl
  rcases (show (zv_lay r).1 = 2 ∨ (zv_lay r).1 = 3 ∨ (zv_lay r).1 = 4 ∨ (zv_lay r).1 = 5 ∨ (zv_lay r).1 = 6 by omega) with q | q | q | q | q
  · exact va_alen hx hb hK hR.2.1 (r - 1) 0 (by rw [zv_ws_at hp h1, zv_el_2 q]) (ty := .int) rfl hv hdg kk
  · exact va_alen hx hb hK hR.2.1 (r - 1) 1 (by rw [zv_ws_at hp h1, zv_el_3 q]) (ty := .boolean) rfl hv hdg kk
  · exact va_alen hx hb hK hR.2.1 (r - 1) 2 (by rw [zv_ws_at hp h1, zv_el_4 q]) (ty := .byte) rfl hv hdg kk
  · exact va_alen hx hb hK hR.2.1 (r - 1) 3 (by rw [zv_ws_at hp h1, zv_el_5 q]) (ty := .long) rfl hv hdg kk
  · exact va_alen hx hb hK hR.2.1 (r - 1) 4 (by rw [zv_ws_at hp h1, zv_el_6 q]) (ty := .object "BranchedText$State") rfl hv hdg kk
end ZNEW
end
/-! 17.cx -/
section
/-! what a method's table must say; what holds while it runs -/
def zv_sown (i : Nat) : String := if i < 23 then "BranchedText$Reader" else "BranchedTextModel"
def zv_six : List Nat := [80, 98, 133, 145, 147, 149, 150, 152, 154, 131, 123, 168, 170, 172, 174, 176, 178, 180, 182, 184, 186, 188, 190, 320]
def zv_stx : List String := ["start", "join", "not", "gap", "size", "kind", "same", "near", "long", "and", "or", "put", "cut", "wait", "undo", "redo", "go", "name", "withdraw", "restore", "carry", "merge", "prune", "<=>[];"]
def zv_sl : List Nat := zv_txt.map List.length
def zv_sb : List (List Int32) := zv_txt.map fun t => t.map Int32.ofInt
/-- the texts -/
def zv_SS (ba : Nat) (ak adV : Nat → Nat) (U : State) : Prop :=
  vk_S 24 zv_sl zv_sb (fun i => ak (1000000 + i)) (fun i => ak (1000100 + i)) (zv_Ac ba) U U.heap ∧ (∀ i, i < 24 → vk_R (zv_sown i) (zv_six.getD i 0) (zv_stx.getD i "") (ak (1000000 + i)) U) ∧ va_Z "java/lang/String" "COMPACT_STRINGS" "Z" (.int 1) (zv_Ac ba) U U.heap ∧ va_Zq "jdk/internal/util/Preconditions" "SIOOBE_FORMATTER" "Ljava/util/function/BiFunction;" (zv_Ac ba) U U.heap
/-- what holds of a state at a method's start, but for its cells -/
def zv_ST (D : va_G) (g : Nat → ClassId) (ba : Nat) (ak adV : Nat → Nat) (h : zv_H) (U : State) : Prop :=
  va_K D vwCl (zv_tys g) U ∧ zv_NF U ∧ zv_NM U ∧ va_AO "BranchedText$State" U ∧ zv_SS ba ak adV U ∧ zv_SC ba ak U h
/-- which method has a number -/
def zv_inf (id : Nat) : Option (MethodName × (ByteArray × (Nat × Option FieldType))) :=
  if 900 ≤ id then zv_jinf id else (zv_prog id).map fun q => q.2.1.2
def zv_sw (i : Instr) : Bool := match i with
  | .tableswitch _ _ _ _ => true
  | .lookupswitch _ _ => true
  | _ => false
def zv_isI (id : Nat) : Bool := if 900 ≤ id then false else match zv_prog id with
  | some (some _, _) => true
  | _ => false
/-- a call's words -/
def zv_vC (own : String) (ix : Nat) (e : Nat × (Nat × (Nat × Nat))) (y : MethodName) (bytes : ByteArray) (maxL : Nat) (ret : Option FieldType) : Prop :=
  Cond.code y bytes maxL ret ∈ zv_tb ∧ Cond.initialized y.cls ∈ zv_tb ∧ (y.cls ≠ "java/lang/invoke/MethodHandle" ∧ y.cls ≠ "java/lang/invoke/VarHandle") ∧ maxL ≤ 40 ∧
  match e.2.1 with
  | 0 => zv_isI e.1 = true ∧ Cond.methodLink own ix y ∈ zv_tb ∧ Cond.instanceMethod y ∈ zv_tb ∧ Cond.selects y.cls y y ∈ zv_tb ∧ (parseMethodDescriptor y.desc).map (fun d => d.parameters.length + 1) = some e.2.2.1
  | 10 => zv_isI e.1 = true ∧ (∃ host, Cond.methodLinkNest own ix y host ∈ tables_1) ∧ Cond.instanceMethod y ∈ zv_tb ∧ Cond.selects y.cls y y ∈ zv_tb ∧ (parseMethodDescriptor y.desc).map (fun d => d.parameters.length + 1) = some e.2.2.1
  | 1 => zv_isI e.1 = true ∧ Cond.methodLink own ix y ∈ zv_tb ∧ Cond.instanceMethod y ∈ zv_tb ∧ y.name = "<init>" ∧ ret = none ∧ (parseMethodDescriptor y.desc).map (fun d => d.parameters.length + 1) = some e.2.2.1
  | 11 => zv_isI e.1 = true ∧ (∃ host, Cond.methodLinkNest own ix y host ∈ tables_1) ∧ Cond.instanceMethod y ∈ zv_tb ∧ y.name = "<init>" ∧ ret = none ∧ (parseMethodDescriptor y.desc).map (fun d => d.parameters.length + 1) = some e.2.2.1
  | 2 => Cond.methodLink own ix y ∈ zv_tb ∧ Cond.static y ∈ zv_tb ∧ (parseMethodDescriptor y.desc).map (fun d => d.parameters.length) = some e.2.2.1
  | 12 => (∃ host, Cond.methodLinkNest own ix y host ∈ tables_1) ∧ Cond.static y ∈ zv_tb ∧ (parseMethodDescriptor y.desc).map (fun d => d.parameters.length) = some e.2.2.1
  | _ => False
/-- what a method's table says is so -/
def zv_vM (M : zv_M) : Prop :=
  (∀ pc i, zv_lk M.2.1 pc = some i → ∃ len, decode M.1.2.2.1 pc = .ok (i, len) ∧ (len = zv_len i ∨ zv_sw i = true)) ∧
  (∀ ix f, zv_lk M.2.2.2.1 ix = some f → (zv_ft f.1 f.2.1 = 4 ∧ Cond.fieldLink M.1.1 ix "java/lang/String" "coder" "B" ∈ zv_tb) ∨ (zv_ft f.1 f.2.1 = 5 ∧ Cond.fieldLink M.1.1 ix "java/lang/String" "value" "[B" ∈ zv_tb) ∨ ∃ C T N ty, zv_CF f.1 C T N ty ∧ f.2.1 < N ∧ zv_lkf M.1.1 ix C (T f.2.1).2.1 (T f.2.1).2.2.1 ∧
    ∀ pc, zv_lk M.2.1 pc = some (.putfield ix) → (T f.2.1).2.2.2 = true → Cond.fieldLink M.1.1 ix C (T f.2.1).2.1 (T f.2.1).2.2.1 ∈ zv_tb ∧ M.1.2.1.name = "<init>" ∧ C = M.1.1) ∧
  (∀ ix e, zv_lk M.2.2.2.2.1 ix = some e → (e.2.1 = 20 ∧ Cond.methodLink M.1.1 ix Lib.objectInit ∈ zv_tb ∧ Cond.instanceMethod Lib.objectInit ∈ zv_tb ∧ Cond.code Lib.objectInit ⟨#[0xb1]⟩ 1 none ∈ zv_tb) ∨
    (e.2.1 = 21 ∧ Cond.methodLink M.1.1 ix arraycopyName ∈ zv_tb ∧ Cond.native arraycopyName ∈ zv_tb ∧ Cond.static arraycopyName ∈ zv_tb ∧ Cond.initialized "java/lang/System" ∈ zv_tb) ∨
    (e.2.1 = 22 ∧ Cond.methodLink M.1.1 ix Lib.Math.max.name ∈ zv_tb) ∨ (e.2.1 = 23 ∧ Cond.methodLink M.1.1 ix Lib.Math.min.name ∈ zv_tb) ∨
    ∃ y bytes maxL ret, zv_inf e.1 = some (y, (bytes, (maxL, ret))) ∧ zv_vC M.1.1 ix e y bytes maxL ret) ∧
  (∀ ix v, zv_lk M.2.2.2.2.2.2.1 ix = some v → Cond.constantLong M.1.1 ix v ∈ zv_tb) ∧
  (∀ ix k, zv_lk M.2.2.2.2.2.2.2.1 ix = some k → k < 24 ∧ zv_sown k = M.1.1 ∧ zv_six.getD k 0 = ix) ∧
  (∀ ix ci, zv_lk M.2.2.2.2.2.2.2.2 ix = some ci → ∃ C T N ty, zv_CF ci C T N ty ∧ Cond.classLink M.1.1 ix C ∈ zv_tb ∧ Cond.instantiable C N ∈ zv_tb ∧ Cond.initialized C ∈ zv_tb) ∧
  M.1.2.2.2.1 ≤ 40 ∧ (∀ ix v, zv_lk M.2.2.2.2.2.1 ix = some v → v = 1 ∧ Cond.fieldLink M.1.1 ix "java/lang/String" "COMPACT_STRINGS" "Z" ∈ zv_tb)
/-- cells are only made, the script stays -/
def zv_mo (h h' : zv_H) : Prop := zv_n h ≤ zv_n h' ∧ zv_s h ≤ zv_s h' ∧ h'.2.2.2.2 = h.2.2.2.2
theorem zv_mo.rf (h : zv_H) : zv_mo h h := ⟨Nat.le_refl _, Nat.le_refl _, rfl⟩
theorem zv_mo.tr {a b c : zv_H} (h1 : zv_mo a b) (h2 : zv_mo b c) : zv_mo a c := ⟨Nat.le_trans h1.1 h2.1, Nat.le_trans h1.2.1 h2.2.1, h2.2.2.trans h1.2.2⟩
def zv_vs (o : Option zv_V) : Prop := match o with
  | none => True
  | some v => zv_vg v
/-- a method's start and end -/
def zv_Pc (D : va_G) (g : Nat → ClassId) (ba : Nat) (ak adV : Nat → Nat) (as : List zv_V) (h : zv_H) : Array Value → State → Prop := fun v U => v = (as.map (zv_cv ba ak)).toArray ∧ (∀ v ∈ as, zv_vg v) ∧ zv_RH D g ba ak h U.heap ∧ zv_ST D g ba ak adV h U
def zv_Qc (D : va_G) (g : Nat → ClassId) (ba : Nat) (ak : Nat → Nat) (o : Option zv_V) (h1 : zv_H) : Array Value → State → Outcome → State → Prop := fun _ st oc t => oc = .returned (o.map (zv_cv ba ak)) ∧ zv_vs o ∧ zv_RH D g ba ak h1 t.heap ∧ va_F (zv_Ac ba) st t
def zv_rm (d : Nat) (h h1 : zv_H) : Room := { frames := d + 8, cells := zv_n h1 - zv_n h, slots := zv_s h1 - zv_s h, locals := 60 * (d + 8) }
/-- the receiver is there -/
def zv_rcv (h : zv_H) (as : List zv_V) (C : String) : Prop := ∃ r as', as = zv_r r :: as' ∧ ((∃ ci q, zv_ob h r ci ∧ vwCl[ci]? = some q ∧ q.1 = C) ∨ (1000000 ≤ r ∧ r < 1000024 ∧ C = "java/lang/String"))
/-- a call keeps its contract -/
def zv_cal (l : Launch) (D : va_G) (g : Nat → ClassId) (ba : Nat) (ak adV : Nat → Nat) (d id : Nat) (as : List zv_V) (h : zv_H) (o : Option zv_V) (h1 : zv_H) : Prop :=
  zv_mo h h1 ∧ (zv_isI id = true → ∀ y bytes maxL ret, zv_inf id = some (y, (bytes, (maxL, ret))) → zv_rcv h as y.cls) ∧
  ∀ y bytes maxL ret, zv_inf id = some (y, (bytes, (maxL, ret))) → Met l y (Cond.code y bytes maxL ret :: zv_tb) (zv_rm d h h1) (zv_Pc D g ba ak adV as h) (zv_Qc D g ba ak o h1) (zv_n h1 - zv_n h) (zv_s h1 - zv_s h) (zv_Ac ba)
theorem zv_wd_sum (ba : Nat) (ak : Nat → Nat) : ∀ l : List zv_V, ((l.map (zv_cv ba ak)).map fun v => v.category).sum = zv_wd l
  | [] => rfl
  | Sum.inl x :: t => by
    have := zv_wd_sum ba ak t
    rw [List.map_cons, List.map_cons, List.sum_cons, this]
    show 1 + zv_wd t = zv_wd t + 1
    omega
  | Sum.inr (Sum.inl x) :: t => by
    have := zv_wd_sum ba ak t
    rw [List.map_cons, List.map_cons, List.sum_cons, this]
    show 2 + zv_wd t = zv_wd t + 2
    omega
  | Sum.inr (Sum.inr x) :: t => by
    have h1 := zv_wd_sum ba ak t
    have h2 := zv_cat1 ba ak x
    rw [List.map_cons, List.map_cons, List.sum_cons, h1]
    show (va_rf (zv_ad ba ak x)).category + zv_wd t = zv_wd t + 1
    omega
theorem zv_tk_ok : ∀ (n : Nat) (acc st as rest : List zv_V), zv_tk n acc st = some (as, rest) → ∃ pre, st = pre ++ rest ∧ as = pre.reverse ++ acc ∧ pre.length = n
  | 0, acc, st, as, rest, h => by
    cases h
    exact ⟨[], rfl, rfl, rfl⟩
  | n + 1, acc, [], as, rest, h => by cases h
  | n + 1, acc, v :: st, as, rest, h => by
    obtain ⟨pre, h1, h2, h3⟩ := zv_tk_ok n (v :: acc) st as rest h
    exact ⟨v :: pre, by rw [h1]; rfl, by rw [h2]; simp, by simp [h3]⟩
theorem zv_Zq_kept {C n d : String} {A : Nat → Prop} {U : State} {H H1 : Heap} (h : va_Zq C n d A U H) (hq : ∀ a : Nat, a < H.size → ¬ A a → H1[a]? = H[a]?) : va_Zq C n d A U H1 := by
  rcases h with h | ⟨t, h⟩
  · exact Or.inl (h.kept hq)
  · exact Or.inr ⟨t, h.kept hq⟩
theorem zv_Zq_moved {C n d : String} {A : Nat → Prop} {u U : State} {H : Heap} (hvm : u.vm.Alike U.vm) (h : va_Zq C n d A u H) : va_Zq C n d A U H := by
  rcases h with h | ⟨t, h⟩
  · exact Or.inl (h.moved hvm)
  · exact Or.inr ⟨t, h.moved hvm⟩
theorem zv_SS.moved {ba : Nat} {ak adV : Nat → Nat} {s U : State} {H : Heap} {locs : List Loc} (h : zv_SS ba ak adV s) (hS : va_S (zv_Ac ba) s.heap H locs) (hU : U.heap = H) (hW : s.WarmedH U.vm) : zv_SS ba ak adV U := by
  obtain ⟨h1, h2, h3, h4⟩ := h
  refine ⟨?_, fun i hi => (h2 i hi).warm hW, ?_, ?_⟩
  · rw [hU]
    exact (h1.kept hS.2.1).moved hW.alike
  · rw [hU]
    exact (h3.kept hS.2.1).moved hW.alike
  · rw [hU]
    exact zv_Zq_moved hW.alike (zv_Zq_kept h4 hS.2.1)
theorem zv_ST.next {D : va_G} {g : Nat → ClassId} {ba : Nat} {ak adV : Nat → Nat} {h h1 : zv_H} {s U : State} {H : Heap} {locs : List Loc} (q : zv_ST D g ba ak adV h s) (hS : va_S (zv_Ac ba) s.heap H locs) (hU : U.heap = H) (hW : s.WarmedH U.vm) (hsc : zv_SC ba ak s h1) : zv_ST D g ba ak adV h1 U := by
  obtain ⟨q1, q2, q3, q4, q5, -⟩ := q
  refine ⟨va_K.moved hW.alike q1, fun own ix C n d host hw => va_Nw.warmF hW (q2 own ix C n d host hw), fun own ix y host hw => va_Nw.warmM hW (q3 own ix y host hw), va_AO.moved hW.alike q4, q5.moved hS hU hW, ?_⟩
  have hlt := hsc.lt
  obtain ⟨xs, a1, a2, a3, a4⟩ := hsc
  refine ⟨xs, ?_, a2, a3, a4⟩
  rw [hU]
  exact (a1.kept (hS.2.1 _ hlt (by unfold zv_Ac; omega))).moved hW.alike
theorem zv_Pc_blind {D : va_G} {g : Nat → ClassId} {ba : Nat} {ak adV : Nat → Nat} {as : List zv_V} {h : zv_H} : FrameBlind (zv_Pc D g ba ak adV as h) := by
  intro a U gf mk q
  obtain ⟨q1, q2, q3, q4, q5, q6, q7, ⟨q8, q9, q10, q12⟩, q11⟩ := q
  refine ⟨q1, q2, q3, va_K.moved (u := U) (U := U.calling gf mk a) (Vm.Alike.refl U.vm) q4, fun own ix C n d host hw => va_Nw.same rfl rfl (q5 own ix C n d host hw), fun own ix y host hw => va_Nw.same rfl rfl (q6 own ix y host hw), va_AO.moved (u := U) (U := U.calling gf mk a) (Vm.Alike.refl U.vm) q7, ⟨q8.moved (u := U) (U := U.calling gf mk a) (Vm.Alike.refl U.vm), fun i hi => (q9 i hi).same rfl, q10.moved (u := U) (U := U.calling gf mk a) (Vm.Alike.refl U.vm), zv_Zq_moved (u := U) (U := U.calling gf mk a) (Vm.Alike.refl U.vm) q12⟩, ?_⟩
  obtain ⟨xs, a1, a2, a3, a4⟩ := q11
  exact ⟨xs, a1.moved (u := U) (U := U.calling gf mk a) (Vm.Alike.refl U.vm), a2, a3, a4⟩
end
/-! 17b.mono -/
section
/-! cells are only made: by itself -/
def zv_mn (h hE : zv_H) (f : zv_G → zv_O) : Prop := ∀ go rv, (∀ pc ls st h1, go pc ls st h1 = some (rv, hE) → zv_mo h1 hE) → f go = some (rv, hE) → zv_mo h hE
section MN
variable {h hE : zv_H}
theorem zv_mn_go (pc : Nat) (ls : zv_Ls) (st : List zv_V) {h1 : zv_H} (hm : zv_mo h h1) : zv_mn h hE (fun go => go pc ls st h1) := fun go rv hg hr => hm.tr (hg _ _ _ _ hr)
theorem zv_mn_n : zv_mn h hE (fun _ => none) := fun go rv hg hr => by cases hr
theorem zv_mn_if {p : Prop} [Decidable p] {f k : zv_G → zv_O} (hf : zv_mn h hE f) (hk : zv_mn h hE k) : zv_mn h hE (fun go => if p then f go else k go) := by
  intro go rv hg hr
  by_cases q : p
  · simp only [if_pos q] at hr
    exact hf go rv hg hr
  · simp only [if_neg q] at hr
    exact hk go rv hg hr
theorem zv_mn_b {α : Type} {o : Option α} {f : α → zv_G → zv_O} (hf : ∀ v, o = some v → zv_mn h hE (f v)) : zv_mn h hE (fun go => o.bind fun v => f v go) := by
  intro go rv hg hr
  cases o with
  | none => exact absurd hr (by simp)
  | some v => exact hf v rfl go rv hg hr
theorem zv_mn_jp (pc : Nat) (off : Int) (ls : zv_Ls) (st : List zv_V) : zv_mn h hE (fun go => zv_jp go pc off ls st h) := zv_mn_if zv_mn_n (zv_mn_go _ _ _ (zv_mo.rf h))
theorem zv_mn_bc (pc : Nat) (off : Int) (ls : zv_Ls) (st : List zv_V) (P : Prop) [Decidable P] : zv_mn h hE (fun go => zv_bc go pc off ls st h P) := zv_mn_if zv_mn_n (zv_mn_if (zv_mn_go _ _ _ (zv_mo.rf h)) (zv_mn_go _ _ _ (zv_mo.rf h)))
theorem zv_mn_bn (pc : Nat) (off : Int) (ls : zv_Ls) (st : List zv_V) (P : Prop) [Decidable P] : zv_mn h hE (fun go => zv_bn go pc off ls st h P) := zv_mn_if zv_mn_n (zv_mn_if (zv_mn_go _ _ _ (zv_mo.rf h)) (zv_mn_go _ _ _ (zv_mo.rf h)))
theorem zv_mn_tsw (pc : Nat) (x dflt : Int) (ls : zv_Ls) (st : List zv_V) : ∀ (os : List Int) (lo : Int), zv_mn h hE (fun go => zv_tsw go pc x dflt ls st h lo os)
  | [], _ => zv_mn_jp _ _ _ _
  | _ :: t, lo => zv_mn_if (zv_mn_jp _ _ _ _) (zv_mn_tsw pc x dflt ls st t (lo + 1))
theorem zv_mn_lsw (pc : Nat) (x dflt : Int) (ls : zv_Ls) (st : List zv_V) : ∀ (os : List (Int × Int)), zv_mn h hE (fun go => zv_lsw go pc x dflt ls st h os)
  | [] => zv_mn_jp _ _ _ _
  | _ :: t => zv_mn_if (zv_mn_jp _ _ _ _) (zv_mn_lsw pc x dflt ls st t)
/-- calls only make cells -/
def zv_HM (c : zv_C) : Prop := (∀ id as h h1, c.1 id as h = some h1 → zv_mo h h1) ∧ (∀ id as h x h1, c.2.1 id as h = some (x, h1) → zv_mo h h1) ∧ (∀ id as h x h1, c.2.2.1 id as h = some (x, h1) → zv_mo h h1) ∧ ∀ id as h x h1, c.2.2.2 id as h = some (x, h1) → zv_mo h h1
theorem zv_mn_call {c : zv_C} (hc : zv_HM c) (pc : Nat) (ls : zv_Ls) (st : List zv_V) (e : Nat × (Nat × (Nat × Nat))) : zv_mn h hE (fun go => zv_call c go pc ls st h e) := by
  unfold zv_call
  cases zv_tk e.2.2.1 [] st with
  | none => exact zv_mn_n
  | some q =>
    obtain ⟨as, rest⟩ := q
    refine zv_mn_if zv_mn_n ?_
    match e.2.2.2 with
    | 0 => exact zv_mn_b fun v hv => zv_mn_go _ _ _ (hc.1 _ _ _ _ hv)
    | 1 => exact zv_mn_b fun v hv => zv_mn_go _ _ _ (hc.2.1 _ _ _ v.1 v.2 hv)
    | 2 => exact zv_mn_b fun v hv => zv_mn_go _ _ _ (hc.2.2.1 _ _ _ v.1 v.2 hv)
    | _ + 3 => exact zv_mn_b fun v hv => zv_mn_go _ _ _ (hc.2.2.2 _ _ _ v.1 v.2 hv)
theorem zv_mn_gf (pc : Nat) (ls : zv_Ls) (st : List zv_V) (r : Nat) (o : Option (Nat × (Nat × Bool))) : zv_mn h hE (fun go => zv_gf go pc ls st h r o) := by
  unfold zv_gf
  cases o with
  | none => exact zv_mn_n
  | some f =>
    dsimp only
    generalize zv_ft f.1 f.2.1 = t
    match t with
    | 0 => exact zv_mn_b fun v hv => zv_mn_go _ _ _ (zv_mo.rf h)
    | 1 => exact zv_mn_b fun v hv => zv_mn_go _ _ _ (zv_mo.rf h)
    | 2 => exact zv_mn_b fun v hv => zv_mn_go _ _ _ (zv_mo.rf h)
    | 3 => exact zv_mn_b fun v hv => zv_mn_go _ _ _ (zv_mo.rf h)
    | 4 => exact zv_mn_b fun v hv => zv_mn_go _ _ _ (zv_mo.rf h)
    | 5 => exact zv_mn_b fun v hv => zv_mn_go _ _ _ (zv_mo.rf h)
    | _ + 6 => exact zv_mn_n
theorem zv_mo_pI {r ci k : Nat} {v : Int} {h1 : zv_H} (hv : zv_pI h r ci k v = some h1) : zv_mo h h1 := by
  unfold zv_pI at hv
  split at hv <;> cases hv
  exact ⟨Nat.le_refl _, Nat.le_refl _, rfl⟩
theorem zv_mo_pZ {r ci k : Nat} {v : Int} {h1 : zv_H} (hv : zv_pZ h r ci k v = some h1) : zv_mo h h1 := by
  unfold zv_pZ at hv
  split at hv <;> cases hv
  exact ⟨Nat.le_refl _, Nat.le_refl _, rfl⟩
theorem zv_mo_pJ {r ci k : Nat} {v : Int64} {h1 : zv_H} (hv : zv_pJ h r ci k v = some h1) : zv_mo h h1 := by
  unfold zv_pJ at hv
  split at hv <;> cases hv
  exact ⟨Nat.le_refl _, Nat.le_refl _, rfl⟩
theorem zv_mo_pR {r ci k : Nat} {v : Nat} {h1 : zv_H} (hv : zv_pR h r ci k v = some h1) : zv_mo h h1 := by
  unfold zv_pR at hv
  split at hv <;> cases hv
  exact ⟨Nat.le_refl _, Nat.le_refl _, rfl⟩
theorem zv_mo_wI {r : Nat} {j v : Int} {h1 : zv_H} (hv : zv_wI h r j v = some h1) : zv_mo h h1 := by
  unfold zv_wI at hv
  split at hv <;> cases hv
  exact ⟨Nat.le_refl _, Nat.le_refl _, rfl⟩
theorem zv_mo_wB {r : Nat} {j v : Int} {h1 : zv_H} (hv : zv_wB h r j v = some h1) : zv_mo h h1 := by
  unfold zv_wB at hv
  split at hv
  · have := Option.some.inj hv
    rw [← this]
    exact ⟨Nat.le_refl _, Nat.le_refl _, rfl⟩
  · cases hv
theorem zv_mo_wJ {r : Nat} {j : Int} {v : Int64} {h1 : zv_H} (hv : zv_wJ h r j v = some h1) : zv_mo h h1 := by
  unfold zv_wJ at hv
  split at hv <;> cases hv
  exact ⟨Nat.le_refl _, Nat.le_refl _, rfl⟩
theorem zv_mo_wR {r : Nat} {j : Int} {v : Nat} {h1 : zv_H} (hv : zv_wR h r j v = some h1) : zv_mo h h1 := by
  unfold zv_wR at hv
  split at hv <;> cases hv
  exact ⟨Nat.le_refl _, Nat.le_refl _, rfl⟩
theorem zv_mo_mk (h : zv_H) (w : Nat) : zv_mo h (zv_mk h w) := ⟨Nat.le_succ _, Nat.le_add_right _ _, rfl⟩
theorem zv_mo_nO {ci : Nat} {h1 : zv_H} (hv : zv_nO h ci = some h1) : zv_mo h h1 := by
  unfold zv_nO at hv
  split at hv <;> cases hv
  exact zv_mo_mk h _
theorem zv_mo_nA {kd : Nat} {x : Int} {h1 : zv_H} (hv : zv_nA h kd x = some h1) : zv_mo h h1 := by
  unfold zv_nA at hv
  split at hv <;> cases hv
  exact zv_mo_mk h _
theorem zv_mo_cy {s d : Nat} {sp dp n : Int} {h1 : zv_H} (hv : zv_cy h s sp d dp n = some h1) : zv_mo h h1 := by
  unfold zv_cy at hv
  split at hv <;> cases hv
  exact ⟨Nat.le_refl _, Nat.le_refl _, rfl⟩
theorem zv_mn_pf (pc : Nat) (ls : zv_Ls) (st : List zv_V) (r : Nat) (w : zv_V) (o : Option (Nat × (Nat × Bool))) : zv_mn h hE (fun go => zv_pf go pc ls st h r w o) := by
  intro go rv hg hr
  unfold zv_pf at hr
  cases o with
  | none => cases hr
  | some f =>
    dsimp only at hr
    generalize zv_ft f.1 f.2.1 = t at hr
    split at hr
    · exact zv_mn_b (fun v hv => zv_mn_go _ _ _ (zv_mo_pI hv)) go rv hg hr
    · exact zv_mn_b (fun v hv => zv_mn_go _ _ _ (zv_mo_pZ hv)) go rv hg hr
    · exact zv_mn_b (fun v hv => zv_mn_go _ _ _ (zv_mo_pJ hv)) go rv hg hr
    · exact zv_mn_b (fun v hv => zv_mn_go _ _ _ (zv_mo_pR hv)) go rv hg hr
    · cases hr
theorem zv_mn_gs (pc : Nat) (ls : zv_Ls) (st : List zv_V) (o : Option Int) : zv_mn h hE (fun go => zv_gs go pc ls st h o) := by
  unfold zv_gs
  cases o with
  | none => exact zv_mn_n
  | some f => exact zv_mn_go _ _ _ (zv_mo.rf h)
theorem zv_mn_nw (pc : Nat) (ls : zv_Ls) (st : List zv_V) (o : Option Nat) : zv_mn h hE (fun go => zv_nw go pc ls st h o) := by
  unfold zv_nw
  cases o with
  | none => exact zv_mn_n
  | some f => exact zv_mn_b fun v hv => zv_mn_go _ _ _ (zv_mo_nO hv)
theorem zv_mn_an (pc : Nat) (ls : zv_Ls) (st : List zv_V) (x : Int) (o : Option Nat) : zv_mn h hE (fun go => zv_an go pc ls st h x o) := by
  unfold zv_an
  cases o with
  | none => exact zv_mn_n
  | some f => exact zv_mn_if (zv_mn_b fun v hv => zv_mn_go _ _ _ (zv_mo_nA hv)) zv_mn_n
theorem zv_mn_ls (pc : Nat) (ls : zv_Ls) (st : List zv_V) (o : Option Nat) : zv_mn h hE (fun go => zv_ls go pc ls st h o) := by
  unfold zv_ls
  cases o with
  | none => exact zv_mn_n
  | some f => exact zv_mn_go _ _ _ (zv_mo.rf h)
theorem zv_mn_li (pc : Nat) (ls : zv_Ls) (st : List zv_V) (o : Option Nat) : zv_mn h hE (fun go => zv_li go pc ls st h o) := by
  unfold zv_li
  cases o with
  | none => exact zv_mn_n
  | some f => exact zv_mn_go _ _ _ (zv_mo.rf h)
theorem zv_mn_ll (pc : Nat) (ls : zv_Ls) (st : List zv_V) (o : Option Int64) : zv_mn h hE (fun go => zv_ll go pc ls st h o) := by
  unfold zv_ll
  cases o with
  | none => exact zv_mn_n
  | some f => exact zv_mn_go _ _ _ (zv_mo.rf h)
theorem zv_mn_iv {c : zv_C} (hc : zv_HM c) (pc : Nat) (ls : zv_Ls) (st : List zv_V) (o : Option (Nat × (Nat × (Nat × Nat)))) : zv_mn h hE (fun go => zv_iv c go pc ls st h o) := by
  unfold zv_iv
  cases o with
  | none => exact zv_mn_n
  | some f => exact zv_mn_if (zv_mn_call hc _ _ _ _) zv_mn_n
theorem zv_mn_cyS (pc : Nat) (ls : zv_Ls) (st : List zv_V) : zv_mn h hE (fun go => zv_cyS go pc ls st h) := by
  intro go rv hg hr
  unfold zv_cyS at hr
  split at hr
  · exact zv_mn_if zv_mn_n (zv_mn_b fun v hv => zv_mn_go _ _ _ (zv_mo_cy hv)) go rv hg hr
  · cases hr
theorem zv_mn_mx (pc : Nat) (ls : zv_Ls) (st : List zv_V) (b : Bool) : zv_mn h hE (fun go => zv_mx go pc ls st h b) := by
  intro go rv hg hr
  unfold zv_mx at hr
  split at hr
  · exact zv_mn_if zv_mn_n (zv_mn_go _ _ _ (zv_mo.rf h)) go rv hg hr
  · cases hr
theorem zv_mn_is {c : zv_C} (hc : zv_HM c) (pc : Nat) (ls : zv_Ls) (st : List zv_V) (o : Option (Nat × (Nat × (Nat × Nat)))) : zv_mn h hE (fun go => zv_is c go pc ls st h o) := by
  unfold zv_is
  cases o with
  | none => exact zv_mn_n
  | some f => exact zv_mn_if (zv_mn_call hc _ _ _ _) (zv_mn_if (zv_mn_cyS _ _ _) (zv_mn_if (zv_mn_mx _ _ _ _) (zv_mn_if (zv_mn_mx _ _ _ _) zv_mn_n)))
theorem zv_mn_oi (pc : Nat) (ls : zv_Ls) (st : List zv_V) : zv_mn h hE (fun go => zv_oi go pc ls st h) := by
  intro go rv hg hr
  unfold zv_oi at hr
  split at hr
  · exact zv_mn_if zv_mn_n (zv_mn_if zv_mn_n (zv_mn_go _ _ _ (zv_mo.rf h))) go rv hg hr
  · cases hr
theorem zv_mn_ip {c : zv_C} (hc : zv_HM c) (pc : Nat) (ls : zv_Ls) (st : List zv_V) (o : Option (Nat × (Nat × (Nat × Nat)))) : zv_mn h hE (fun go => zv_ip c go pc ls st h o) := by
  unfold zv_ip
  cases o with
  | none => exact zv_mn_n
  | some f => exact zv_mn_if (zv_mn_call hc _ _ _ _) (zv_mn_if (zv_mn_oi _ _ _) zv_mn_n)
theorem zv_mn_rt (w : Option zv_V) (t : Option FieldType) : zv_mn h hE (fun _ => zv_rt h w t) := by
  intro go rv hg hr
  dsimp only at hr
  unfold zv_rt at hr
  split at hr
  all_goals first | (cases hr; done) | (cases hr; exact zv_mo.rf _) | (split at hr <;> cases hr; exact zv_mo.rf _)
set_option maxHeartbeats 4000000 in
theorem zv_mn_hp {c : zv_C} (hc : zv_HM c) (M : zv_M) (pc : Nat) (ls : zv_Ls) (st : List zv_V) (i : Instr) : zv_mn h hE (fun go => zv_hp c M go pc ls st h i) := by
  intro go rv hg hr
  unfold zv_hp at hr
  split at hr
  all_goals try exact zv_mn_jp _ _ _ _ go rv hg hr
  all_goals try exact zv_mn_bc _ _ _ _ _ go rv hg hr
  all_goals try exact zv_mn_bn _ _ _ _ _ go rv hg hr
  all_goals try exact zv_mn_if zv_mn_n (zv_mn_bc _ _ _ _ _) go rv hg hr
  all_goals try exact zv_mn_if zv_mn_n (zv_mn_bn _ _ _ _ _) go rv hg hr
  all_goals try exact zv_mn_if (zv_mn_tsw _ _ _ _ _ _ _) zv_mn_n go rv hg hr
  all_goals try exact zv_mn_if (zv_mn_lsw _ _ _ _ _ _) zv_mn_n go rv hg hr
  all_goals try exact zv_mn_gf _ _ _ _ _ go rv hg hr
  all_goals try exact zv_mn_pf _ _ _ _ _ _ go rv hg hr
  all_goals try exact zv_mn_gs _ _ _ _ go rv hg hr
  all_goals try exact zv_mn_nw _ _ _ _ go rv hg hr
  all_goals try exact zv_mn_an _ _ _ _ _ go rv hg hr
  all_goals try exact zv_mn_ls _ _ _ _ go rv hg hr
  all_goals try exact zv_mn_li _ _ _ _ go rv hg hr
  all_goals try exact zv_mn_ll _ _ _ _ go rv hg hr
  all_goals try exact zv_mn_iv hc _ _ _ _ go rv hg hr
  all_goals try exact zv_mn_is hc _ _ _ _ go rv hg hr
  all_goals try exact zv_mn_ip hc _ _ _ _ go rv hg hr
  all_goals try exact zv_mn_rt _ _ go rv hg hr
  all_goals try exact zv_mn_b (fun v hv => zv_mn_go _ _ _ (zv_mo_wI hv)) go rv hg hr
  all_goals try exact zv_mn_b (fun v hv => zv_mn_go _ _ _ (zv_mo_wB hv)) go rv hg hr
  all_goals try exact zv_mn_b (fun v hv => zv_mn_go _ _ _ (zv_mo_wJ hv)) go rv hg hr
  all_goals try exact zv_mn_b (fun v hv => zv_mn_go _ _ _ (zv_mo_wR hv)) go rv hg hr
  all_goals try exact zv_mn_b (fun v hv => zv_mn_go _ _ _ (zv_mo_nA hv)) go rv hg hr
  all_goals try exact zv_mn_b (fun v hv => zv_mn_go _ _ _ (zv_mo.rf h)) go rv hg hr
  all_goals cases hr
theorem zv_mn_stp {c : zv_C} (hc : zv_HM c) (M : zv_M) (pc : Nat) (ls : zv_Ls) (st : List zv_V) : zv_mn h hE (fun go => zv_stp c M go pc ls st h) := by
  unfold zv_stp
  cases zv_lk M.2.1 pc with
  | none => exact zv_mn_n
  | some i =>
    dsimp only
    cases zv_op i ls st with
    | none => exact zv_mn_hp hc _ _ _ _ _
    | some q => exact zv_mn_go _ _ _ (zv_mo.rf h)
end MN
theorem zv_mn_seg {c : zv_C} (hc : zv_HM c) (M : zv_M) {hE : zv_H} : ∀ (n pc : Nat) (ls : zv_Ls) (st : List zv_V) (h : zv_H), zv_mn h hE (fun go => zv_seg c M go n pc ls st h)
  | 0, pc, ls, st, h => zv_mn_go _ _ _ (zv_mo.rf h)
  | n + 1, pc, ls, st, h => by
    intro kt rv hg hr
    refine zv_mn_stp hc M pc ls st (fun pc ls st h => match zv_lk M.2.2.1 pc with
      | some b => kt pc (zv_msk b ls) st h
      | none => zv_seg c M kt n pc ls st h) rv (fun pc1 ls1 st1 h1 e1 => ?_) hr
    cases hb : zv_lk M.2.2.1 pc1 with
    | some b =>
      simp only [hb] at e1
      exact hg _ _ _ _ e1
    | none =>
      simp only [hb] at e1
      exact zv_mn_seg hc M n pc1 ls1 st1 h1 kt rv hg e1
theorem zv_mn_it {c : zv_C} (hc : zv_HM c) (M : zv_M) : ∀ (n pc : Nat) (ls : zv_Ls) (st : List zv_V) (h : zv_H) (rv : Option zv_V) (hE : zv_H), zv_it c M n pc ls st h = some (rv, hE) → zv_mo h hE
  | 0, _, _, _, _, _, _, hr => by cases hr
  | n + 1, pc, ls, st, h, rv, hE, hr => zv_mn_seg hc M 400 pc ls st h (zv_it c M n) rv (fun pc1 ls1 st1 h1 e1 => zv_mn_it hc M n pc1 ls1 st1 h1 rv hE e1) hr
theorem zv_mn_lim {c : zv_C} (hc : zv_HM c) {M : zv_M} {pc : Nat} {ls : zv_Ls} {st : List zv_V} {h : zv_H} {rv : Option zv_V} {hE : zv_H} (hr : zv_lim c M pc ls st h = some (rv, hE)) : zv_mo h hE := by
  obtain ⟨n, hn⟩ := (zv_lim_iff _ _ _ _ _ _ _).mp hr
  exact zv_mn_it hc M n pc ls st h rv hE hn
theorem zv_jd_h {id : Nat} {as : List zv_V} {h : zv_H} {rv : Option zv_V} {hE : zv_H} (hr : zv_jd id as h = some (rv, hE)) : hE = h := by
  unfold zv_jd at hr
  split at hr
  · split at hr <;> cases hr; rfl
  · cases hr
theorem zv_mn_sem {pg : Nat → Option (Option Nat × zv_M)} {c : zv_C} (hc : zv_HM c) {id : Nat} {as : List zv_V} {h : zv_H} {rv : Option zv_V} {hE : zv_H} (hr : zv_sem pg c id as h = some (rv, hE)) : zv_mo h hE := by
  unfold zv_sem at hr
  split at hr
  · rw [zv_jd_h hr]
    exact zv_mo.rf h
  · split at hr
    · cases hr
    · split at hr
      · exact zv_mn_lim hc hr
      · cases hr
theorem zv_pjV_eq {o : zv_O} {h : zv_H} (e : zv_pjV o = some h) : o = some (none, h) := by
  unfold zv_pjV at e
  split at e <;> cases e
  rfl
theorem zv_pjI_eq {o : zv_O} {x : Int} {h : zv_H} (e : zv_pjI o = some (x, h)) : o = some (some (zv_i x), h) := by
  unfold zv_pjI at e
  split at e <;> cases e
  rfl
theorem zv_pjJ_eq {o : zv_O} {x : Int64} {h : zv_H} (e : zv_pjJ o = some (x, h)) : o = some (some (zv_j x), h) := by
  unfold zv_pjJ at e
  split at e <;> cases e
  rfl
theorem zv_pjR_eq {o : zv_O} {x : Nat} {h : zv_H} (e : zv_pjR o = some (x, h)) : o = some (some (zv_r x), h) := by
  unfold zv_pjR at e
  split at e <;> cases e
  rfl
theorem zv_HM_cs (pg : Nat → Option (Option Nat × zv_M)) : ∀ d, zv_HM (zv_cs pg d)
  | 0 => ⟨fun _ _ _ _ e => (by cases e), fun _ _ _ _ _ e => (by cases e), fun _ _ _ _ _ e => (by cases e), fun _ _ _ _ _ e => (by cases e)⟩
  | d + 1 => ⟨fun _ _ _ _ e => zv_mn_sem (zv_HM_cs pg d) (zv_pjV_eq e), fun _ _ _ _ _ e => zv_mn_sem (zv_HM_cs pg d) (zv_pjI_eq e), fun _ _ _ _ _ e => zv_mn_sem (zv_HM_cs pg d) (zv_pjJ_eq e), fun _ _ _ _ _ e => zv_mn_sem (zv_HM_cs pg d) (zv_pjR_eq e)⟩
end
/-! 18.sound -/
section
/-! each instruction of the small machine is the machine's -/
def zv_WH (p : Program) (l : Launch) (e : Env) (R : Room) (s : State) (m : MethodId) (args : Array Value) (below : List Frame) (meth : Method) (c : Code) (Q : State → Prop) (M : zv_M) (D : va_G) (g : Nat → ClassId) (ba : Nat) (ak : Nat → Nat) (n0 s0 : Nat) (pc : Nat) (ls : zv_Ls) (st : List zv_V) (h : zv_H) : Prop :=
  ∀ H locs cells slots lsR, zv_RL ba ak lsR ls → ls.length = M.1.2.2.2.1 → (∀ v ∈ st, zv_vg v) → zv_RH D g ba ak h H → va_S (zv_Ac ba) s.heap H locs → cells + n0 = zv_n h → slots + s0 = zv_s h → zv_SC ba ak s h → W p l e R s m args below meth c H locs cells slots Q (F0 m pc lsR (st.map (zv_cv ba ak)))
def zv_ok (p : Program) (l : Launch) (e : Env) (R : Room) (s : State) (m : MethodId) (args : Array Value) (below : List Frame) (meth : Method) (c : Code) (Q : State → Prop) (M : zv_M) (D : va_G) (g : Nat → ClassId) (ba : Nat) (ak : Nat → Nat) (n0 s0 : Nat) (hE : zv_H) (pc : Nat) (ls : zv_Ls) (st : List zv_V) (h : zv_H) : Prop :=
  zv_mo h hE ∧ zv_WH p l e R s m args below meth c Q M D g ba ak n0 s0 pc ls st h
def zv_CX (p : Program) (l : Launch) (R : Room) (s : State) (args : Array Value) (m : MethodId) (meth : Method) (c : Code) (M : zv_M) (D : va_G) (g : Nat → ClassId) (ba : Nat) (ak adV : Nat → Nat) (n0 s0 : Nat) (hE : zv_H) : Prop :=
  (p.tables.exec = Jvm.exec ∧ c.code = M.1.2.2.1 ∧ c.maxLocals = M.1.2.2.2.1 ∧ s.vm.findClass M.1.1 = some m.cls ∧ (∀ w ∈ zv_tb, w.before args s = true)) ∧
  (va_K D vwCl (zv_tys g) s ∧ zv_NF s ∧ zv_NM s ∧ va_AO "BranchedText$State" s ∧ zv_SS ba ak adV s) ∧
  (M.1.2.1.name = "<init>" → meth.name = "<init>") ∧ s.heap.size = ba + n0 + 1 ∧ zv_n hE ≤ R.cells + n0 ∧ zv_s hE ≤ R.slots + s0 ∧ zv_vM M
section ZSND
variable {p : Program} {l : Launch} {e : Env} {R : Room} {s : State} {m : MethodId} {args : Array Value} {below : List Frame} {meth : Method} {c : Code} {Q : State → Prop} {M : zv_M} {D : va_G} {g : Nat → ClassId} {ba : Nat} {ak adV : Nat → Nat} {n0 s0 : Nat} {rv : Option zv_V} {hE : zv_H}
variable {pc : Nat} {ls : zv_Ls} {st : List zv_V} {h : zv_H}
theorem zv_dg (cx : zv_CX p l R s args m meth c M D g ba ak adV n0 s0 hE) {i : Instr} (hi : zv_lk M.2.1 pc = some i) (hs : zv_sw i = false) : decode M.1.2.2.1 pc = .ok (i, zv_len i) := by
  obtain ⟨len, h1, h2⟩ := cx.2.2.2.2.2.2.1 pc i hi
  rcases h2 with h2 | h2
  · rw [h1, h2]
  · rw [hs] at h2
    cases h2
theorem zv_jp_ok {go : zv_G} {off : Int} {r : Option zv_V × zv_H} (hr : zv_jp go pc off ls st h = some r) : ∃ tgt : Nat, (pc : Int) + off = (tgt : Int) ∧ go tgt ls st h = some r := by
  unfold zv_jp at hr
  split at hr
  · cases hr
  · exact ⟨_, by omega, hr⟩
theorem zv_bc_ok {go : zv_G} {off : Int} {r : Option zv_V × zv_H} {P : Prop} [Decidable P] (hr : zv_bc go pc off ls st h P = some r) : ∃ tgt : Nat, (pc : Int) + off = (tgt : Int) ∧ ((P ∧ go tgt ls st h = some r) ∨ (¬ P ∧ go (pc + 3) ls st h = some r)) := by
  unfold zv_bc at hr
  split at hr
  · cases hr
  · refine ⟨((pc : Int) + off).toNat, by omega, ?_⟩
    split at hr
    · exact Or.inl ⟨‹_›, hr⟩
    · exact Or.inr ⟨‹_›, hr⟩
theorem zv_bn_ok {go : zv_G} {off : Int} {r : Option zv_V × zv_H} {P : Prop} [Decidable P] (hr : zv_bn go pc off ls st h P = some r) : ∃ tgt : Nat, (pc : Int) + off = (tgt : Int) ∧ ((P ∧ go (pc + 3) ls st h = some r) ∨ (¬ P ∧ go tgt ls st h = some r)) := by
  unfold zv_bn at hr
  split at hr
  · cases hr
  · refine ⟨((pc : Int) + off).toNat, by omega, ?_⟩
    split at hr
    · exact Or.inl ⟨‹_›, hr⟩
    · exact Or.inr ⟨‹_›, hr⟩
theorem zv_goto_ok (cx : zv_CX p l R s args m meth c M D g ba ak adV n0 s0 hE) {off : Int} (hi : zv_lk M.2.1 pc = some (.goto off)) {go : zv_G} (hgo : ∀ pc ls st h, go pc ls st h = some (rv, hE) → zv_ok p l e R s m args below meth c Q M D g ba ak n0 s0 hE pc ls st h) (hr : zv_jp go pc off ls st h = some (rv, hE)) : zv_ok p l e R s m args below meth c Q M D g ba ak n0 s0 hE pc ls st h := by
  obtain ⟨tgt, ht, hg⟩ := zv_jp_ok hr
  refine ⟨(hgo _ _ _ _ hg).1, fun H locs cells slots lsR a1 a0 a2 a3 a4 a5 a6 a7 => ?_⟩
  exact lv_goto cx.1.1 cx.1.2.1 (zv_dg cx hi rfl) ht ((hgo _ _ _ _ hg).2 H locs cells slots lsR a1 a0 a2 a3 a4 a5 a6 a7)
/-- a branch: what it takes from the stack, when it jumps -/
theorem zv_two_ok (cx : zv_CX p l R s args m meth c M D g ba ak adV n0 s0 hE) {go : zv_G} (hgo : ∀ pc ls st h, go pc ls st h = some (rv, hE) → zv_ok p l e R s m args below meth c Q M D g ba ak n0 s0 hE pc ls st h) {tgt : Nat} {P : Prop} {pre : List zv_V}
    (hW : ∀ {H : Heap} {locs : List Loc} {cells slots : Nat} {lsR : Array Slot}, (∀ v ∈ pre, zv_vg v) → (P → W p l e R s m args below meth c H locs cells slots Q (F0 m tgt lsR (st.map (zv_cv ba ak)))) → (¬ P → W p l e R s m args below meth c H locs cells slots Q (F0 m (pc + 3) lsR (st.map (zv_cv ba ak)))) → W p l e R s m args below meth c H locs cells slots Q (F0 m pc lsR ((pre ++ st).map (zv_cv ba ak))))
    (hr : (P ∧ go tgt ls st h = some (rv, hE)) ∨ (¬ P ∧ go (pc + 3) ls st h = some (rv, hE))) : zv_ok p l e R s m args below meth c Q M D g ba ak n0 s0 hE pc ls (pre ++ st) h := by
  rcases hr with ⟨hp, hg⟩ | ⟨hp, hg⟩
  · refine ⟨(hgo _ _ _ _ hg).1, fun H locs cells slots lsR a1 a0 a2 a3 a4 a5 a6 a7 => ?_⟩
    exact hW (fun v hv => a2 v (List.mem_append_left _ hv)) (fun _ => (hgo _ _ _ _ hg).2 H locs cells slots lsR a1 a0 (fun v hv => a2 v (List.mem_append_right _ hv)) a3 a4 a5 a6 a7) (fun hn => absurd hp hn)
  · refine ⟨(hgo _ _ _ _ hg).1, fun H locs cells slots lsR a1 a0 a2 a3 a4 a5 a6 a7 => ?_⟩
    exact hW (fun v hv => a2 v (List.mem_append_left _ hv)) (fun hn => absurd hn hp) (fun _ => (hgo _ _ _ _ hg).2 H locs cells slots lsR a1 a0 (fun v hv => a2 v (List.mem_append_right _ hv)) a3 a4 a5 a6 a7)
theorem zv_or_sw {A B : Prop} {P : Prop} (h : (P ∧ A) ∨ (¬ P ∧ B)) : (¬ P ∧ B) ∨ (¬ ¬ P ∧ A) := by
  rcases h with ⟨a, b⟩ | ⟨a, b⟩
  · exact Or.inr ⟨fun q => q a, b⟩
  · exact Or.inl ⟨a, b⟩
/-- the branches on one int -/
theorem zv_if_ok (cx : zv_CX p l R s args m meth c M D g ba ak adV n0 s0 hE) {k : ClassFile.Cond} {off : Int} {x : Int} (hi : zv_lk M.2.1 pc = some (.ifCond k off)) {go : zv_G} (hgo : ∀ pc ls st h, go pc ls st h = some (rv, hE) → zv_ok p l e R s m args below meth c Q M D g ba ak n0 s0 hE pc ls st h) {tgt : Nat} (ht : (pc : Int) + off = (tgt : Int)) (P : Prop)
    (hP : zv_rg x → (P ↔ match k with
      | .eq => Int32.ofInt x = 0
      | .ne => ¬ Int32.ofInt x = 0
      | .lt => Int32.ofInt x < 0
      | .ge => 0 ≤ Int32.ofInt x
      | .gt => 0 < Int32.ofInt x
      | .le => Int32.ofInt x ≤ 0))
    (hr : (P ∧ go tgt ls st h = some (rv, hE)) ∨ (¬ P ∧ go (pc + 3) ls st h = some (rv, hE))) : zv_ok p l e R s m args below meth c Q M D g ba ak n0 s0 hE pc ls (zv_i x :: st) h := by
  refine zv_two_ok (pre := [zv_i x]) cx hgo (fun hv kt kf => ?_) hr
  have hx := hP (hv _ List.mem_cons_self)
  have hdg := zv_dg cx hi rfl
  cases k with
  | eq => exact lv_if_eq cx.1.1 cx.1.2.1 hdg ht (fun q => kt (hx.mpr q)) (fun q => kf (fun z => q (hx.mp z)))
  | ne => exact lv_if_ne cx.1.1 cx.1.2.1 hdg ht (fun q => kt (hx.mpr q)) (fun q => kf (fun z => hx.mp z q))
  | lt => exact lv_if_lt cx.1.1 cx.1.2.1 hdg ht (fun q => kt (hx.mpr q)) (fun q => kf (fun z => q (hx.mp z)))
  | ge => exact lv_if_ge cx.1.1 cx.1.2.1 hdg ht (fun q => kt (hx.mpr q)) (fun q => kf (fun z => q (hx.mp z)))
  | gt => exact lv_if_gt cx.1.1 cx.1.2.1 hdg ht (fun q => kt (hx.mpr q)) (fun q => kf (fun z => q (hx.mp z)))
  | le => exact lv_if_le cx.1.1 cx.1.2.1 hdg ht (fun q => kt (hx.mpr q)) (fun q => kf (fun z => q (hx.mp z)))
theorem zv_icmp_ok (cx : zv_CX p l R s args m meth c M D g ba ak adV n0 s0 hE) {k : ClassFile.Cond} {off : Int} {x y : Int} (hi : zv_lk M.2.1 pc = some (.if_icmp k off)) {go : zv_G} (hgo : ∀ pc ls st h, go pc ls st h = some (rv, hE) → zv_ok p l e R s m args below meth c Q M D g ba ak n0 s0 hE pc ls st h) {tgt : Nat} (ht : (pc : Int) + off = (tgt : Int)) (P : Prop)
    (hP : zv_rg x → zv_rg y → (P ↔ match k with
      | .eq => Int32.ofInt x = Int32.ofInt y
      | .ne => ¬ Int32.ofInt x = Int32.ofInt y
      | .lt => Int32.ofInt x < Int32.ofInt y
      | .ge => Int32.ofInt y ≤ Int32.ofInt x
      | .gt => Int32.ofInt y < Int32.ofInt x
      | .le => Int32.ofInt x ≤ Int32.ofInt y))
    (hr : (P ∧ go tgt ls st h = some (rv, hE)) ∨ (¬ P ∧ go (pc + 3) ls st h = some (rv, hE))) : zv_ok p l e R s m args below meth c Q M D g ba ak n0 s0 hE pc ls (zv_i y :: zv_i x :: st) h := by
  refine zv_two_ok (pre := [zv_i y, zv_i x]) cx hgo (fun hv kt kf => ?_) hr
  have hx := hP (hv _ (List.mem_cons_of_mem _ List.mem_cons_self)) (hv _ List.mem_cons_self)
  have hdg := zv_dg cx hi rfl
  cases k with
  | eq => exact lv_icmp_eq cx.1.1 cx.1.2.1 hdg ht (fun q => kt (hx.mpr q)) (fun q => kf (fun z => q (hx.mp z)))
  | ne => exact lv_icmp_ne cx.1.1 cx.1.2.1 hdg ht (fun q => kt (hx.mpr q)) (fun q => kf (fun z => hx.mp z q))
  | lt => exact lv_icmp_lt cx.1.1 cx.1.2.1 hdg ht (fun q => kt (hx.mpr q)) (fun q => kf (fun z => q (hx.mp z)))
  | ge => exact lv_icmp_ge cx.1.1 cx.1.2.1 hdg ht (fun q => kt (hx.mpr q)) (fun q => kf (fun z => q (hx.mp z)))
  | gt => exact lv_icmp_gt cx.1.1 cx.1.2.1 hdg ht (fun q => kt (hx.mpr q)) (fun q => kf (fun z => q (hx.mp z)))
  | le => exact lv_icmp_le cx.1.1 cx.1.2.1 hdg ht (fun q => kt (hx.mpr q)) (fun q => kf (fun z => q (hx.mp z)))
theorem zv_ad_inj {x y : Nat} (hx : ¬ (1000000 ≤ x ∨ 1000000 ≤ y)) : zv_ad ba ak x = zv_ad ba ak y ↔ x = y := by
  unfold zv_ad
  constructor
  · intro q
    by_cases h1 : x = 0 <;> by_cases h2 : y = 0
    · omega
    · rw [if_pos h1, if_neg h2] at q; cases q
    · rw [if_neg h1, if_pos h2] at q; cases q
    · rw [if_neg h1, if_neg h2, if_pos (by omega), if_pos (by omega)] at q
      have := Option.some.inj q
      omega
  · intro q
    rw [q]
theorem zv_acmp_ok (cx : zv_CX p l R s args m meth c M D g ba ak adV n0 s0 hE) {k : ClassFile.ACond} {off : Int} {x y : Nat} (hxy : ¬ (1000000 ≤ x ∨ 1000000 ≤ y)) (hi : zv_lk M.2.1 pc = some (.if_acmp k off)) {go : zv_G} (hgo : ∀ pc ls st h, go pc ls st h = some (rv, hE) → zv_ok p l e R s m args below meth c Q M D g ba ak n0 s0 hE pc ls st h) {tgt : Nat} (ht : (pc : Int) + off = (tgt : Int)) (P : Prop)
    (hP : P ↔ match k with
      | .eq => x = y
      | .ne => ¬ x = y)
    (hr : (P ∧ go tgt ls st h = some (rv, hE)) ∨ (¬ P ∧ go (pc + 3) ls st h = some (rv, hE))) : zv_ok p l e R s m args below meth c Q M D g ba ak n0 s0 hE pc ls (zv_r y :: zv_r x :: st) h := by
  refine zv_two_ok (pre := [zv_r y, zv_r x]) cx hgo (fun hv kt kf => ?_) hr
  have hdg := zv_dg cx hi rfl
  have hj := zv_ad_inj (ba := ba) (ak := ak) hxy
  cases k with
  | eq => exact lv_acmp_eq cx.1.1 cx.1.2.1 hdg ht (fun q => kt (hP.mpr (hj.mp q))) (fun q => kf (fun z => q (hj.mpr (hP.mp z))))
  | ne => exact lv_acmp_ne cx.1.1 cx.1.2.1 hdg ht (fun q => kt (hP.mpr (fun z => q (hj.mpr z)))) (fun q => kf (fun z => hP.mp z (hj.mp q)))
theorem zv_nul_ok (cx : zv_CX p l R s args m meth c M D g ba ak adV n0 s0 hE) {off : Int} {x : Nat} (hi : zv_lk M.2.1 pc = some (.ifnull off)) {go : zv_G} (hgo : ∀ pc ls st h, go pc ls st h = some (rv, hE) → zv_ok p l e R s m args below meth c Q M D g ba ak n0 s0 hE pc ls st h) {tgt : Nat} (ht : (pc : Int) + off = (tgt : Int))
    (hr : (x = 0 ∧ go tgt ls st h = some (rv, hE)) ∨ (¬ x = 0 ∧ go (pc + 3) ls st h = some (rv, hE))) : zv_ok p l e R s m args below meth c Q M D g ba ak n0 s0 hE pc ls (zv_r x :: st) h := by
  refine zv_two_ok (pre := [zv_r x]) cx hgo (fun hv kt kf => ?_) hr
  have hdg := zv_dg cx hi rfl
  show W p l e R s m args below meth c _ _ _ _ Q (F0 m pc _ (va_rf (zv_ad ba ak x) :: st.map (zv_cv ba ak)))
  unfold zv_ad
  by_cases hx : x = 0
  · rw [if_pos hx]
    exact lv_ifnullN cx.1.1 cx.1.2.1 hdg ht (kt hx)
  · rw [if_neg hx]
    exact lv_ifnull cx.1.1 cx.1.2.1 hdg (kf hx)
theorem zv_nnl_ok (cx : zv_CX p l R s args m meth c M D g ba ak adV n0 s0 hE) {off : Int} {x : Nat} (hi : zv_lk M.2.1 pc = some (.ifnonnull off)) {go : zv_G} (hgo : ∀ pc ls st h, go pc ls st h = some (rv, hE) → zv_ok p l e R s m args below meth c Q M D g ba ak n0 s0 hE pc ls st h) {tgt : Nat} (ht : (pc : Int) + off = (tgt : Int))
    (hr : (¬ x = 0 ∧ go tgt ls st h = some (rv, hE)) ∨ (¬ ¬ x = 0 ∧ go (pc + 3) ls st h = some (rv, hE))) : zv_ok p l e R s m args below meth c Q M D g ba ak n0 s0 hE pc ls (zv_r x :: st) h := by
  refine zv_two_ok (pre := [zv_r x]) cx hgo (fun hv kt kf => ?_) hr
  have hdg := zv_dg cx hi rfl
  show W p l e R s m args below meth c _ _ _ _ Q (F0 m pc _ (va_rf (zv_ad ba ak x) :: st.map (zv_cv ba ak)))
  unfold zv_ad
  by_cases hx : x = 0
  · rw [if_pos hx]
    exact lv_ifnonnullN cx.1.1 cx.1.2.1 hdg (kf (fun q => q hx))
  · rw [if_neg hx]
    exact lv_ifnonnull cx.1.1 cx.1.2.1 hdg ht (kt hx)
theorem zv_tsw_ok {go : zv_G} {x dflt : Int} {r : Option zv_V × zv_H} : ∀ (offs : List Int) (lo : Int), zv_tsw go pc x dflt ls st h lo offs = some r → ((x < lo ∨ lo + offs.length ≤ x) ∧ zv_jp go pc dflt ls st h = some r) ∨ (lo ≤ x ∧ x < lo + offs.length ∧ ∃ off, offs[(x - lo).toNat]? = some off ∧ zv_jp go pc off ls st h = some r)
  | [], lo, hr => by
    refine Or.inl ⟨?_, hr⟩
    simp
    omega
  | o :: t, lo, hr => by
    unfold zv_tsw at hr
    split at hr
    · rename_i q
      refine Or.inr ⟨by omega, by simp; omega, o, ?_, hr⟩
      rw [q, Int.sub_self]
      rfl
    · rename_i q
      rcases zv_tsw_ok t (lo + 1) hr with ⟨a, b⟩ | ⟨a1, a2, off, a3, a4⟩
      · refine Or.inl ⟨?_, b⟩
        simp
        omega
      · refine Or.inr ⟨by omega, by simp; omega, off, ?_, a4⟩
        rw [show (x - lo).toNat = (x - (lo + 1)).toNat + 1 by omega, List.getElem?_cons_succ]
        exact a3
theorem zv_lsw_ok {go : zv_G} {x dflt : Int} {r : Option zv_V × zv_H} : ∀ (ps : List (Int × Int)), zv_lsw go pc x dflt ls st h ps = some r → zv_jp go pc (Op.lookupswitch.offset ps dflt x) ls st h = some r
  | [], hr => hr
  | o :: t, hr => by
    unfold zv_lsw at hr
    split at hr
    · rename_i q
      have : Op.lookupswitch.offset (o :: t) dflt x = o.2 := by
        simp [Op.lookupswitch.offset, q]
      rw [this]
      exact hr
    · rename_i q
      have := zv_lsw_ok t hr
      have e : Op.lookupswitch.offset (o :: t) dflt x = Op.lookupswitch.offset t dflt x := by
        simp [Op.lookupswitch.offset, Ne.symm q]
      rw [e]
      exact this
end ZSND
end
