/-! new cells; copies; the script -/
theorem zv_n_mk (h : zv_H) (w : Nat) : zv_n (zv_mk h w) = zv_n h + 1 := rfl
theorem zv_s_mk (h : zv_H) (w : Nat) : zv_s (zv_mk h w) = zv_s h + w := rfl
theorem zv_I_mk (h : zv_H) (w a b : Nat) : zv_I (zv_mk h w) a b = if a = zv_n h + 1 then 0 else zv_I h a b := rfl
theorem zv_J_mk (h : zv_H) (w a b : Nat) : zv_J (zv_mk h w) a b = if a = zv_n h + 1 then 0 else zv_J h a b := rfl
theorem zv_R_mk (h : zv_H) (w a b : Nat) : zv_R (zv_mk h w) a b = if a = zv_n h + 1 then 0 else zv_R h a b := rfl
theorem zv_el_mk {g : Nat → ClassId} {ba : Nat} {ak : Nat → Nat} {h : zv_H} {w q : Nat} (hq : q ≤ zv_n h) : zv_el g ba ak (zv_mk h w) q = zv_el g ba ak h q :=
  zv_el_congr (fun j => by rw [zv_I_mk, if_neg (by omega)]) (fun j => by rw [zv_J_mk, if_neg (by omega)]) (fun j => by rw [zv_R_mk, if_neg (by omega)])
theorem zv_hg_mk {h : zv_H} {w : Nat} (hh : zv_hg h) : zv_hg (zv_mk h w) := by
  intro a b
  rw [zv_I_mk]
  split
  · exact zv_rg0
  · exact hh a b
section ZNEW
variable {p : Program} {l : Launch} {e : Env} {R : Room} {s : State} {m : MethodId} {args : Array Value} {below : List Frame} {meth : Method} {c : Code} {H : Heap} {locs : List Loc} {cells slots : Nat} {Q : State → Prop}
variable {cc : ByteArray} {pc : Nat} {ba : Nat} {ak : Nat → Nat} {D : va_G} {g : Nat → ClassId} {lsR : Array Slot} {rest : List Value} {own : String}
/-- the cell that was made lies where the next number says -/
theorem zv_fresh {h h' : zv_H} {x : va_E} {q : Nat} {H1 : Heap} {len : Nat} {sl : Nat} (hR : zv_RH D g ba ak h H) (hS : va_S (zv_Ac ba) s.heap H locs) (hsc : s.heap.size + cells = ba + zv_n h + 1) (hn' : zv_n h' = zv_n h + 1) (hg' : zv_hg h') (hlay : ¬ (zv_lay (zv_n h + 1)).1 = 0) (hel : zv_el g ba ak h' (zv_n h + 1) = x) (hne : ∀ q, q ≤ zv_n h → zv_el g ba ak h' q = zv_el g ba ak h q)
    (q1 : va_P D vwCl (zv_ws g ba ak h ++ [(q, x)]) H1) (q2 : va_D (zv_Ac ba) (zv_ws g ba ak h ++ [(q, x)])) (q3 : va_S (zv_Ac ba) H H1 locs)
    (kk : zv_RH D g ba ak h' H1 → va_S (zv_Ac ba) s.heap H1 locs → W p l e R s m args below meth c H1 locs (cells + 1) sl Q (F0 m (pc + len) lsR (va_rf (zv_ad ba ak (zv_n h + 1)) :: rest))) : W p l e R s m args below meth c H1 locs (cells + 1) sl Q (F0 m (pc + len) lsR (.ref q :: rest)) := by
  refine zv_Wsz fun hz => ?_
  have hlen : (zv_ws g ba ak h).length = zv_n h := by unfold zv_ws; simp
  have hlast : (zv_ws g ba ak h ++ [(q, x)])[zv_n h]? = some (q, x) := by
    rw [List.getElem?_append_right (by omega), hlen, Nat.sub_self]
    rfl
  have hlt := (q1 _ _ hlast).lt
  have hgt := q2.2 _ _ hlast
  have h1 := hR.1
  have h3 := q3.1
  have hq : q = ba + (zv_n h + 1) := by
    dsimp only at hlt hgt
    unfold zv_Ac at hgt
    by_cases hc : q ≤ ba + zv_n h
    · exfalso
      have hk : (zv_ws g ba ak h ++ [(q, x)])[q - ba - 1]? = some (ba + (q - ba), zv_el g ba ak h (q - ba)) := by
        rw [List.getElem?_append_left (by omega)]
        exact zv_ws_at (by omega) (by omega)
      have := q2.1 _ _ _ _ hk hlast (by dsimp only; omega)
      omega
    · omega
  subst hq
  have hws : zv_ws g ba ak h' = zv_ws g ba ak h ++ [(ba + (zv_n h + 1), x)] := by rw [zv_ws_push hn' hne, hel]
  rw [← hws] at q1
  have hl := zv_lay_lt hlay
  rw [show (Value.ref (ba + (zv_n h + 1))) = va_rf (zv_ad ba ak (zv_n h + 1)) from (zv_ad_in (n := zv_n h + 1) (by omega) (Nat.le_refl _) (by omega)).symm]
  exact kk ⟨by rw [hn']; dsimp only at hlt; omega, q1, hg', by omega⟩ (zv_Str hS q3)
theorem zv_new_ok (hx : p.tables.exec = Jvm.exec) (hb : c.code = cc) (hts : ∀ w ∈ zv_tb, w.before args s = true) (hown : s.vm.findClass own = some m.cls) (hK : va_K D vwCl (zv_tys g) s) {h : zv_H} (hR : zv_RH D g ba ak h H) (hS : va_S (zv_Ac ba) s.heap H locs) (hsc : s.heap.size + cells = ba + zv_n h + 1)
    {ci ix : Nat} {C : String} {T : u_T} {N : Nat} {ty : Nat → FieldType} (hCF : zv_CF ci C T N ty) (w1 : Cond.classLink own ix C ∈ zv_tb) (w2 : Cond.instantiable C N ∈ zv_tb) (w3 : Cond.initialized C ∈ zv_tb) (hlay : zv_lay (zv_n h + 1) = (1, ci)) (hc1 : cells + 1 ≤ R.cells) (hc2 : slots + zv_nf ci ≤ R.slots) (hdg : decode cc pc = .ok (.new ix, 3))
    (kk : ∀ H1, zv_RH D g ba ak (zv_mk h (zv_nf ci)) H1 → va_S (zv_Ac ba) s.heap H1 locs → W p l e R s m args below meth c H1 locs (cells + 1) (slots + zv_nf ci) Q (F0 m (pc + 3) lsR (va_rf (zv_ad ba ak (zv_n h + 1)) :: rest))) : W p l e R s m args below meth c H locs cells slots Q (F0 m pc lsR rest) := by
  obtain ⟨h1, h2, h3, h4, h5, h6, h7⟩ := hCF
  rw [← h2] at hc2 kk
  have hsz := hR.1
  refine va_new (fs := zv_fs ba ak (zv_mk h N) (zv_n h + 1) ci) hx hb hts h3 ty h4 hown (hts _ w1) (hts _ w2) (hts _ w3) hK hR.2.1 (zv_ws_D g ba ak h) (zv_Srf hS) (fun q hq => by unfold zv_Ac; omega) h1 (fun j hj => ?_) hc1 hc2 hdg (fun q H1 q1 q2 q3 => ?_)
  · have hat := zv_fs_at (ba := ba) (ak := ak) (h := zv_mk h N) (r := zv_n h + 1) (ci := ci) (k := j) (h2 ▸ hj)
    unfold vp_V
    rw [List.getD_eq_getElem?_getD, hat]
    have hk := h7 j hj
    show defaultValue (ty j) = zv_fv ba ak (zv_mk h N) (zv_n h + 1) ci j
    unfold zv_fv
    rw [zv_I_mk, zv_J_mk, zv_R_mk, if_pos rfl, if_pos rfl, if_pos rfl]
    unfold zv_tyk at hk
    split at hk
    · rename_i z; rw [z, hk]; rfl
    · rename_i z; rw [z, hk]; rfl
    · rename_i z; rw [z, hk]; rfl
    · rename_i z
      rw [z]
      rcases hk with ⟨y, hk⟩ | ⟨y, hk⟩ <;> rw [hk] <;> rfl
    · exact hk.elim
  · exact zv_fresh (h' := zv_mk h N) hR hS hsc rfl (zv_hg_mk hR.2.2.1) (by rw [hlay]; exact Nat.one_ne_zero) (zv_el_obj hlay) (fun q hq => zv_el_mk hq) q1 q2 q3 (kk H1)
/-- an array of numbers -/
theorem zv_newa_ok (hx : p.tables.exec = Jvm.exec) (hb : c.code = cc) {at' : ArrayType} {ty : FieldType} (hat : newarray.typeOf at' = ty) (harr : (Cond.arrayClass (newarray.typeOf at')).before args s = true) (hK : va_K D vwCl (zv_tys g) s) {h : zv_H} (hR : zv_RH D g ba ak h H) (hS : va_S (zv_Ac ba) s.heap H locs) (hsc : s.heap.size + cells = ba + zv_n h + 1)
    {kd : Nat} {x : Int} {a0 : vp_A} (hx0 : 0 ≤ x ∧ x ≤ 60000) (hlay : zv_lay (zv_n h + 1) = (kd, x.toNat)) (hkd : ¬ kd = 0) {t0 : Nat} {cA : ClassId} (ht : (zv_tys g)[t0]? = some (cA, ty)) (hnm : ∀ C, ¬ ty = .object C) (hel : zv_el g ba ak (zv_mk h x.toNat) (zv_n h + 1) = .inl (cA, a0)) (ha : ∀ cA : ClassId, vp_cell cA a0 = arrV cA x.toNat (fun _ => defaultValue ty)) (hbyt : componentBytes ty ≤ 8) (hc1 : cells + 1 ≤ R.cells) (hc2 : slots + x.toNat ≤ R.slots) (hdg : decode cc pc = .ok (.newarray at', 2))
    (kk : ∀ H1, zv_RH D g ba ak (zv_mk h x.toNat) H1 → va_S (zv_Ac ba) s.heap H1 locs → W p l e R s m args below meth c H1 locs (cells + 1) (slots + x.toNat) Q (F0 m (pc + 2) lsR (va_rf (zv_ad ba ak (zv_n h + 1)) :: rest))) : W p l e R s m args below meth c H locs cells slots Q (F0 m pc lsR (.int (Int32.ofInt x) :: rest)) := by
  have hrx : zv_rg x := by unfold zv_rg; omega
  have hsz := hR.1
  refine va_newa hx hb harr hat hK hR.2.1 (zv_ws_D g ba ak h) (zv_Srf hS) (fun q hq => by unfold zv_Ac; omega) ha (fun z => by have := (zv_lt0 hrx).mp z; omega) (zv_clamp hrx hx0.1) (Nat.le_trans (Nat.mul_le_mul (show x.toNat ≤ 60000 by omega) hbyt) (Nat.le_of_ble_eq_true rfl)) hc1 hc2 hdg (fun q cB H1 hK1 q1 q2 q3 => ?_)
  have hcc : cB = cA := by
    have e1 := (hK.2 t0 _ ht).2
    have e2 := (hK1.2 5 (cB, ty) rfl).2
    unfold va_RA at e1 e2
    cases ty with
    | object C => exact absurd rfl (hnm C)
    | _ => exact Option.some.inj (e2.symm.trans e1)
  subst hcc
  exact zv_fresh (h' := zv_mk h x.toNat) hR hS hsc rfl (zv_hg_mk hR.2.2.1) (by rw [hlay]; exact hkd) hel (fun q hq => zv_el_mk hq) q1 q2 q3 (kk H1)
theorem zv_newq_ok (hx : p.tables.exec = Jvm.exec) (hb : c.code = cc) (hown : s.vm.findClass own = some m.cls) (hover : va_AO "BranchedText$State" s) (hK : va_K D vwCl (zv_tys g) s) {h : zv_H} (hR : zv_RH D g ba ak h H) (hS : va_S (zv_Ac ba) s.heap H locs) (hsc : s.heap.size + cells = ba + zv_n h + 1)
    {ix : Nat} {x : Int} (hx0 : 0 ≤ x ∧ x ≤ 60000) (w1 : (Cond.classLink own ix "BranchedText$State").before args s = true) (hlay : zv_lay (zv_n h + 1) = (6, x.toNat)) (hc1 : cells + 1 ≤ R.cells) (hc2 : slots + x.toNat ≤ R.slots) (hdg : decode cc pc = .ok (.anewarray ix, 3))
    (kk : ∀ H1, zv_RH D g ba ak (zv_mk h x.toNat) H1 → va_S (zv_Ac ba) s.heap H1 locs → W p l e R s m args below meth c H1 locs (cells + 1) (slots + x.toNat) Q (F0 m (pc + 3) lsR (va_rf (zv_ad ba ak (zv_n h + 1)) :: rest))) : W p l e R s m args below meth c H locs cells slots Q (F0 m pc lsR (.int (Int32.ofInt x) :: rest)) := by
  have hrx : zv_rg x := by unfold zv_rg; omega
  have hsz := hR.1
  refine va_newq hx hb hown w1 hover hK hR.2.1 (zv_ws_D g ba ak h) (zv_Srf hS) (fun q hq => by unfold zv_Ac; omega) (fun z => by have := (zv_lt0 hrx).mp z; omega) (zv_clamp hrx hx0.1) (by omega) hc1 hc2 hdg (fun q cB H1 hK1 q1 q2 q3 => ?_)
  have hcc : cB = g 6 := by
    obtain ⟨_, _, -, -, -, e1⟩ := (hK.2 4 (g 6, .object "BranchedText$State") rfl).2
    obtain ⟨_, _, -, -, -, e2⟩ := (hK1.2 5 (cB, .object "BranchedText$State") rfl).2
    exact Option.some.inj (e2.symm.trans e1)
  subst hcc
  refine zv_fresh (h' := zv_mk h x.toNat) hR hS hsc rfl (zv_hg_mk hR.2.2.1) (by rw [hlay]; exact Nat.succ_ne_zero 5) ?_ (fun q hq => zv_el_mk hq) q1 q2 q3 (kk H1)
  rw [zv_el_6 (by rw [hlay]), hlay]
  congr 5
  congr 2
  funext j
  rw [zv_R_mk, if_pos rfl]
  rfl
/-- a copy within arrays of ints -/
theorem zv_cy_ok (hx : p.tables.exec = Jvm.exec) (hb : c.code = cc) (hml : c.maxLocals = lsR.size) (hown : s.vm.findClass own = some m.cls) {ix : Nat} (w1 : (Cond.methodLink own ix arraycopyName).before args s = true) (w2 : (Cond.native arraycopyName).before args s = true) (w3 : (Cond.static arraycopyName).before args s = true) (w4 : (Cond.initialized "java/lang/System").before args s = true)
    (hK : va_K D vwCl (zv_tys g) s) {h h' : zv_H} (hR : zv_RH D g ba ak h H) (hS : va_S (zv_Ac ba) s.heap H locs) (hsc : s.heap.size + cells = ba + zv_n h + 1) {sr d : Nat} {sp dp n : Int} (hsp : zv_rg sp) (hdp : zv_rg dp) (hnr : zv_rg n) (ho : zv_cy h sr sp d dp n = some h') (hf : 1 ≤ R.frames) (hlo : (rest.map fun v => v.category).sum + (nativeFrameWords "java/lang/System" "arraycopy" 5 + 11) ≤ R.locals) (hdg : decode cc pc = .ok (.invokestatic ix, 3))
    (kk : ∀ H1 locs1, zv_RH D g ba ak h' H1 → va_S (zv_Ac ba) s.heap H1 locs1 → W p l e R s m args below meth c H1 locs1 cells slots Q (F0 m (pc + 3) lsR rest)) : W p l e R s m args below meth c H locs cells slots Q (F0 m pc lsR (.int (Int32.ofInt n) :: .int (Int32.ofInt dp) :: va_rf (zv_ad ba ak d) :: .int (Int32.ofInt sp) :: va_rf (zv_ad ba ak sr) :: rest)) := by
  unfold zv_cy at ho
  split at ho
  · rename_i q
    obtain ⟨⟨a1, a2, a3, a4⟩, ⟨b1, b2, b3⟩, c1, c2, c3⟩ := q
    cases ho
    have hp1 := zv_lay_pos' (r := sr) (by omega)
    have hp2 := zv_lay_pos' (r := d) (by omega)
    rw [zv_ad_in hp1 a1 hR.2.2.2, zv_ad_in hp2 a2 hR.2.2.2]
    have hcp : ∀ a b, zv_I (zv_cp h sr sp.toNat d dp.toNat n.toNat) a b = if a = d ∧ dp.toNat ≤ b ∧ b < dp.toNat + n.toNat then zv_I h sr (sp.toNat + (b - dp.toNat)) else zv_I h a b := fun _ _ => rfl
    refine va_copyi (ty := .int) hx hb hml hown w1 w2 w3 w4 hK hR.2.1 (zv_ws_D g ba ak h) (zv_Srf hS) (sr - 1) (d - 1) 0 0 (by rw [zv_ws_at hp1 a1, zv_el_2 a3]) (by rw [zv_ws_at hp2 a2, zv_el_2 a4]) rfl rfl rfl (fun z => by have := (zv_lt0 hsp).mp z; omega) (fun z => by have := (zv_lt0 hdp).mp z; omega) (fun z => by have := (zv_lt0 hnr).mp z; omega) (by rw [zv_clamp hsp b1, zv_clamp hnr b3]; omega) (by rw [zv_clamp hdp b2, zv_clamp hnr b3]; omega) (fun _ _ => rfl) hf hlo hdg ?_
    rw [zv_clamp hsp b1, zv_clamp hdp b2, zv_clamp hnr b3]
    intro H1 locs1 q1 q2 q3
    have hel : zv_el g ba ak (zv_cp h sr sp.toNat d dp.toNat n.toNat) d = .inl (g 2, (zv_lay d).2, .inl (va_cpy (fun j => Int32.ofInt (zv_I h sr j)) (fun j => Int32.ofInt (zv_I h d j)) sp.toNat dp.toNat n.toNat)) := by
      rw [zv_el_2 a4]
      congr 3
      congr 1
      funext k
      unfold va_cpy
      rw [hcp]
      by_cases hk : dp.toNat ≤ k ∧ k < dp.toNat + n.toNat
      · rw [if_pos ⟨rfl, hk⟩, if_pos hk]
      · rw [if_neg (fun z => hk z.2), if_neg hk]
    rw [← hel, zv_ws_set (h := h) (h' := zv_cp h sr sp.toNat d dp.toNat n.toNat) hp2 rfl (fun q hq => zv_el_congr (fun j => by rw [hcp, if_neg (fun z => hq z.1)]) (fun _ => rfl) (fun _ => rfl))] at q1
    exact zv_back (h' := zv_cp h sr sp.toNat d dp.toNat n.toNat) hR hS hsc rfl (fun a b => by rw [hcp]; split <;> exact hR.2.2.1 _ _) (kk H1 locs1) q1 q3
  · cases ho
/-- the script -/
def zv_SC (ba : Nat) (ak : Nat → Nat) (s : State) (h : zv_H) : Prop := ∃ xs : Nat → Int32, va_X (ak 2000000) (zv_L h) xs s s.heap ∧ ak 2000000 ≤ ba ∧ zv_L h < 2147483648 ∧ ∀ k, k < zv_L h → zv_X h k = (xs k).toInt
theorem zv_SC.lt {h : zv_H} (hC : zv_SC ba ak s h) : ak 2000000 < s.heap.size := by
  obtain ⟨xs, ⟨scr, h1, -⟩, -⟩ := hC
  exact (Array.getElem?_eq_some_iff.mp h1).1
theorem zv_ad_s (ba : Nat) (ak : Nat → Nat) : va_rf (zv_ad ba ak 2000000) = .ref (ak 2000000) := by
  unfold zv_ad
  rw [if_neg (by omega), if_neg (by omega)]
  rfl
theorem zv_sld_ok (hx : p.tables.exec = Jvm.exec) (hb : c.code = cc) {h : zv_H} (hC : zv_SC ba ak s h) (hS : va_S (zv_Ac ba) s.heap H locs) {j : Int} (hj : zv_rg j) (ho : 0 ≤ j ∧ j < zv_L h) (hdg : decode cc pc = .ok (.iaload, 1))
    (kk : zv_rg (zv_X h j.toNat) → W p l e R s m args below meth c H locs cells slots Q (F0 m (pc + 1) lsR (.int (Int32.ofInt (zv_X h j.toNat)) :: rest))) : W p l e R s m args below meth c H locs cells slots Q (F0 m pc lsR (.int (Int32.ofInt j) :: va_rf (zv_ad ba ak 2000000) :: rest)) := by
  have hlt := hC.lt
  obtain ⟨xs, h1, h2, h3, h4⟩ := hC
  have h5 := h4 j.toNat (by omega)
  rw [h5] at kk
  rw [zv_ad_s]
  exact va_sld hx hb h1 hlt (by unfold zv_Ac; omega) hS (zv_in hj ho.1 ho.2) hdg (by rw [zv_clamp hj ho.1]; have := kk (zv_rg_toInt _); rwa [zv_ofto] at this)
theorem zv_slen_ok (hx : p.tables.exec = Jvm.exec) (hb : c.code = cc) {h : zv_H} (hC : zv_SC ba ak s h) (hS : va_S (zv_Ac ba) s.heap H locs) (hdg : decode cc pc = .ok (.arraylength, 1))
    (kk : W p l e R s m args below meth c H locs cells slots Q (F0 m (pc + 1) lsR (.int (Int32.ofInt (zv_L h)) :: rest))) : W p l e R s m args below meth c H locs cells slots Q (F0 m pc lsR (va_rf (zv_ad ba ak 2000000) :: rest)) := by
  have hlt := hC.lt
  obtain ⟨xs, h1, h2, h3, h4⟩ := hC
  rw [zv_ad_s]
  exact va_slen hx hb h1 hlt (by unfold zv_Ac; omega) hS hdg kk
theorem zv_alen_ok (hx : p.tables.exec = Jvm.exec) (hb : c.code = cc) (hK : va_K D vwCl (zv_tys g) s) {h : zv_H} (hR : zv_RH D g ba ak h H) {r : Nat} (ho : r ≤ zv_n h ∧ 2 ≤ (zv_lay r).1) (hlay : (zv_lay r).1 ≤ 6) (hdg : decode cc pc = .ok (.arraylength, 1))
    (kk : W p l e R s m args below meth c H locs cells slots Q (F0 m (pc + 1) lsR (.int (Int32.ofInt (zv_lay r).2) :: rest))) : W p l e R s m args below meth c H locs cells slots Q (F0 m pc lsR (va_rf (zv_ad ba ak r) :: rest)) := by
  obtain ⟨h1, h2⟩ := ho
  have hp := zv_lay_pos' (r := r) (by omega)
  rw [zv_ad_in hp h1 hR.2.2.2]
  have hv : Int32.ofNat (zv_lay r).2 = Int32.ofInt ((zv_lay r).2 : Int) := rfl
  rcases (show (zv_lay r).1 = 2 ∨ (zv_lay r).1 = 3 ∨ (zv_lay r).1 = 4 ∨ (zv_lay r).1 = 5 ∨ (zv_lay r).1 = 6 by omega) with q | q | q | q | q
  · exact va_alen hx hb hK hR.2.1 (r - 1) 0 (by rw [zv_ws_at hp h1, zv_el_2 q]) (ty := .int) rfl hv hdg kk
  · exact va_alen hx hb hK hR.2.1 (r - 1) 1 (by rw [zv_ws_at hp h1, zv_el_3 q]) (ty := .boolean) rfl hv hdg kk
  · exact va_alen hx hb hK hR.2.1 (r - 1) 2 (by rw [zv_ws_at hp h1, zv_el_4 q]) (ty := .byte) rfl hv hdg kk
  · exact va_alen hx hb hK hR.2.1 (r - 1) 3 (by rw [zv_ws_at hp h1, zv_el_5 q]) (ty := .long) rfl hv hdg kk
  · exact va_alen hx hb hK hR.2.1 (r - 1) 4 (by rw [zv_ws_at hp h1, zv_el_6 q]) (ty := .object "BranchedText$State") rfl hv hdg kk
end ZNEW
