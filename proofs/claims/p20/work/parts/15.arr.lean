/-! arrays, new cells -/
theorem zv_and1 (x : Int) : Int32.ofInt x &&& 1 = Int32.ofInt (zv_nz x) := by
  apply Int32.toInt_inj.mp
  have h1 : zv_rg (zv_nz x) := zv_rg_nz x
  rw [zv_toInt h1]
  have e1 : (Int32.ofInt x &&& 1).toBitVec.toNat = (Int32.ofInt x).toBitVec.toNat % 2 := by
    rw [Int32.toBitVec_and, BitVec.toNat_and]
    exact Nat.and_one_is_mod _
  have e2 : (Int32.ofInt x).toBitVec.toNat = (x % 4294967296).toNat := by
    rw [Int32.toBitVec_ofInt, BitVec.toNat_ofInt]
    rfl
  have e3 : (Int32.ofInt x &&& 1).toInt = ((Int32.ofInt x &&& 1).toBitVec.toNat : Int) := by
    show (Int32.ofInt x &&& 1).toBitVec.toInt = _
    rw [BitVec.toInt_eq_toNat_of_lt]
    rw [e1]
    have := Nat.mod_lt ((Int32.ofInt x).toBitVec.toNat) (show 0 < 2 by omega)
    omega
  rw [e3, e1, e2]
  unfold zv_nz
  omega
theorem zv_nar_z (x : Int) : vp_nar .boolean (Int32.ofInt x) = Int32.ofInt (zv_nz x) := by
  rw [← zv_and1]
  rfl
theorem zv_el_2 {g : Nat → ClassId} {ba : Nat} {ak : Nat → Nat} {h : zv_H} {r : Nat} (hl : (zv_lay r).1 = 2) : zv_el g ba ak h r = .inl (g 2, (zv_lay r).2, .inl fun j => Int32.ofInt (zv_I h r j)) := by
  unfold zv_el
  rw [hl]
  rfl
theorem zv_el_3 {g : Nat → ClassId} {ba : Nat} {ak : Nat → Nat} {h : zv_H} {r : Nat} (hl : (zv_lay r).1 = 3) : zv_el g ba ak h r = .inl (g 3, (zv_lay r).2, .inl fun j => Int32.ofInt (zv_I h r j)) := by
  unfold zv_el
  rw [hl]
  rfl
theorem zv_el_4 {g : Nat → ClassId} {ba : Nat} {ak : Nat → Nat} {h : zv_H} {r : Nat} (hl : (zv_lay r).1 = 4) : zv_el g ba ak h r = .inl (g 4, (zv_lay r).2, .inl fun j => Int32.ofInt (zv_I h r j)) := by
  unfold zv_el
  rw [hl]
  rfl
theorem zv_el_5 {g : Nat → ClassId} {ba : Nat} {ak : Nat → Nat} {h : zv_H} {r : Nat} (hl : (zv_lay r).1 = 5) : zv_el g ba ak h r = .inl (g 5, (zv_lay r).2, .inr (.inl fun j => zv_J h r j)) := by
  unfold zv_el
  rw [hl]
  rfl
theorem zv_el_6 {g : Nat → ClassId} {ba : Nat} {ak : Nat → Nat} {h : zv_H} {r : Nat} (hl : (zv_lay r).1 = 6) : zv_el g ba ak h r = .inl (g 6, (zv_lay r).2, .inr (.inr (.inr (.inr fun j => zv_ad ba ak (zv_R h r j))))) := by
  unfold zv_el
  rw [hl]
  rfl
section ZARR
variable {p : Program} {l : Launch} {e : Env} {R : Room} {s : State} {m : MethodId} {args : Array Value} {below : List Frame} {meth : Method} {c : Code} {H : Heap} {locs : List Loc} {cells slots : Nat} {Q : State → Prop}
variable {cc : ByteArray} {pc : Nat} {ba : Nat} {ak : Nat → Nat} {D : va_G} {g : Nat → ClassId} {lsR : Array Slot} {rest : List Value} {own : String}
theorem zv_iald_ok (hx : p.tables.exec = Jvm.exec) (hb : c.code = cc) (hK : va_K D vwCl (zv_tys g) s) {h : zv_H} (hR : zv_RH D g ba ak h H) {r : Nat} {j : Int} (hj : zv_rg j) (ho : r ≤ zv_n h ∧ (zv_lay r).1 = 2 ∧ 0 ≤ j ∧ j < (zv_lay r).2) (hdg : decode cc pc = .ok (.iaload, 1))
    (kk : W p l e R s m args below meth c H locs cells slots Q (F0 m (pc + 1) lsR (.int (Int32.ofInt (zv_I h r j.toNat)) :: rest))) : W p l e R s m args below meth c H locs cells slots Q (F0 m pc lsR (.int (Int32.ofInt j) :: va_rf (zv_ad ba ak r) :: rest)) := by
  obtain ⟨h1, h2, h3, h4⟩ := ho
  have hp := zv_lay_pos' (r := r) (by omega)
  rw [zv_ad_in hp h1 hR.2.2.2]
  exact va_iald hx hb hK hR.2.1 (r - 1) 0 (by rw [zv_ws_at hp h1, zv_el_2 h2]) rfl (zv_in hj h3 h4) hdg (by rw [zv_clamp hj h3]; exact kk)
theorem zv_bald_ok (hx : p.tables.exec = Jvm.exec) (hb : c.code = cc) (hK : va_K D vwCl (zv_tys g) s) {h : zv_H} (hR : zv_RH D g ba ak h H) {r : Nat} {j : Int} (hj : zv_rg j) (ho : r ≤ zv_n h ∧ ((zv_lay r).1 = 3 ∨ (zv_lay r).1 = 4) ∧ 0 ≤ j ∧ j < (zv_lay r).2) (hdg : decode cc pc = .ok (.baload, 1))
    (kk : W p l e R s m args below meth c H locs cells slots Q (F0 m (pc + 1) lsR (.int (Int32.ofInt (zv_I h r j.toNat)) :: rest))) : W p l e R s m args below meth c H locs cells slots Q (F0 m pc lsR (.int (Int32.ofInt j) :: va_rf (zv_ad ba ak r) :: rest)) := by
  obtain ⟨h1, h2, h3, h4⟩ := ho
  have hp := zv_lay_pos' (r := r) (by omega)
  rw [zv_ad_in hp h1 hR.2.2.2]
  rcases h2 with h2 | h2
  · exact va_zald hx hb hK hR.2.1 (r - 1) 1 (by rw [zv_ws_at hp h1, zv_el_3 h2]) rfl (zv_in hj h3 h4) hdg (by rw [zv_clamp hj h3]; exact kk)
  · exact va_bald hx hb hK hR.2.1 (r - 1) 2 (by rw [zv_ws_at hp h1, zv_el_4 h2]) rfl (zv_in hj h3 h4) hdg (by rw [zv_clamp hj h3]; exact kk)
theorem zv_lald_ok (hx : p.tables.exec = Jvm.exec) (hb : c.code = cc) (hK : va_K D vwCl (zv_tys g) s) {h : zv_H} (hR : zv_RH D g ba ak h H) {r : Nat} {j : Int} (hj : zv_rg j) (ho : r ≤ zv_n h ∧ (zv_lay r).1 = 5 ∧ 0 ≤ j ∧ j < (zv_lay r).2) (hdg : decode cc pc = .ok (.laload, 1))
    (kk : W p l e R s m args below meth c H locs cells slots Q (F0 m (pc + 1) lsR (.long (zv_J h r j.toNat) :: rest))) : W p l e R s m args below meth c H locs cells slots Q (F0 m pc lsR (.int (Int32.ofInt j) :: va_rf (zv_ad ba ak r) :: rest)) := by
  obtain ⟨h1, h2, h3, h4⟩ := ho
  have hp := zv_lay_pos' (r := r) (by omega)
  rw [zv_ad_in hp h1 hR.2.2.2]
  exact va_lald hx hb hK hR.2.1 (r - 1) 3 (by rw [zv_ws_at hp h1, zv_el_5 h2]) rfl (zv_in hj h3 h4) hdg (by rw [zv_clamp hj h3]; exact kk)
theorem zv_aald_ok (hx : p.tables.exec = Jvm.exec) (hb : c.code = cc) (hK : va_K D vwCl (zv_tys g) s) {h : zv_H} (hR : zv_RH D g ba ak h H) {r : Nat} {j : Int} (hj : zv_rg j) (ho : r ≤ zv_n h ∧ (zv_lay r).1 = 6 ∧ 0 ≤ j ∧ j < (zv_lay r).2) (hdg : decode cc pc = .ok (.aaload, 1))
    (kk : W p l e R s m args below meth c H locs cells slots Q (F0 m (pc + 1) lsR (va_rf (zv_ad ba ak (zv_R h r j.toNat)) :: rest))) : W p l e R s m args below meth c H locs cells slots Q (F0 m pc lsR (.int (Int32.ofInt j) :: va_rf (zv_ad ba ak r) :: rest)) := by
  obtain ⟨h1, h2, h3, h4⟩ := ho
  have hp := zv_lay_pos' (r := r) (by omega)
  rw [zv_ad_in hp h1 hR.2.2.2]
  exact va_aldq hx hb hK hR.2.1 (r - 1) 4 (C := "BranchedText$State") (by rw [zv_ws_at hp h1, zv_el_6 h2]) rfl (zv_in hj h3 h4) hdg (by rw [zv_clamp hj h3]; exact kk)
/-- an array's place is written -/
theorem zv_ast_back {h h' : zv_H} {r : Nat} {x : vp_A} {cA : ClassId} (hR : zv_RH D g ba ak h H) (hS : va_S (zv_Ac ba) s.heap H locs) (hsc : s.heap.size + cells = ba + zv_n h + 1) (hp : 1 ≤ r) (hn' : zv_n h' = zv_n h) (hg' : zv_hg h') (hel : zv_el g ba ak h' r = .inl (cA, x)) (hne : ∀ q, ¬ q = r → zv_el g ba ak h' q = zv_el g ba ak h q)
    (kk : ∀ H1 locs1, zv_RH D g ba ak h' H1 → va_S (zv_Ac ba) s.heap H1 locs1 → W p l e R s m args below meth c H1 locs1 cells slots Q (F0 m (pc + 1) lsR rest)) :
    ∀ (H1 : Heap) (locs1 : List Loc), va_P D vwCl ((zv_ws g ba ak h).set (r - 1) (ba + r, .inl (cA, x))) H1 → va_D (zv_Ac ba) ((zv_ws g ba ak h).set (r - 1) (ba + r, .inl (cA, x))) → va_S (zv_Ac ba) H H1 locs1 → W p l e R s m args below meth c H1 locs1 cells slots Q (F0 m (pc + 1) lsR rest) := by
  intro H1 locs1 q1 q2 q3
  rw [← hel, zv_ws_set hp hn' hne] at q1
  exact zv_back hR hS hsc hn' hg' (kk H1 locs1) q1 q3
theorem zv_iast_ok (hx : p.tables.exec = Jvm.exec) (hb : c.code = cc) (hK : va_K D vwCl (zv_tys g) s) {h : zv_H} (hR : zv_RH D g ba ak h H) (hS : va_S (zv_Ac ba) s.heap H locs) (hsc : s.heap.size + cells = ba + zv_n h + 1) {r : Nat} {j v : Int} (hj : zv_rg j) (hv : zv_rg v) (ho : r ≤ zv_n h ∧ (zv_lay r).1 = 2 ∧ 0 ≤ j ∧ j < (zv_lay r).2) (hdg : decode cc pc = .ok (.iastore, 1))
    (kk : ∀ H1 locs1, zv_RH D g ba ak (zv_sI h r j.toNat v) H1 → va_S (zv_Ac ba) s.heap H1 locs1 → W p l e R s m args below meth c H1 locs1 cells slots Q (F0 m (pc + 1) lsR rest)) : W p l e R s m args below meth c H locs cells slots Q (F0 m pc lsR (.int (Int32.ofInt v) :: .int (Int32.ofInt j) :: va_rf (zv_ad ba ak r) :: rest)) := by
  obtain ⟨h1, h2, h3, h4⟩ := ho
  have hp := zv_lay_pos' (r := r) (by omega)
  rw [zv_ad_in hp h1 hR.2.2.2]
  refine va_iast hx hb hK hR.2.1 (zv_ws_D g ba ak h) (zv_Srf hS) (r - 1) 0 (by rw [zv_ws_at hp h1, zv_el_2 h2]) rfl (zv_in hj h3 h4) hdg ?_
  refine zv_ast_back (h' := zv_sI h r j.toNat v) hR hS hsc hp rfl (zv_hg_sI hR.2.2.1 hv) ?_ (fun q hq => zv_el_sI hq) kk
  rw [zv_el_2 h2, zv_clamp hj h3]
  congr 3
  congr 1
  funext k
  unfold upd
  rw [zv_I_sI]
  by_cases hk : k = j.toNat
  · rw [if_pos hk, if_pos ⟨rfl, hk⟩]
  · rw [if_neg hk, if_neg (fun z => hk z.2)]
theorem zv_bast_ok (hx : p.tables.exec = Jvm.exec) (hb : c.code = cc) (hK : va_K D vwCl (zv_tys g) s) {h : zv_H} (hR : zv_RH D g ba ak h H) (hS : va_S (zv_Ac ba) s.heap H locs) (hsc : s.heap.size + cells = ba + zv_n h + 1) {r : Nat} {j v : Int} (hj : zv_rg j) (ho : r ≤ zv_n h ∧ ((zv_lay r).1 = 3 ∨ (zv_lay r).1 = 4) ∧ 0 ≤ j ∧ j < (zv_lay r).2) (hdg : decode cc pc = .ok (.bastore, 1))
    (kk : ∀ H1 locs1, zv_RH D g ba ak (zv_sI h r j.toNat (if (zv_lay r).1 = 3 then zv_nz v else zv_i2b v)) H1 → va_S (zv_Ac ba) s.heap H1 locs1 → W p l e R s m args below meth c H1 locs1 cells slots Q (F0 m (pc + 1) lsR rest)) : W p l e R s m args below meth c H locs cells slots Q (F0 m pc lsR (.int (Int32.ofInt v) :: .int (Int32.ofInt j) :: va_rf (zv_ad ba ak r) :: rest)) := by
  obtain ⟨h1, h2, h3, h4⟩ := ho
  have hp := zv_lay_pos' (r := r) (by omega)
  rw [zv_ad_in hp h1 hR.2.2.2]
  rcases h2 with h2 | h2
  · rw [if_pos h2] at kk
    refine va_zast hx hb hK hR.2.1 (zv_ws_D g ba ak h) (zv_Srf hS) (r - 1) 1 (by rw [zv_ws_at hp h1, zv_el_3 h2]) rfl (zv_in hj h3 h4) hdg ?_
    refine zv_ast_back (h' := zv_sI h r j.toNat (zv_nz v)) hR hS hsc hp rfl (zv_hg_sI hR.2.2.1 (zv_rg_nz v)) ?_ (fun q hq => zv_el_sI hq) kk
    rw [zv_el_3 h2, zv_clamp hj h3, zv_nar_z]
    congr 3
    congr 1
    funext k
    unfold upd
    rw [zv_I_sI]
    by_cases hk : k = j.toNat
    · rw [if_pos hk, if_pos ⟨rfl, hk⟩]
    · rw [if_neg hk, if_neg (fun z => hk z.2)]
  · rw [if_neg (by omega)] at kk
    refine va_bast hx hb hK hR.2.1 (zv_ws_D g ba ak h) (zv_Srf hS) (r - 1) 2 (by rw [zv_ws_at hp h1, zv_el_4 h2]) rfl (zv_in hj h3 h4) hdg ?_
    refine zv_ast_back (h' := zv_sI h r j.toNat (zv_i2b v)) hR hS hsc hp rfl (zv_hg_sI hR.2.2.1 (zv_rg_i2b v)) ?_ (fun q hq => zv_el_sI hq) kk
    rw [zv_el_4 h2, zv_clamp hj h3, zv_nar_b]
    congr 3
    congr 1
    funext k
    unfold upd
    rw [zv_I_sI]
    by_cases hk : k = j.toNat
    · rw [if_pos hk, if_pos ⟨rfl, hk⟩]
    · rw [if_neg hk, if_neg (fun z => hk z.2)]
theorem zv_last_ok (hx : p.tables.exec = Jvm.exec) (hb : c.code = cc) (hK : va_K D vwCl (zv_tys g) s) {h : zv_H} (hR : zv_RH D g ba ak h H) (hS : va_S (zv_Ac ba) s.heap H locs) (hsc : s.heap.size + cells = ba + zv_n h + 1) {r : Nat} {j : Int} {v : Int64} (hj : zv_rg j) (ho : r ≤ zv_n h ∧ (zv_lay r).1 = 5 ∧ 0 ≤ j ∧ j < (zv_lay r).2) (hdg : decode cc pc = .ok (.lastore, 1))
    (kk : ∀ H1 locs1, zv_RH D g ba ak (zv_sJ h r j.toNat v) H1 → va_S (zv_Ac ba) s.heap H1 locs1 → W p l e R s m args below meth c H1 locs1 cells slots Q (F0 m (pc + 1) lsR rest)) : W p l e R s m args below meth c H locs cells slots Q (F0 m pc lsR (.long v :: .int (Int32.ofInt j) :: va_rf (zv_ad ba ak r) :: rest)) := by
  obtain ⟨h1, h2, h3, h4⟩ := ho
  have hp := zv_lay_pos' (r := r) (by omega)
  rw [zv_ad_in hp h1 hR.2.2.2]
  refine va_last hx hb hK hR.2.1 (zv_ws_D g ba ak h) (zv_Srf hS) (r - 1) 3 (by rw [zv_ws_at hp h1, zv_el_5 h2]) rfl (zv_in hj h3 h4) hdg ?_
  refine zv_ast_back (h' := zv_sJ h r j.toNat v) hR hS hsc hp rfl hR.2.2.1 ?_ (fun q hq => zv_el_sJ hq) kk
  rw [zv_el_5 h2, zv_clamp hj h3]
  congr 4
  congr 1
  funext k
  unfold vp_updL
  rw [zv_J_sJ]
  by_cases hk : k = j.toNat
  · rw [if_pos hk, if_pos ⟨rfl, hk⟩]
  · rw [if_neg hk, if_neg (fun z => hk z.2)]
theorem zv_aast_ok (hx : p.tables.exec = Jvm.exec) (hb : c.code = cc) (hK : va_K D vwCl (zv_tys g) s) {h : zv_H} (hR : zv_RH D g ba ak h H) (hS : va_S (zv_Ac ba) s.heap H locs) (hsc : s.heap.size + cells = ba + zv_n h + 1) {r : Nat} {j : Int} {v : Nat} (hj : zv_rg j) (ho : (r ≤ zv_n h ∧ (zv_lay r).1 = 6 ∧ 0 ≤ j ∧ j < (zv_lay r).2) ∧ (v = 0 ∨ v ≤ zv_n h ∧ zv_lay v = (1, 5))) (hdg : decode cc pc = .ok (.aastore, 1))
    (kk : ∀ H1 locs1, zv_RH D g ba ak (zv_sR h r j.toNat v) H1 → va_S (zv_Ac ba) s.heap H1 locs1 → W p l e R s m args below meth c H1 locs1 cells slots Q (F0 m (pc + 1) lsR rest)) : W p l e R s m args below meth c H locs cells slots Q (F0 m pc lsR (va_rf (zv_ad ba ak v) :: .int (Int32.ofInt j) :: va_rf (zv_ad ba ak r) :: rest)) := by
  obtain ⟨⟨h1, h2, h3, h4⟩, hv⟩ := ho
  have hp := zv_lay_pos' (r := r) (by omega)
  rw [zv_ad_in hp h1 hR.2.2.2]
  have key : ∀ o, zv_ad ba ak v = o → zv_el g ba ak (zv_sR h r j.toNat v) r = .inl (g 6, (zv_lay r).2, .inr (.inr (.inr (.inr (va_up (fun k => zv_ad ba ak (zv_R h r k)) j.toNat o))))) := by
    intro o e
    rw [zv_el_6 h2]
    congr 5
    congr 2
    funext k
    unfold va_up
    rw [zv_R_sR]
    by_cases hk : k = j.toNat
    · rw [if_pos hk, if_pos ⟨rfl, hk⟩, e]
    · rw [if_neg hk, if_neg (fun z => hk z.2)]
  rcases hv with hv | ⟨hv1, hv2⟩
  · have e0 : zv_ad ba ak v = none := by
      unfold zv_ad
      rw [if_pos hv]
    rw [e0]
    refine va_astqN hx hb hK hR.2.1 (zv_ws_D g ba ak h) (zv_Srf hS) (r - 1) 4 (C := "BranchedText$State") (by rw [zv_ws_at hp h1, zv_el_6 h2]) rfl (zv_in hj h3 h4) hdg ?_
    rw [zv_clamp hj h3]
    exact zv_ast_back (h' := zv_sR h r j.toNat v) hR hS hsc hp rfl hR.2.2.1 (key none e0) (fun q hq => zv_el_sR hq) kk
  · have hq := zv_lay_pos hv2
    have e0 : zv_ad ba ak v = some (ba + v) := by
      unfold zv_ad
      have := hR.2.2.2
      rw [if_neg (by omega), if_pos (by omega)]
    rw [e0]
    refine va_astq hx hb hK hR.2.1 (zv_ws_D g ba ak h) (zv_Srf hS) (r - 1) 4 (v - 1) 5 (r := (RX5, TX5, 18)) (by rw [zv_ws_at hp h1, zv_el_6 h2]) rfl (by rw [zv_ws_at hq hv1, zv_el_obj hv2]) rfl (zv_in hj h3 h4) hdg ?_
    rw [zv_clamp hj h3]
    exact zv_ast_back (h' := zv_sR h r j.toNat v) hR hS hsc hp rfl hR.2.2.1 (key _ e0) (fun q hq => zv_el_sR hq) kk
end ZARR
