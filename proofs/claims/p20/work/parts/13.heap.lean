/-! the cells -/
def zv_fv (ba : Nat) (ak : Nat → Nat) (h : zv_H) (r ci k : Nat) : Value := match zv_ft ci k with
  | 0 => .int (Int32.ofInt (zv_I h r k))
  | 1 => .int (Int32.ofInt (zv_I h r k))
  | 2 => .long (zv_J h r k)
  | _ => va_rf (zv_ad ba ak (zv_R h r k))
def zv_fs (ba : Nat) (ak : Nat → Nat) (h : zv_H) (r ci : Nat) : List Value := (List.range (zv_nf ci)).map (zv_fv ba ak h r ci)
def zv_el (g : Nat → ClassId) (ba : Nat) (ak : Nat → Nat) (h : zv_H) (r : Nat) : va_E := match (zv_lay r).1 with
  | 1 => .inr ((zv_lay r).2, zv_fs ba ak h r (zv_lay r).2)
  | 2 => .inl (g 2, (zv_lay r).2, .inl fun j => Int32.ofInt (zv_I h r j))
  | 3 => .inl (g 3, (zv_lay r).2, .inl fun j => Int32.ofInt (zv_I h r j))
  | 4 => .inl (g 4, (zv_lay r).2, .inl fun j => Int32.ofInt (zv_I h r j))
  | 5 => .inl (g 5, (zv_lay r).2, .inr (.inl fun j => zv_J h r j))
  | _ => .inl (g 6, (zv_lay r).2, .inr (.inr (.inr (.inr fun j => zv_ad ba ak (zv_R h r j)))))
def zv_ws (g : Nat → ClassId) (ba : Nat) (ak : Nat → Nat) (h : zv_H) : va_W := (List.range (zv_n h)).map fun q => (ba + (q + 1), zv_el g ba ak h (q + 1))
def zv_Ac (ba : Nat) : Nat → Prop := fun q => ba < q
def zv_tys (g : Nat → ClassId) : List (ClassId × FieldType) := [(g 2, .int), (g 3, .boolean), (g 4, .byte), (g 5, .long), (g 6, .object "BranchedText$State")]
def zv_hg (h : zv_H) : Prop := ∀ r k, zv_rg (zv_I h r k)
def zv_RH (D : va_G) (g : Nat → ClassId) (ba : Nat) (ak : Nat → Nat) (h : zv_H) (H : Heap) : Prop := H.size = ba + zv_n h + 1 ∧ va_P D vwCl (zv_ws g ba ak h) H ∧ zv_hg h ∧ zv_n h < 1000000
theorem zv_lay0 : zv_lay 0 = (0, 0) := by decide +kernel
theorem zv_layL_len : zv_layL.length = 373 := by decide +kernel
theorem zv_lay_lt {r : Nat} (h : ¬ (zv_lay r).1 = 0) : r < 373 := by
  rcases Nat.lt_or_ge r 373 with q | q
  · exact q
  · refine absurd ?_ h
    unfold zv_lay
    rw [List.getD_eq_getElem?_getD, List.getElem?_eq_none (by rw [zv_layL_len]; exact q)]
    rfl
theorem zv_lay_pos {r k v : Nat} (h : zv_lay r = (k + 1, v)) : 1 ≤ r := by
  rcases Nat.eq_zero_or_pos r with q | q
  · subst q
    rw [zv_lay0] at h
    cases h
  · exact q
theorem zv_lay_pos' {r : Nat} (h : ¬ (zv_lay r).1 = 0) : 1 ≤ r := by
  rcases Nat.eq_zero_or_pos r with q | q
  · subst q
    rw [zv_lay0] at h
    exact absurd rfl h
  · exact q
theorem zv_ws_at {g : Nat → ClassId} {ba : Nat} {ak : Nat → Nat} {h : zv_H} {r : Nat} (h1 : 1 ≤ r) (h2 : r ≤ zv_n h) : (zv_ws g ba ak h)[r - 1]? = some (ba + r, zv_el g ba ak h r) := by
  unfold zv_ws
  rw [List.getElem?_map, List.getElem?_range (by omega)]
  simp only [Option.map_some]
  rw [show r - 1 + 1 = r by omega]
theorem zv_ws_in {g : Nat → ClassId} {ba : Nat} {ak : Nat → Nat} {h : zv_H} {k : Nat} {q : Nat × va_E} (hk : (zv_ws g ba ak h)[k]? = some q) : k < zv_n h ∧ q = (ba + (k + 1), zv_el g ba ak h (k + 1)) := by
  unfold zv_ws at hk
  rw [List.getElem?_map] at hk
  rcases Nat.lt_or_ge k (zv_n h) with z | z
  · rw [List.getElem?_range z] at hk
    exact ⟨z, (Option.some.inj hk).symm⟩
  · rw [List.getElem?_eq_none (by rw [List.length_range]; exact z)] at hk
    cases hk
theorem zv_ws_D (g : Nat → ClassId) (ba : Nat) (ak : Nat → Nat) (h : zv_H) : va_D (zv_Ac ba) (zv_ws g ba ak h) := by
  refine ⟨fun i j p q hi hj e => ?_, fun k q hk => ?_⟩
  · obtain ⟨-, rfl⟩ := zv_ws_in hi
    obtain ⟨-, rfl⟩ := zv_ws_in hj
    dsimp only at e
    omega
  · obtain ⟨-, rfl⟩ := zv_ws_in hk
    show ba < ba + (k + 1)
    omega
/-- one cell changes -/
theorem zv_ws_set {g : Nat → ClassId} {ba : Nat} {ak : Nat → Nat} {h h' : zv_H} {r : Nat} (h1 : 1 ≤ r) (hn : zv_n h' = zv_n h) (hne : ∀ q, ¬ q = r → zv_el g ba ak h' q = zv_el g ba ak h q) : (zv_ws g ba ak h).set (r - 1) (ba + r, zv_el g ba ak h' r) = zv_ws g ba ak h' := by
  apply List.ext_getElem?
  intro k
  by_cases hk : k = r - 1
  · subst hk
    by_cases hl : r - 1 < zv_n h
    · rw [List.getElem?_set_self (by unfold zv_ws; simp; exact hl), zv_ws_at h1 (by omega)]
    · rw [List.getElem?_eq_none (by unfold zv_ws; simp; omega), List.getElem?_eq_none (by unfold zv_ws; simp; omega)]
  · rw [List.getElem?_set_ne (Ne.symm hk)]
    unfold zv_ws
    rw [List.getElem?_map, List.getElem?_map, hn]
    rcases Nat.lt_or_ge k (zv_n h) with z | z
    · rw [List.getElem?_range z]
      simp only [Option.map_some]
      rw [hne (k + 1) (by omega)]
    · rw [List.getElem?_eq_none (by rw [List.length_range]; exact z)]
      rfl
theorem zv_ws_push {g : Nat → ClassId} {ba : Nat} {ak : Nat → Nat} {h h' : zv_H} (hn : zv_n h' = zv_n h + 1) (hne : ∀ q, q ≤ zv_n h → zv_el g ba ak h' q = zv_el g ba ak h q) : zv_ws g ba ak h' = zv_ws g ba ak h ++ [(ba + (zv_n h + 1), zv_el g ba ak h' (zv_n h + 1))] := by
  unfold zv_ws
  rw [hn, List.range_succ, List.map_append]
  congr 1
  apply List.map_congr_left
  intro q hq
  rw [hne (q + 1) (by have := List.mem_range.mp hq; omega)]
theorem zv_el_obj {g : Nat → ClassId} {ba : Nat} {ak : Nat → Nat} {h : zv_H} {r ci : Nat} (hl : zv_lay r = (1, ci)) : zv_el g ba ak h r = .inr (ci, zv_fs ba ak h r ci) := by
  unfold zv_el
  rw [hl]; try rfl
theorem zv_fs_at {ba : Nat} {ak : Nat → Nat} {h : zv_H} {r ci k : Nat} (hk : k < zv_nf ci) : (zv_fs ba ak h r ci)[k]? = some (zv_fv ba ak h r ci k) := by
  unfold zv_fs
  rw [List.getElem?_map, List.getElem?_range hk]
  rfl
theorem zv_fs_len (ba : Nat) (ak : Nat → Nat) (h : zv_H) (r ci : Nat) : (zv_fs ba ak h r ci).length = zv_nf ci := by
  unfold zv_fs
  simp
theorem zv_fs_set {ba : Nat} {ak : Nat → Nat} {h h' : zv_H} {r ci k : Nat} {v : Value} (hv : zv_fv ba ak h' r ci k = v) (hne : ∀ j, ¬ j = k → zv_fv ba ak h' r ci j = zv_fv ba ak h r ci j) : (zv_fs ba ak h r ci).set k v = zv_fs ba ak h' r ci := by
  apply List.ext_getElem?
  intro j
  by_cases hj : j = k
  · subst hj
    by_cases hl : j < zv_nf ci
    · rw [List.getElem?_set_self (by rw [zv_fs_len]; exact hl), zv_fs_at hl, hv]
    · rw [List.getElem?_eq_none (by simp [zv_fs_len]; omega), List.getElem?_eq_none (by rw [zv_fs_len]; omega)]
  · rw [List.getElem?_set_ne (Ne.symm hj)]
    by_cases hl : j < zv_nf ci
    · rw [zv_fs_at hl, zv_fs_at hl, hne j hj]
    · rw [List.getElem?_eq_none (by rw [zv_fs_len]; omega), List.getElem?_eq_none (by rw [zv_fs_len]; omega)]
theorem zv_el_congr {g : Nat → ClassId} {ba : Nat} {ak : Nat → Nat} {h h' : zv_H} {r : Nat} (hI : ∀ k, zv_I h' r k = zv_I h r k) (hJ : ∀ k, zv_J h' r k = zv_J h r k) (hR : ∀ k, zv_R h' r k = zv_R h r k) : zv_el g ba ak h' r = zv_el g ba ak h r := by
  unfold zv_el zv_fs zv_fv
  simp only [hI, hJ, hR]
section UPD
variable (h : zv_H) (r k : Nat)
theorem zv_n_sI (v : Int) : zv_n (zv_sI h r k v) = zv_n h := rfl
theorem zv_n_sJ (v : Int64) : zv_n (zv_sJ h r k v) = zv_n h := rfl
theorem zv_n_sR (v : Nat) : zv_n (zv_sR h r k v) = zv_n h := rfl
theorem zv_s_sI (v : Int) : zv_s (zv_sI h r k v) = zv_s h := rfl
theorem zv_s_sJ (v : Int64) : zv_s (zv_sJ h r k v) = zv_s h := rfl
theorem zv_s_sR (v : Nat) : zv_s (zv_sR h r k v) = zv_s h := rfl
theorem zv_I_sI (v : Int) (a b : Nat) : zv_I (zv_sI h r k v) a b = if a = r ∧ b = k then v else zv_I h a b := rfl
theorem zv_I_sJ (v : Int64) (a b : Nat) : zv_I (zv_sJ h r k v) a b = zv_I h a b := rfl
theorem zv_I_sR (v : Nat) (a b : Nat) : zv_I (zv_sR h r k v) a b = zv_I h a b := rfl
theorem zv_J_sI (v : Int) (a b : Nat) : zv_J (zv_sI h r k v) a b = zv_J h a b := rfl
theorem zv_J_sJ (v : Int64) (a b : Nat) : zv_J (zv_sJ h r k v) a b = if a = r ∧ b = k then v else zv_J h a b := rfl
theorem zv_J_sR (v : Nat) (a b : Nat) : zv_J (zv_sR h r k v) a b = zv_J h a b := rfl
theorem zv_R_sI (v : Int) (a b : Nat) : zv_R (zv_sI h r k v) a b = zv_R h a b := rfl
theorem zv_R_sJ (v : Int64) (a b : Nat) : zv_R (zv_sJ h r k v) a b = zv_R h a b := rfl
theorem zv_R_sR (v : Nat) (a b : Nat) : zv_R (zv_sR h r k v) a b = if a = r ∧ b = k then v else zv_R h a b := rfl
end UPD
theorem zv_el_sI {g : Nat → ClassId} {ba : Nat} {ak : Nat → Nat} {h : zv_H} {r k q : Nat} {v : Int} (hq : ¬ q = r) : zv_el g ba ak (zv_sI h r k v) q = zv_el g ba ak h q :=
  zv_el_congr (fun j => by rw [zv_I_sI, if_neg (fun z => hq z.1)]) (fun _ => rfl) (fun _ => rfl)
theorem zv_el_sJ {g : Nat → ClassId} {ba : Nat} {ak : Nat → Nat} {h : zv_H} {r k q : Nat} {v : Int64} (hq : ¬ q = r) : zv_el g ba ak (zv_sJ h r k v) q = zv_el g ba ak h q :=
  zv_el_congr (fun _ => rfl) (fun j => by rw [zv_J_sJ, if_neg (fun z => hq z.1)]) (fun _ => rfl)
theorem zv_el_sR {g : Nat → ClassId} {ba : Nat} {ak : Nat → Nat} {h : zv_H} {r k q : Nat} {v : Nat} (hq : ¬ q = r) : zv_el g ba ak (zv_sR h r k v) q = zv_el g ba ak h q :=
  zv_el_congr (fun _ => rfl) (fun _ => rfl) (fun j => by rw [zv_R_sR, if_neg (fun z => hq z.1)])
theorem zv_hg_sI {h : zv_H} {r k : Nat} {v : Int} (hh : zv_hg h) (hv : zv_rg v) : zv_hg (zv_sI h r k v) := by
  intro a b
  rw [zv_I_sI]
  split
  · exact hv
  · exact hh a b
