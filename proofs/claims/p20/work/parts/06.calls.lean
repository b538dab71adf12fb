/-! Calls by depth: the JDK's own six members, and the program's methods (zv_prog stands in 07). -/
def zv_jd (id : Nat) (as : List zv_V) (h : zv_H) : zv_O := match id, as with
  | 906, [Sum.inl x, Sum.inl y] => if 0 ≤ x ∧ x < y then some (none, h) else none
  | _, _ => none
def zv_en : List zv_V → Nat → zv_Ls
  | [], n => List.replicate n none
  | Sum.inr (Sum.inl x) :: t, n + 2 => some (zv_j x) :: none :: zv_en t n
  | Sum.inr (Sum.inl _) :: _, _ => []
  | Sum.inl x :: t, n + 1 => some (zv_i x) :: zv_en t n
  | Sum.inr (Sum.inr x) :: t, n + 1 => some (zv_r x) :: zv_en t n
  | _ :: _, 0 => []
/-- the receiver is an object of that class -/
def zv_ob (h : zv_H) (r ci : Nat) : Prop := r ≤ zv_n h ∧ zv_lay r = (1, ci)
def zv_rc (h : zv_H) (as : List zv_V) (o : Option Nat) : Prop := match o, as with
  | none, _ => True
  | some ci, Sum.inr (Sum.inr r) :: _ => if ci = 10 then 1000000 ≤ r ∧ r < 1000024 else zv_ob h r ci
  | some _, _ => False
noncomputable def zv_sem (pg : Nat → Option (Option Nat × zv_M)) (c : zv_C) (id : Nat) (as : List zv_V) (h : zv_H) : zv_O :=
  if 900 ≤ id then zv_jd id as h else
  match pg id with
  | none => none
  | some m => @ite _ (zv_rc h as m.1 ∧ zv_wd as ≤ m.2.1.2.2.2.1) (Classical.propDecidable _) (zv_lim c m.2 0 (zv_en as m.2.1.2.2.2.1) [] h) none
def zv_pjV (o : zv_O) : Option zv_H := match o with
  | some (none, h) => some h
  | _ => none
def zv_pjI (o : zv_O) : Option (Int × zv_H) := match o with
  | some (some (Sum.inl x), h) => some (x, h)
  | _ => none
def zv_pjJ (o : zv_O) : Option (Int64 × zv_H) := match o with
  | some (some (Sum.inr (Sum.inl x)), h) => some (x, h)
  | _ => none
def zv_pjR (o : zv_O) : Option (Nat × zv_H) := match o with
  | some (some (Sum.inr (Sum.inr x)), h) => some (x, h)
  | _ => none
noncomputable def zv_cs (pg : Nat → Option (Option Nat × zv_M)) : Nat → zv_C
  | 0 => (fun _ _ _ => none, (fun _ _ _ => none, (fun _ _ _ => none, fun _ _ _ => none)))
  | d + 1 => (fun id as h => zv_pjV (zv_sem pg (zv_cs pg d) id as h), (fun id as h => zv_pjI (zv_sem pg (zv_cs pg d) id as h), (fun id as h => zv_pjJ (zv_sem pg (zv_cs pg d) id as h), fun id as h => zv_pjR (zv_sem pg (zv_cs pg d) id as h))))
theorem zv_sem_of {pg : Nat → Option (Option Nat × zv_M)} {c : zv_C} {id : Nat} {as : List zv_V} {h : zv_H} {m : Option Nat × zv_M} {o : zv_O} (hid : Nat.blt id 900 = true) (hm : pg id = some m) (hr : zv_rc h as m.1) (hw : Nat.ble (zv_wd as) m.2.1.2.2.2.1 = true) (e : zv_lim c m.2 0 (zv_en as m.2.1.2.2.2.1) [] h = o) : zv_sem pg c id as h = o := by
  have h1 : ¬ 900 ≤ id := by
    have := Nat.blt_eq.mp hid
    omega
  have h2 : zv_wd as ≤ m.2.1.2.2.2.1 := Nat.ble_eq.mp hw
  unfold zv_sem
  rw [if_neg h1, hm]
  dsimp only
  rw [if_pos ⟨hr, h2⟩]
  exact e
