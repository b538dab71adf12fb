/-! Calls by depth: the JDK's own six members, and the program's methods (zv_prog stands in 07). -/
def zv_txt : List (List Int) := [[115, 116, 97, 114, 116], [106, 111, 105, 110], [110, 111, 116], [103, 97, 112], [115, 105, 122, 101], [107, 105, 110, 100], [115, 97, 109, 101], [110, 101, 97, 114], [108, 111, 110, 103], [97, 110, 100], [111, 114], [112, 117, 116], [99, 117, 116], [119, 97, 105, 116], [117, 110, 100, 111], [114, 101, 100, 111], [103, 111], [110, 97, 109, 101], [119, 105, 116, 104, 100, 114, 97, 119], [114, 101, 115, 116, 111, 114, 101], [99, 97, 114, 114, 121], [109, 101, 114, 103, 101], [112, 114, 117, 110, 101], [60, 61, 62, 91, 93, 59]]
def zv_ixf (c : Int) : List Int → Int → Int
  | [], _ => -1
  | b :: l, k => if b = c then k else zv_ixf c l (k + 1)
def zv_jd (id : Nat) (as : List zv_V) (h : zv_H) : zv_O := match id, as with
  | 903, [Sum.inr (Sum.inr s)] => if 1000000 ≤ s ∧ s < 1000024 then some (some (zv_i ((zv_txt.getD (s - 1000000) []).length : Int)), h) else none
  | 904, [Sum.inr (Sum.inr s), Sum.inl k] => if (1000000 ≤ s ∧ s < 1000024) ∧ 0 ≤ k ∧ k < ((zv_txt.getD (s - 1000000) []).length : Int) then some (some (zv_i ((zv_txt.getD (s - 1000000) []).getD k.toNat 0)), h) else none
  | 905, [Sum.inr (Sum.inr s), Sum.inl c] => if 1000000 ≤ s ∧ s < 1000024 then some (some (zv_i (zv_ixf c (zv_txt.getD (s - 1000000) []) 0)), h) else none
  | _, _ => none
def zv_en : List zv_V → Nat → zv_Ls
  | [], n => List.replicate n none
  | Sum.inr (Sum.inl x) :: t, n + 2 => some (zv_j x) :: none :: zv_en t n
  | Sum.inr (Sum.inl _) :: _, _ => []
  | Sum.inl x :: t, n + 1 => some (zv_i x) :: zv_en t n
  | Sum.inr (Sum.inr x) :: t, n + 1 => some (zv_r x) :: zv_en t n
  | _ :: _, 0 => []
/-- the receiver is an object of that class -/
def zv_ob (h : zv_H) (r ci : Nat) : Prop := r ≤ zv_n h ∧ zv_lay r = (1, ci)
def zv_rc (h : zv_H) (as : List zv_V) (o : Option Nat) : Prop := match o, as with
  | none, _ => True
  | some ci, Sum.inr (Sum.inr r) :: _ => zv_ob h r ci
  | some _, _ => False
noncomputable def zv_sem (pg : Nat → Option (Option Nat × zv_M)) (c : zv_C) (id : Nat) (as : List zv_V) (h : zv_H) : zv_O :=
  if 900 ≤ id then zv_jd id as h else
  match pg id with
  | none => none
  | some m => @ite _ (zv_rc h as m.1 ∧ zv_wd as ≤ m.2.1.2.2.2.1) (Classical.propDecidable _) (zv_lim c m.2 0 (zv_en as m.2.1.2.2.2.1) [] h) none
def zv_pjV (o : zv_O) : Option zv_H := match o with
  | some (none, h) => some h
  | _ => none
def zv_pjI (o : zv_O) : Option (Int × zv_H) := match o with
  | some (some (Sum.inl x), h) => some (x, h)
  | _ => none
def zv_pjJ (o : zv_O) : Option (Int64 × zv_H) := match o with
  | some (some (Sum.inr (Sum.inl x)), h) => some (x, h)
  | _ => none
def zv_pjR (o : zv_O) : Option (Nat × zv_H) := match o with
  | some (some (Sum.inr (Sum.inr x)), h) => some (x, h)
  | _ => none
noncomputable def zv_cs (pg : Nat → Option (Option Nat × zv_M)) : Nat → zv_C
  | 0 => (fun _ _ _ => none, (fun _ _ _ => none, (fun _ _ _ => none, fun _ _ _ => none)))
  | d + 1 => (fun id as h => zv_pjV (zv_sem pg (zv_cs pg d) id as h), (fun id as h => zv_pjI (zv_sem pg (zv_cs pg d) id as h), (fun id as h => zv_pjJ (zv_sem pg (zv_cs pg d) id as h), fun id as h => zv_pjR (zv_sem pg (zv_cs pg d) id as h))))
theorem zv_sem_of {pg : Nat → Option (Option Nat × zv_M)} {c : zv_C} {id : Nat} {as : List zv_V} {h : zv_H} {m : Option Nat × zv_M} {o : zv_O} (hid : Nat.blt id 900 = true) (hm : pg id = some m) (hr : zv_rc h as m.1) (hw : Nat.ble (zv_wd as) m.2.1.2.2.2.1 = true) (e : zv_lim c m.2 0 (zv_en as m.2.1.2.2.2.1) [] h = o) : zv_sem pg c id as h = o := by
  have h1 : ¬ 900 ≤ id := by
    have := Nat.blt_eq.mp hid
    omega
  have h2 : zv_wd as ≤ m.2.1.2.2.2.1 := Nat.ble_eq.mp hw
  unfold zv_sem
  rw [if_neg h1, hm]
  dsimp only
  rw [if_pos ⟨hr, h2⟩]
  exact e
