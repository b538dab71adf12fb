/-! The small machine's heap and its instructions. zv_lay (the cells in the order in which they are made) and zv_fts (the fields' kinds) stand in 02. -/
def zv_lk {α : Type} : List (Nat × α) → Nat → Option α
  | [], _ => none
  | a :: l, n => bif Nat.beq a.1 n then some a.2 else zv_lk l n
def zv_ft (ci k : Nat) : Nat := (zv_fts.getD ci []).getD k 9
def zv_nf (ci : Nat) : Nat := (zv_fts.getD ci []).length
def zv_gI (h : zv_H) (r ci k : Nat) : Option Int := if r ≤ zv_n h ∧ zv_lay r = (1, ci) then some (zv_I h r k) else none
def zv_gJ (h : zv_H) (r ci k : Nat) : Option Int64 := if r ≤ zv_n h ∧ zv_lay r = (1, ci) then some (zv_J h r k) else none
def zv_gR (h : zv_H) (r ci k : Nat) : Option Nat := if r ≤ zv_n h ∧ zv_lay r = (1, ci) then some (zv_R h r k) else none
def zv_pI (h : zv_H) (r ci k : Nat) (v : Int) : Option zv_H := if r ≤ zv_n h ∧ zv_lay r = (1, ci) then some (zv_sI h r k v) else none
def zv_pZ (h : zv_H) (r ci k : Nat) (v : Int) : Option zv_H := if (r ≤ zv_n h ∧ zv_lay r = (1, ci)) ∧ (v = 0 ∨ v = 1) then some (zv_sI h r k v) else none
def zv_pJ (h : zv_H) (r ci k : Nat) (v : Int64) : Option zv_H := if r ≤ zv_n h ∧ zv_lay r = (1, ci) then some (zv_sJ h r k v) else none
def zv_pR (h : zv_H) (r ci k : Nat) (v : Nat) : Option zv_H := if r ≤ zv_n h ∧ zv_lay r = (1, ci) then some (zv_sR h r k v) else none
def zv_aI (h : zv_H) (r : Nat) (j : Int) : Option Int :=
  if r = 2000000 then (if 0 ≤ j ∧ j < zv_L h then some (zv_X h j.toNat) else none)
  else if r ≤ zv_n h ∧ (zv_lay r).1 = 2 ∧ 0 ≤ j ∧ j < (zv_lay r).2 then some (zv_I h r j.toNat) else none
def zv_aB (h : zv_H) (r : Nat) (j : Int) : Option Int := if 1000100 ≤ r ∧ r < 1000124 then (if 0 ≤ j ∧ j < ((zv_txt.getD (r - 1000100) []).length : Int) then some ((zv_txt.getD (r - 1000100) []).getD j.toNat 0) else none) else if r ≤ zv_n h ∧ ((zv_lay r).1 = 3 ∨ (zv_lay r).1 = 4) ∧ 0 ≤ j ∧ j < (zv_lay r).2 then some (zv_I h r j.toNat) else none
def zv_aJ (h : zv_H) (r : Nat) (j : Int) : Option Int64 := if r ≤ zv_n h ∧ (zv_lay r).1 = 5 ∧ 0 ≤ j ∧ j < (zv_lay r).2 then some (zv_J h r j.toNat) else none
def zv_aR (h : zv_H) (r : Nat) (j : Int) : Option Nat := if r ≤ zv_n h ∧ (zv_lay r).1 = 6 ∧ 0 ≤ j ∧ j < (zv_lay r).2 then some (zv_R h r j.toNat) else none
def zv_wI (h : zv_H) (r : Nat) (j v : Int) : Option zv_H := if r ≤ zv_n h ∧ (zv_lay r).1 = 2 ∧ 0 ≤ j ∧ j < (zv_lay r).2 then some (zv_sI h r j.toNat v) else none
def zv_wB (h : zv_H) (r : Nat) (j v : Int) : Option zv_H := if r ≤ zv_n h ∧ ((zv_lay r).1 = 3 ∨ (zv_lay r).1 = 4) ∧ 0 ≤ j ∧ j < (zv_lay r).2 then some (zv_sI h r j.toNat (if (zv_lay r).1 = 3 then zv_nz v else zv_i2b v)) else none
def zv_wJ (h : zv_H) (r : Nat) (j : Int) (v : Int64) : Option zv_H := if r ≤ zv_n h ∧ (zv_lay r).1 = 5 ∧ 0 ≤ j ∧ j < (zv_lay r).2 then some (zv_sJ h r j.toNat v) else none
def zv_wR (h : zv_H) (r : Nat) (j : Int) (v : Nat) : Option zv_H := if (r ≤ zv_n h ∧ (zv_lay r).1 = 6 ∧ 0 ≤ j ∧ j < (zv_lay r).2) ∧ (v = 0 ∨ v ≤ zv_n h ∧ zv_lay v = (1, 5)) then some (zv_sR h r j.toNat v) else none
def zv_tC (r : Nat) : Option Int := if 1000000 ≤ r ∧ r < 1000024 then some 0 else none
def zv_tV (r : Nat) : Option Nat := if 1000000 ≤ r ∧ r < 1000024 then some (r + 100) else none
def zv_al (h : zv_H) (r : Nat) : Option Int := if r = 2000000 then some (zv_L h) else if 1000100 ≤ r ∧ r < 1000124 then some ((zv_txt.getD (r - 1000100) []).length : Int) else if r ≤ zv_n h ∧ 2 ≤ (zv_lay r).1 then some (zv_lay r).2 else none
def zv_nO (h : zv_H) (ci : Nat) : Option zv_H := if zv_lay (zv_n h + 1) = (1, ci) then some (zv_mk h (zv_nf ci)) else none
def zv_nA (h : zv_H) (kd : Nat) (x : Int) : Option zv_H := if (0 ≤ x ∧ x ≤ 60000) ∧ zv_lay (zv_n h + 1) = (kd, x.toNat) then some (zv_mk h x.toNat) else none
def zv_cy (h : zv_H) (s : Nat) (sp : Int) (d : Nat) (dp n : Int) : Option zv_H :=
  if (s ≤ zv_n h ∧ d ≤ zv_n h ∧ (zv_lay s).1 = 2 ∧ (zv_lay d).1 = 2) ∧ (0 ≤ sp ∧ 0 ≤ dp ∧ 0 ≤ n) ∧ sp + n ≤ (zv_lay s).2 ∧ dp + n ≤ (zv_lay d).2 ∧ ¬ s = d then some (zv_cp h s sp.toNat d dp.toNat n.toNat) else none
/-! a class's pool: fields (class, place, nest mate), methods (number, kind, parameters, what it answers), ints, longs, texts, classes -/
abbrev zv_P : Type := List (Nat × (Nat × (Nat × Bool))) × (List (Nat × (Nat × (Nat × (Nat × Nat)))) × (List (Nat × Int) × (List (Nat × Int64) × (List (Nat × Nat) × List (Nat × Nat)))))
/-- a method: its class, its name, its bytes, its locals, what it answers, its instructions, its heads (with what of the locals counts there), its class's pool -/
abbrev zv_M : Type := (String × (MethodName × (ByteArray × (Nat × Option FieldType)))) × (List (Nat × Instr) × (List (Nat × List Bool) × zv_P))
abbrev zv_O : Type := Option (Option zv_V × zv_H)
abbrev zv_G : Type := Nat → zv_Ls → List zv_V → zv_H → zv_O
/-- the four kinds of calls: of void, int, long, reference -/
abbrev zv_C : Type := (Nat → List zv_V → zv_H → Option zv_H) × ((Nat → List zv_V → zv_H → Option (Int × zv_H)) × ((Nat → List zv_V → zv_H → Option (Int64 × zv_H)) × (Nat → List zv_V → zv_H → Option (Nat × zv_H))))
def zv_wd : List zv_V → Nat
  | [] => 0
  | Sum.inr (Sum.inl _) :: t => zv_wd t + 2
  | _ :: t => zv_wd t + 1
def zv_tk : Nat → List zv_V → List zv_V → Option (List zv_V × List zv_V)
  | 0, acc, st => some (acc, st)
  | n + 1, acc, v :: st => zv_tk n (v :: acc) st
  | _ + 1, _, [] => none
def zv_jp (go : zv_G) (pc : Nat) (off : Int) (ls : zv_Ls) (st : List zv_V) (h : zv_H) : zv_O := if (pc : Int) + off < 0 then none else go ((pc : Int) + off).toNat ls st h
def zv_tsw (go : zv_G) (pc : Nat) (x dflt : Int) (ls : zv_Ls) (st : List zv_V) (h : zv_H) : Int → List Int → zv_O
  | _, [] => zv_jp go pc dflt ls st h
  | lo, o :: t => if x = lo then zv_jp go pc o ls st h else zv_tsw go pc x dflt ls st h (lo + 1) t
def zv_lsw (go : zv_G) (pc : Nat) (x dflt : Int) (ls : zv_Ls) (st : List zv_V) (h : zv_H) : List (Int × Int) → zv_O
  | [] => zv_jp go pc dflt ls st h
  | o :: t => if x = o.1 then zv_jp go pc o.2 ls st h else zv_lsw go pc x dflt ls st h t
def zv_call (c : zv_C) (go : zv_G) (pc : Nat) (ls : zv_Ls) (st : List zv_V) (h : zv_H) (e : Nat × (Nat × (Nat × Nat))) : zv_O :=
  match zv_tk e.2.2.1 [] st with
  | none => none
  | some (as, rest) =>
    if 8 < zv_wd rest then none else
    match e.2.2.2 with
    | 0 => (c.1 e.1 as h).bind fun h' => go (pc + 3) ls rest h'
    | 1 => (c.2.1 e.1 as h).bind fun q => go (pc + 3) ls (zv_i q.1 :: rest) q.2
    | 2 => (c.2.2.1 e.1 as h).bind fun q => go (pc + 3) ls (zv_j q.1 :: rest) q.2
    | _ => (c.2.2.2 e.1 as h).bind fun q => go (pc + 3) ls (zv_r q.1 :: rest) q.2
def zv_gf (go : zv_G) (pc : Nat) (ls : zv_Ls) (st : List zv_V) (h : zv_H) (r : Nat) (o : Option (Nat × (Nat × Bool))) : zv_O := match o with
  | none => none
  | some f => match zv_ft f.1 f.2.1 with
    | 0 => (zv_gI h r f.1 f.2.1).bind fun v => go (pc + 3) ls (zv_i v :: st) h
    | 1 => (zv_gI h r f.1 f.2.1).bind fun v => go (pc + 3) ls (zv_i v :: st) h
    | 2 => (zv_gJ h r f.1 f.2.1).bind fun v => go (pc + 3) ls (zv_j v :: st) h
    | 3 => (zv_gR h r f.1 f.2.1).bind fun v => go (pc + 3) ls (zv_r v :: st) h
    | 4 => (zv_tC r).bind fun v => go (pc + 3) ls (zv_i v :: st) h
    | 5 => (zv_tV r).bind fun v => go (pc + 3) ls (zv_r v :: st) h
    | _ => none
def zv_pf (go : zv_G) (pc : Nat) (ls : zv_Ls) (st : List zv_V) (h : zv_H) (r : Nat) (w : zv_V) (o : Option (Nat × (Nat × Bool))) : zv_O := match o with
  | none => none
  | some f => match w, zv_ft f.1 f.2.1 with
    | Sum.inl v, 0 => (zv_pI h r f.1 f.2.1 v).bind fun h' => go (pc + 3) ls st h'
    | Sum.inl v, 1 => (zv_pZ h r f.1 f.2.1 v).bind fun h' => go (pc + 3) ls st h'
    | Sum.inr (Sum.inl v), 2 => (zv_pJ h r f.1 f.2.1 v).bind fun h' => go (pc + 3) ls st h'
    | Sum.inr (Sum.inr v), 3 => (zv_pR h r f.1 f.2.1 v).bind fun h' => go (pc + 3) ls st h'
    | _, _ => none
def zv_gs (go : zv_G) (pc : Nat) (ls : zv_Ls) (st : List zv_V) (h : zv_H) (o : Option Int) : zv_O := match o with
  | some v => go (pc + 3) ls (zv_i v :: st) h
  | none => none
def zv_nw (go : zv_G) (pc : Nat) (ls : zv_Ls) (st : List zv_V) (h : zv_H) (o : Option Nat) : zv_O := match o with
  | none => none
  | some ci => (zv_nO h ci).bind fun h' => go (pc + 3) ls (zv_r (zv_n h + 1) :: st) h'
def zv_an (go : zv_G) (pc : Nat) (ls : zv_Ls) (st : List zv_V) (h : zv_H) (x : Int) (o : Option Nat) : zv_O := match o with
  | none => none
  | some ci => if ci = 5 then (zv_nA h 6 x).bind fun h' => go (pc + 3) ls (zv_r (zv_n h + 1) :: st) h' else none
def zv_ls (go : zv_G) (pc : Nat) (ls : zv_Ls) (st : List zv_V) (h : zv_H) (o : Option Nat) : zv_O := match o with
  | some k => go (pc + 2) ls (zv_r (1000000 + k) :: st) h
  | none => none
def zv_li (go : zv_G) (pc : Nat) (ls : zv_Ls) (st : List zv_V) (h : zv_H) (o : Option Nat) : zv_O := match o with
  | some k => go (pc + 3) ls (zv_r (1000000 + k) :: st) h
  | none => none
def zv_ll (go : zv_G) (pc : Nat) (ls : zv_Ls) (st : List zv_V) (h : zv_H) (o : Option Int64) : zv_O := match o with
  | some v => go (pc + 3) ls (zv_j v :: st) h
  | none => none
def zv_iv (c : zv_C) (go : zv_G) (pc : Nat) (ls : zv_Ls) (st : List zv_V) (h : zv_H) (o : Option (Nat × (Nat × (Nat × Nat)))) : zv_O := match o with
  | some e => if e.2.1 = 0 ∨ e.2.1 = 10 then zv_call c go pc ls st h e else none
  | none => none
def zv_cyS (go : zv_G) (pc : Nat) (ls : zv_Ls) (st : List zv_V) (h : zv_H) : zv_O := match st with
  | Sum.inl n :: Sum.inl dp :: Sum.inr (Sum.inr d) :: Sum.inl sp :: Sum.inr (Sum.inr s) :: st => if 8 < zv_wd st then none else (zv_cy h s sp d dp n).bind fun h' => go (pc + 3) ls st h'
  | _ => none
def zv_mx (go : zv_G) (pc : Nat) (ls : zv_Ls) (st : List zv_V) (h : zv_H) (b : Bool) : zv_O := match st with
  | Sum.inl y :: Sum.inl x :: st => if 8 < zv_wd st then none else go (pc + 3) ls (zv_i (bif b then max x y else min x y) :: st) h
  | _ => none
def zv_is (c : zv_C) (go : zv_G) (pc : Nat) (ls : zv_Ls) (st : List zv_V) (h : zv_H) (o : Option (Nat × (Nat × (Nat × Nat)))) : zv_O := match o with
  | some e => if e.2.1 = 2 ∨ e.2.1 = 12 then zv_call c go pc ls st h e else if e.2.1 = 21 then zv_cyS go pc ls st h else if e.2.1 = 22 then zv_mx go pc ls st h true else if e.2.1 = 23 then zv_mx go pc ls st h false else none
  | none => none
def zv_oi (go : zv_G) (pc : Nat) (ls : zv_Ls) (st : List zv_V) (h : zv_H) : zv_O := match st with
  | Sum.inr (Sum.inr r) :: st => if 8 < zv_wd st then none else if r = 0 then none else go (pc + 3) ls st h
  | _ => none
def zv_ip (c : zv_C) (go : zv_G) (pc : Nat) (ls : zv_Ls) (st : List zv_V) (h : zv_H) (o : Option (Nat × (Nat × (Nat × Nat)))) : zv_O := match o with
  | some e => if e.2.1 = 1 ∨ e.2.1 = 11 then zv_call c go pc ls st h e else if e.2.1 = 20 then zv_oi go pc ls st h else none
  | none => none
def zv_rt (h : zv_H) (w : Option zv_V) (t : Option FieldType) : zv_O := match w, t with
  | some (Sum.inl x), some .int => some (some (zv_i x), h)
  | some (Sum.inl x), some .boolean => if x = 0 ∨ x = 1 then some (some (zv_i x), h) else none
  | some (Sum.inl x), some .char => if 0 ≤ x ∧ x ≤ 65535 then some (some (zv_i x), h) else none
  | some (Sum.inl x), some .byte => if -128 ≤ x ∧ x ≤ 127 then some (some (zv_i x), h) else none
  | some (Sum.inr (Sum.inl x)), some .long => some (some (zv_j x), h)
  | some (Sum.inr (Sum.inr x)), some (.object _) => some (some (zv_r x), h)
  | none, none => some (none, h)
  | _, _ => none
def zv_bc (go : zv_G) (pc : Nat) (off : Int) (ls : zv_Ls) (st : List zv_V) (h : zv_H) (P : Prop) [Decidable P] : zv_O := if (pc : Int) + off < 0 then none else if P then go ((pc : Int) + off).toNat ls st h else go (pc + 3) ls st h
def zv_bn (go : zv_G) (pc : Nat) (off : Int) (ls : zv_Ls) (st : List zv_V) (h : zv_H) (P : Prop) [Decidable P] : zv_O := if (pc : Int) + off < 0 then none else if P then go (pc + 3) ls st h else go ((pc : Int) + off).toNat ls st h
/-- the instructions that read or write cells, jump, call, end -/
def zv_hp (c : zv_C) (M : zv_M) (go : zv_G) (pc : Nat) (ls : zv_Ls) (st : List zv_V) (h : zv_H) (i : Instr) : zv_O := match i, st with
  | .goto off, st => zv_jp go pc off ls st h
  | .ifCond .eq off, Sum.inl x :: st => zv_bc go pc off ls st h (x = 0)
  | .ifCond .ne off, Sum.inl x :: st => zv_bn go pc off ls st h (x = 0)
  | .ifCond .lt off, Sum.inl x :: st => zv_bc go pc off ls st h (x < 0)
  | .ifCond .ge off, Sum.inl x :: st => zv_bn go pc off ls st h (x < 0)
  | .ifCond .gt off, Sum.inl x :: st => zv_bn go pc off ls st h (x ≤ 0)
  | .ifCond .le off, Sum.inl x :: st => zv_bc go pc off ls st h (x ≤ 0)
  | .if_icmp .eq off, Sum.inl y :: Sum.inl x :: st => zv_bc go pc off ls st h (x = y)
  | .if_icmp .ne off, Sum.inl y :: Sum.inl x :: st => zv_bn go pc off ls st h (x = y)
  | .if_icmp .lt off, Sum.inl y :: Sum.inl x :: st => zv_bc go pc off ls st h (x < y)
  | .if_icmp .ge off, Sum.inl y :: Sum.inl x :: st => zv_bn go pc off ls st h (x < y)
  | .if_icmp .gt off, Sum.inl y :: Sum.inl x :: st => zv_bn go pc off ls st h (x ≤ y)
  | .if_icmp .le off, Sum.inl y :: Sum.inl x :: st => zv_bc go pc off ls st h (x ≤ y)
  | .if_acmp .eq off, Sum.inr (Sum.inr y) :: Sum.inr (Sum.inr x) :: st => if 1000000 ≤ x ∨ 1000000 ≤ y then none else zv_bc go pc off ls st h (x = y)
  | .if_acmp .ne off, Sum.inr (Sum.inr y) :: Sum.inr (Sum.inr x) :: st => if 1000000 ≤ x ∨ 1000000 ≤ y then none else zv_bn go pc off ls st h (x = y)
  | .ifnull off, Sum.inr (Sum.inr x) :: st => zv_bc go pc off ls st h (x = 0)
  | .ifnonnull off, Sum.inr (Sum.inr x) :: st => zv_bn go pc off ls st h (x = 0)
  | .tableswitch dflt lo hi offs, Sum.inl x :: st => if hi + 1 = lo + (offs.toList.length : Int) then zv_tsw go pc x dflt ls st h lo offs.toList else none
  | .lookupswitch dflt ps, Sum.inl x :: st => if (ps.toList.zip (ps.toList.drop 1)).all (fun q => decide (q.1.1 < q.2.1)) = true then zv_lsw go pc x dflt ls st h ps.toList else none
  | .getfield ix, Sum.inr (Sum.inr r) :: st => zv_gf go pc ls st h r (zv_lk M.2.2.2.1 ix)
  | .getstatic ix, st => zv_gs go pc ls st h (zv_lk M.2.2.2.2.2.1 ix)
  | .putfield ix, v :: Sum.inr (Sum.inr r) :: st => zv_pf go pc ls st h r v (zv_lk M.2.2.2.1 ix)
  | .arraylength, Sum.inr (Sum.inr r) :: st => (zv_al h r).bind fun v => go (pc + 1) ls (zv_i v :: st) h
  | .iaload, Sum.inl j :: Sum.inr (Sum.inr r) :: st => (zv_aI h r j).bind fun v => go (pc + 1) ls (zv_i v :: st) h
  | .baload, Sum.inl j :: Sum.inr (Sum.inr r) :: st => (zv_aB h r j).bind fun v => go (pc + 1) ls (zv_i v :: st) h
  | .laload, Sum.inl j :: Sum.inr (Sum.inr r) :: st => (zv_aJ h r j).bind fun v => go (pc + 1) ls (zv_j v :: st) h
  | .aaload, Sum.inl j :: Sum.inr (Sum.inr r) :: st => (zv_aR h r j).bind fun v => go (pc + 1) ls (zv_r v :: st) h
  | .iastore, Sum.inl v :: Sum.inl j :: Sum.inr (Sum.inr r) :: st => (zv_wI h r j v).bind fun h' => go (pc + 1) ls st h'
  | .bastore, Sum.inl v :: Sum.inl j :: Sum.inr (Sum.inr r) :: st => (zv_wB h r j v).bind fun h' => go (pc + 1) ls st h'
  | .lastore, Sum.inr (Sum.inl v) :: Sum.inl j :: Sum.inr (Sum.inr r) :: st => (zv_wJ h r j v).bind fun h' => go (pc + 1) ls st h'
  | .aastore, Sum.inr (Sum.inr v) :: Sum.inl j :: Sum.inr (Sum.inr r) :: st => (zv_wR h r j v).bind fun h' => go (pc + 1) ls st h'
  | .new ix, st => zv_nw go pc ls st h (zv_lk M.2.2.2.2.2.2.2.2 ix)
  | .newarray .int, Sum.inl x :: st => (zv_nA h 2 x).bind fun h' => go (pc + 2) ls (zv_r (zv_n h + 1) :: st) h'
  | .newarray .boolean, Sum.inl x :: st => (zv_nA h 3 x).bind fun h' => go (pc + 2) ls (zv_r (zv_n h + 1) :: st) h'
  | .newarray .byte, Sum.inl x :: st => (zv_nA h 4 x).bind fun h' => go (pc + 2) ls (zv_r (zv_n h + 1) :: st) h'
  | .newarray .long, Sum.inl x :: st => (zv_nA h 5 x).bind fun h' => go (pc + 2) ls (zv_r (zv_n h + 1) :: st) h'
  | .anewarray ix, Sum.inl x :: st => zv_an go pc ls st h x (zv_lk M.2.2.2.2.2.2.2.2 ix)
  | .ldc ix, st => zv_ls go pc ls st h (zv_lk M.2.2.2.2.2.2.2.1 ix)
  | .ldc_w ix, st => zv_li go pc ls st h (zv_lk M.2.2.2.2.2.2.2.1 ix)
  | .ldc2_w ix, st => zv_ll go pc ls st h (zv_lk M.2.2.2.2.2.2.1 ix)
  | .invokevirtual ix, st => zv_iv c go pc ls st h (zv_lk M.2.2.2.2.1 ix)
  | .invokestatic ix, st => zv_is c go pc ls st h (zv_lk M.2.2.2.2.1 ix)
  | .invokespecial ix, st => zv_ip c go pc ls st h (zv_lk M.2.2.2.2.1 ix)
  | .ireturn, [Sum.inl x] => zv_rt h (some (zv_i x)) M.1.2.2.2.2
  | .lreturn, [Sum.inr (Sum.inl x)] => zv_rt h (some (zv_j x)) M.1.2.2.2.2
  | .areturn, [Sum.inr (Sum.inr x)] => zv_rt h (some (zv_r x)) M.1.2.2.2.2
  | .return_, [] => zv_rt h none M.1.2.2.2.2
  | _, _ => none
def zv_stp (c : zv_C) (M : zv_M) (go : zv_G) (pc : Nat) (ls : zv_Ls) (st : List zv_V) (h : zv_H) : zv_O := match zv_lk M.2.1 pc with
  | none => none
  | some i => match zv_op i ls st with
    | some q => go (pc + zv_len i) q.1 q.2 h
    | none => zv_hp c M go pc ls st h i
def zv_seg (c : zv_C) (M : zv_M) (kt : zv_G) : Nat → zv_G
  | 0, pc, ls, st, h => kt pc ls st h
  | n + 1, pc, ls, st, h => zv_stp c M (fun pc ls st h => match zv_lk M.2.2.1 pc with
    | some b => kt pc (zv_msk b ls) st h
    | none => zv_seg c M kt n pc ls st h) pc ls st h
