/-! A small machine: ints as Int (kept within 32 bits), longs as Int64, references as numbers (0 null, r the r-th cell made since the law began, from 1000000 on: what stood there before). -/
abbrev zv_V : Type := Int ⊕ (Int64 ⊕ Nat)
abbrev zv_i (x : Int) : zv_V := Sum.inl x
abbrev zv_j (x : Int64) : zv_V := Sum.inr (Sum.inl x)
abbrev zv_r (x : Nat) : zv_V := Sum.inr (Sum.inr x)
/-- cells made, slots made; ints, longs, references by cell and place; the script's length and contents -/
abbrev zv_H : Type := (Nat × Nat) × ((Nat → Nat → Int) × ((Nat → Nat → Int64) × ((Nat → Nat → Nat) × (Nat × (Nat → Int)))))
def zv_n (h : zv_H) : Nat := h.1.1
def zv_s (h : zv_H) : Nat := h.1.2
def zv_I (h : zv_H) (r k : Nat) : Int := h.2.1 r k
def zv_J (h : zv_H) (r k : Nat) : Int64 := h.2.2.1 r k
def zv_R (h : zv_H) (r k : Nat) : Nat := h.2.2.2.1 r k
def zv_L (h : zv_H) : Nat := h.2.2.2.2.1
def zv_X (h : zv_H) (k : Nat) : Int := h.2.2.2.2.2 k
def zv_up {α : Type} (f : Nat → Nat → α) (r k : Nat) (v : α) : Nat → Nat → α := fun a b => if a = r ∧ b = k then v else f a b
def zv_cl {α : Type} (f : Nat → Nat → α) (r : Nat) (v : α) : Nat → Nat → α := fun a b => if a = r then v else f a b
def zv_sI (h : zv_H) (r k : Nat) (v : Int) : zv_H := (h.1, (zv_up h.2.1 r k v, h.2.2))
def zv_sJ (h : zv_H) (r k : Nat) (v : Int64) : zv_H := (h.1, (h.2.1, (zv_up h.2.2.1 r k v, h.2.2.2)))
def zv_sR (h : zv_H) (r k : Nat) (v : Nat) : zv_H := (h.1, (h.2.1, (h.2.2.1, (zv_up h.2.2.2.1 r k v, h.2.2.2.2))))
/-- a new cell of so many slots, all 0 -/
def zv_mk (h : zv_H) (w : Nat) : zv_H := ((h.1.1 + 1, h.1.2 + w), (zv_cl h.2.1 (h.1.1 + 1) 0, (zv_cl h.2.2.1 (h.1.1 + 1) 0, (zv_cl h.2.2.2.1 (h.1.1 + 1) 0, h.2.2.2.2))))
def zv_cp (h : zv_H) (s sp d dp n : Nat) : zv_H := (h.1, ((fun a b => if a = d ∧ dp ≤ b ∧ b < dp + n then h.2.1 s (sp + (b - dp)) else h.2.1 a b), h.2.2))
/-- 32 bits -/
def zv_w (x : Int) : Int := (x + 2147483648) % 4294967296 - 2147483648
def zv_rg (x : Int) : Prop := -2147483648 ≤ x ∧ x < 2147483648
def zv_and (x y : Int) : Int := (Int32.ofInt x &&& Int32.ofInt y).toInt
def zv_or (x y : Int) : Int := (Int32.ofInt x ||| Int32.ofInt y).toInt
def zv_shl (x y : Int) : Int := (Int32.ofInt x <<< (Int32.ofInt y &&& 31)).toInt
def zv_shr (x y : Int) : Int := (Int32.ofInt x >>> (Int32.ofInt y &&& 31)).toInt
def zv_ushr (x y : Int) : Int := ((Int32.ofInt x).toUInt32 >>> ((Int32.ofInt y).toUInt32 &&& Int32.toUInt32 31)).toInt32.toInt
def zv_i2b (x : Int) : Int := (Int32.ofInt x).toInt8.toInt32.toInt
def zv_i2c (x : Int) : Int := ((Int32.ofInt x).toUInt32 % 65536).toInt32.toInt
def zv_i2l (x : Int) : Int64 := (Int32.ofInt x).toInt64
def zv_l2i (x : Int64) : Int := x.toInt32.toInt
def zv_lshl (x : Int64) (y : Int) : Int64 := x <<< ((Int32.ofInt y).toInt64 &&& 63)
def zv_lushr (x : Int64) (y : Int) : Int64 := (x.toUInt64 >>> ((Int32.ofInt y).toInt64.toUInt64 &&& Int64.toUInt64 63)).toInt64
def zv_lcmp (x y : Int64) : Int := if x = y then 0 else if y < x then 1 else -1
def zv_nz (x : Int) : Int := x % 2
/-! locals -/
abbrev zv_Ls : Type := List (Option zv_V)
def zv_ld : zv_Ls → Nat → Option zv_V
  | [], _ => none
  | a :: _, 0 => a
  | _ :: l, n + 1 => zv_ld l n
def zv_st : zv_Ls → Nat → Option zv_V → zv_Ls
  | [], _, _ => []
  | _ :: l, 0, v => v :: l
  | a :: l, n + 1, v => a :: zv_st l n v
def zv_two (v : Option zv_V) : Bool := match v with
  | some (Sum.inr (Sum.inl _)) => true
  | _ => false
/-- the first half of a long, of which the second is overwritten, goes -/
def zv_cr (l : zv_Ls) (n : Nat) : zv_Ls := match n with
  | 0 => l
  | k + 1 => if zv_two (zv_ld l k) then zv_st l k none else l
def zv_s1 (l : zv_Ls) (n : Nat) (v : zv_V) : zv_Ls := zv_st (zv_cr l n) n (some v)
def zv_s2 (l : zv_Ls) (n : Nat) (v : Int64) : zv_Ls := zv_st (zv_st (zv_cr l n) n (some (zv_j v))) (n + 1) none
def zv_msk : List Bool → zv_Ls → zv_Ls
  | true :: b, a :: l => a :: zv_msk b l
  | false :: b, _ :: l => none :: zv_msk b l
  | [], l => l
  | _, [] => []
/-! the length of an instruction (not of a switch) -/
def zv_len : Instr → Nat
  | .bipush _ | .iload _ | .lload _ | .aload _ | .istore _ | .lstore _ | .astore _ | .ldc _ | .newarray _ => 2
  | .sipush _ | .iinc _ _ | .ifCond _ _ | .if_icmp _ _ | .if_acmp _ _ | .ifnull _ | .ifnonnull _ | .goto _ | .getfield _ | .getstatic _ | .putfield _ | .invokevirtual _ | .invokespecial _ | .invokestatic _ | .new _ | .anewarray _ | .ldc_w _ | .ldc2_w _ => 3
  | _ => 1
/-! what an instruction does to locals and stack alone -/
def zv_op (i : Instr) (ls : zv_Ls) (st : List zv_V) : Option (zv_Ls × List zv_V) := match i, st with
  | .iconst n, st => if -1 ≤ n ∧ n ≤ 5 then some (ls, zv_i n :: st) else none
  | .bipush n, st => if -128 ≤ n ∧ n ≤ 127 then some (ls, zv_i n :: st) else none
  | .sipush n, st => if -32768 ≤ n ∧ n ≤ 32767 then some (ls, zv_i n :: st) else none
  | .lconst n, st => some (ls, zv_j (Int64.ofNat n.val) :: st)
  | .aconst_null, st => some (ls, zv_r 0 :: st)
  | .iload_n k, st => match zv_ld ls k.val with
    | some (Sum.inl x) => some (ls, zv_i x :: st)
    | _ => none
  | .iload k, st => match zv_ld ls k with
    | some (Sum.inl x) => some (ls, zv_i x :: st)
    | _ => none
  | .lload_n k, st => match zv_ld ls k.val with
    | some (Sum.inr (Sum.inl x)) => some (ls, zv_j x :: st)
    | _ => none
  | .lload k, st => match zv_ld ls k with
    | some (Sum.inr (Sum.inl x)) => some (ls, zv_j x :: st)
    | _ => none
  | .aload_n k, st => match zv_ld ls k.val with
    | some (Sum.inr (Sum.inr x)) => some (ls, zv_r x :: st)
    | _ => none
  | .aload k, st => match zv_ld ls k with
    | some (Sum.inr (Sum.inr x)) => some (ls, zv_r x :: st)
    | _ => none
  | .istore_n k, Sum.inl x :: st => if k.val < ls.length then some (zv_s1 ls k.val (zv_i x), st) else none
  | .istore k, Sum.inl x :: st => if k < ls.length then some (zv_s1 ls k (zv_i x), st) else none
  | .lstore_n k, Sum.inr (Sum.inl x) :: st => if k.val + 1 < ls.length then some (zv_s2 ls k.val x, st) else none
  | .lstore k, Sum.inr (Sum.inl x) :: st => if k + 1 < ls.length then some (zv_s2 ls k x, st) else none
  | .astore_n k, Sum.inr (Sum.inr x) :: st => if k.val < ls.length then some (zv_s1 ls k.val (zv_r x), st) else none
  | .astore k, Sum.inr (Sum.inr x) :: st => if k < ls.length then some (zv_s1 ls k (zv_r x), st) else none
  | .iinc k n, st => match zv_ld ls k with
    | some (Sum.inl x) => if k < ls.length then some (zv_s1 ls k (zv_i (zv_w (x + n))), st) else none
    | _ => none
  | .iadd, Sum.inl y :: Sum.inl x :: st => some (ls, zv_i (zv_w (x + y)) :: st)
  | .isub, Sum.inl y :: Sum.inl x :: st => some (ls, zv_i (zv_w (x - y)) :: st)
  | .imul, Sum.inl y :: Sum.inl x :: st => some (ls, zv_i (zv_w (x * y)) :: st)
  | .ineg, Sum.inl x :: st => some (ls, zv_i (zv_w (-x)) :: st)
  | .idiv, Sum.inl y :: Sum.inl x :: st => if y = 0 then none else some (ls, zv_i (zv_w (x.tdiv y)) :: st)
  | .irem, Sum.inl y :: Sum.inl x :: st => if y = 0 then none else some (ls, zv_i (x.tmod y) :: st)
  | .iand, Sum.inl y :: Sum.inl x :: st => some (ls, zv_i (zv_and x y) :: st)
  | .ior, Sum.inl y :: Sum.inl x :: st => some (ls, zv_i (zv_or x y) :: st)
  | .ishl, Sum.inl y :: Sum.inl x :: st => some (ls, zv_i (zv_shl x y) :: st)
  | .ishr, Sum.inl y :: Sum.inl x :: st => some (ls, zv_i (zv_shr x y) :: st)
  | .iushr, Sum.inl y :: Sum.inl x :: st => some (ls, zv_i (zv_ushr x y) :: st)
  | .i2b, Sum.inl x :: st => some (ls, zv_i (zv_i2b x) :: st)
  | .i2c, Sum.inl x :: st => some (ls, zv_i (zv_i2c x) :: st)
  | .i2l, Sum.inl x :: st => some (ls, zv_j (zv_i2l x) :: st)
  | .l2i, Sum.inr (Sum.inl x) :: st => some (ls, zv_i (zv_l2i x) :: st)
  | .ladd, Sum.inr (Sum.inl y) :: Sum.inr (Sum.inl x) :: st => some (ls, zv_j (x + y) :: st)
  | .lsub, Sum.inr (Sum.inl y) :: Sum.inr (Sum.inl x) :: st => some (ls, zv_j (x - y) :: st)
  | .lmul, Sum.inr (Sum.inl y) :: Sum.inr (Sum.inl x) :: st => some (ls, zv_j (x * y) :: st)
  | .land, Sum.inr (Sum.inl y) :: Sum.inr (Sum.inl x) :: st => some (ls, zv_j (x &&& y) :: st)
  | .lor, Sum.inr (Sum.inl y) :: Sum.inr (Sum.inl x) :: st => some (ls, zv_j (x ||| y) :: st)
  | .lxor, Sum.inr (Sum.inl y) :: Sum.inr (Sum.inl x) :: st => some (ls, zv_j (x ^^^ y) :: st)
  | .lshl, Sum.inl y :: Sum.inr (Sum.inl x) :: st => some (ls, zv_j (zv_lshl x y) :: st)
  | .lushr, Sum.inl y :: Sum.inr (Sum.inl x) :: st => some (ls, zv_j (zv_lushr x y) :: st)
  | .lcmp, Sum.inr (Sum.inl y) :: Sum.inr (Sum.inl x) :: st => some (ls, zv_i (zv_lcmp x y) :: st)
  | .dup, Sum.inl x :: st => some (ls, zv_i x :: zv_i x :: st)
  | .dup, Sum.inr (Sum.inr x) :: st => some (ls, zv_r x :: zv_r x :: st)
  | .dup2, Sum.inl y :: Sum.inr (Sum.inr x) :: st => some (ls, zv_i y :: zv_r x :: zv_i y :: zv_r x :: st)
  | .pop, Sum.inl _ :: st => some (ls, st)
  | .pop, Sum.inr (Sum.inr _) :: st => some (ls, st)
  | _, _ => none
def zv_txt : List (List Int) := [[115, 116, 97, 114, 116], [106, 111, 105, 110], [110, 111, 116], [103, 97, 112], [115, 105, 122, 101], [107, 105, 110, 100], [115, 97, 109, 101], [110, 101, 97, 114], [108, 111, 110, 103], [97, 110, 100], [111, 114], [112, 117, 116], [99, 117, 116], [119, 97, 105, 116], [117, 110, 100, 111], [114, 101, 100, 111], [103, 111], [110, 97, 109, 101], [119, 105, 116, 104, 100, 114, 97, 119], [114, 101, 115, 116, 111, 114, 101], [99, 97, 114, 114, 121], [109, 101, 114, 103, 101], [112, 114, 117, 110, 101], [60, 61, 62, 91, 93, 59]]
