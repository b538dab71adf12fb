/-! 28b.fast -/
section
/-! a method's instructions held against its bytes in one walk -/
theorem zy_u1 {code : ByteArray} {p : Nat} {b : UInt8} (h : code.data.toList[p]? = some b) : (Reader.u1 : Decoder Nat) code p = .ok (b.toNat, p + 1) := by
  have hp : p < code.size := by
    have := (List.getElem?_eq_some_iff.mp h).1
    simpa using this
  have hb : code[p] = b := by
    have := (List.getElem?_eq_some_iff.mp h).2
    show code.data[p] = b
    simpa using this
  have e : (Reader.u1 : Decoder Nat) code p = (dite (p < code.size) (fun h => (Except.ok (code[p].toNat, p + 1) : Except DecodeError (Nat × Nat))) (fun _ => Except.error (HasTruncated.truncated p))) := by
    unfold Reader.u1
    by_cases hq : p < code.size
    · rw [dif_pos hq]
      show (dite (p < code.size) _ _ : Decoder Nat) code p = _
      rw [dif_pos hq]
      rfl
    · exact absurd hp hq
  rw [e, dif_pos hp, hb]
theorem zy_s1 {code : ByteArray} {p b : Nat} (h : (Reader.u1 : Decoder Nat) code p = .ok (b, p + 1)) : (Reader.s1 : Decoder Int) code p = .ok (Reader.signed 8 b, p + 1) := by
  unfold Reader.s1
  show Except.bind ((Reader.u1 : Decoder Nat) code p) _ = _
  rw [h]
  rfl
theorem zy_u2 {code : ByteArray} {p a b : Nat} (h : (Reader.u1 : Decoder Nat) code p = .ok (a, p + 1)) (h' : (Reader.u1 : Decoder Nat) code (p + 1) = .ok (b, p + 1 + 1)) : (Reader.u2 : Decoder Nat) code p = .ok (a * 256 + b, p + 1 + 1) := by
  unfold Reader.u2
  show Except.bind ((Reader.u1 : Decoder Nat) code p) _ = _
  rw [h]
  show Except.bind ((Reader.u1 : Decoder Nat) code (p + 1)) _ = _
  rw [h']
  rfl
theorem zy_s2 {code : ByteArray} {p x : Nat} (h : (Reader.u2 : Decoder Nat) code p = .ok (x, p + 1 + 1)) : (Reader.s2 : Decoder Int) code p = .ok (Reader.signed 16 x, p + 1 + 1) := by
  unfold Reader.s2
  show Except.bind ((Reader.u2 : Decoder Nat) code p) _ = _
  rw [h]
  rfl
theorem zy_dec {code : ByteArray} {pc n : Nat} {i : Instr} (h : Decoder.instr pc code pc = .ok (i, pc + n)) : decode code pc = .ok (i, n) := by
  unfold decode Reader.runAt
  show Except.bind (Decoder.instr pc code pc) _ = _
  rw [h]
  show (Except.ok (i, pc + n - pc) : Except DecodeError (Instr × Nat)) = _
  rw [Nat.add_sub_cancel_left]
theorem zy_aconst_null {code : ByteArray} {pc  : Nat} (hA : (Reader.u1 : Decoder Nat) code pc = .ok (1, pc + 1)) : decode code pc = .ok (.aconst_null, 1) := by
  refine zy_dec ?_
  show Except.bind ((Reader.u1 : Decoder Nat) code pc) _ = _
  rw [hA]
  rfl
theorem zy_iaload {code : ByteArray} {pc  : Nat} (hA : (Reader.u1 : Decoder Nat) code pc = .ok (46, pc + 1)) : decode code pc = .ok (.iaload, 1) := by
  refine zy_dec ?_
  show Except.bind ((Reader.u1 : Decoder Nat) code pc) _ = _
  rw [hA]
  rfl
theorem zy_laload {code : ByteArray} {pc  : Nat} (hA : (Reader.u1 : Decoder Nat) code pc = .ok (47, pc + 1)) : decode code pc = .ok (.laload, 1) := by
  refine zy_dec ?_
  show Except.bind ((Reader.u1 : Decoder Nat) code pc) _ = _
  rw [hA]
  rfl
theorem zy_aaload {code : ByteArray} {pc  : Nat} (hA : (Reader.u1 : Decoder Nat) code pc = .ok (50, pc + 1)) : decode code pc = .ok (.aaload, 1) := by
  refine zy_dec ?_
  show Except.bind ((Reader.u1 : Decoder Nat) code pc) _ = _
  rw [hA]
  rfl
theorem zy_baload {code : ByteArray} {pc  : Nat} (hA : (Reader.u1 : Decoder Nat) code pc = .ok (51, pc + 1)) : decode code pc = .ok (.baload, 1) := by
  refine zy_dec ?_
  show Except.bind ((Reader.u1 : Decoder Nat) code pc) _ = _
  rw [hA]
  rfl
theorem zy_iastore {code : ByteArray} {pc  : Nat} (hA : (Reader.u1 : Decoder Nat) code pc = .ok (79, pc + 1)) : decode code pc = .ok (.iastore, 1) := by
  refine zy_dec ?_
  show Except.bind ((Reader.u1 : Decoder Nat) code pc) _ = _
  rw [hA]
  rfl
theorem zy_lastore {code : ByteArray} {pc  : Nat} (hA : (Reader.u1 : Decoder Nat) code pc = .ok (80, pc + 1)) : decode code pc = .ok (.lastore, 1) := by
  refine zy_dec ?_
  show Except.bind ((Reader.u1 : Decoder Nat) code pc) _ = _
  rw [hA]
  rfl
theorem zy_aastore {code : ByteArray} {pc  : Nat} (hA : (Reader.u1 : Decoder Nat) code pc = .ok (83, pc + 1)) : decode code pc = .ok (.aastore, 1) := by
  refine zy_dec ?_
  show Except.bind ((Reader.u1 : Decoder Nat) code pc) _ = _
  rw [hA]
  rfl
theorem zy_bastore {code : ByteArray} {pc  : Nat} (hA : (Reader.u1 : Decoder Nat) code pc = .ok (84, pc + 1)) : decode code pc = .ok (.bastore, 1) := by
  refine zy_dec ?_
  show Except.bind ((Reader.u1 : Decoder Nat) code pc) _ = _
  rw [hA]
  rfl
theorem zy_pop {code : ByteArray} {pc  : Nat} (hA : (Reader.u1 : Decoder Nat) code pc = .ok (87, pc + 1)) : decode code pc = .ok (.pop, 1) := by
  refine zy_dec ?_
  show Except.bind ((Reader.u1 : Decoder Nat) code pc) _ = _
  rw [hA]
  rfl
theorem zy_dup {code : ByteArray} {pc  : Nat} (hA : (Reader.u1 : Decoder Nat) code pc = .ok (89, pc + 1)) : decode code pc = .ok (.dup, 1) := by
  refine zy_dec ?_
  show Except.bind ((Reader.u1 : Decoder Nat) code pc) _ = _
  rw [hA]
  rfl
theorem zy_dup2 {code : ByteArray} {pc  : Nat} (hA : (Reader.u1 : Decoder Nat) code pc = .ok (92, pc + 1)) : decode code pc = .ok (.dup2, 1) := by
  refine zy_dec ?_
  show Except.bind ((Reader.u1 : Decoder Nat) code pc) _ = _
  rw [hA]
  rfl
theorem zy_iadd {code : ByteArray} {pc  : Nat} (hA : (Reader.u1 : Decoder Nat) code pc = .ok (96, pc + 1)) : decode code pc = .ok (.iadd, 1) := by
  refine zy_dec ?_
  show Except.bind ((Reader.u1 : Decoder Nat) code pc) _ = _
  rw [hA]
  rfl
theorem zy_ladd {code : ByteArray} {pc  : Nat} (hA : (Reader.u1 : Decoder Nat) code pc = .ok (97, pc + 1)) : decode code pc = .ok (.ladd, 1) := by
  refine zy_dec ?_
  show Except.bind ((Reader.u1 : Decoder Nat) code pc) _ = _
  rw [hA]
  rfl
theorem zy_isub {code : ByteArray} {pc  : Nat} (hA : (Reader.u1 : Decoder Nat) code pc = .ok (100, pc + 1)) : decode code pc = .ok (.isub, 1) := by
  refine zy_dec ?_
  show Except.bind ((Reader.u1 : Decoder Nat) code pc) _ = _
  rw [hA]
  rfl
theorem zy_lsub {code : ByteArray} {pc  : Nat} (hA : (Reader.u1 : Decoder Nat) code pc = .ok (101, pc + 1)) : decode code pc = .ok (.lsub, 1) := by
  refine zy_dec ?_
  show Except.bind ((Reader.u1 : Decoder Nat) code pc) _ = _
  rw [hA]
  rfl
theorem zy_imul {code : ByteArray} {pc  : Nat} (hA : (Reader.u1 : Decoder Nat) code pc = .ok (104, pc + 1)) : decode code pc = .ok (.imul, 1) := by
  refine zy_dec ?_
  show Except.bind ((Reader.u1 : Decoder Nat) code pc) _ = _
  rw [hA]
  rfl
theorem zy_lmul {code : ByteArray} {pc  : Nat} (hA : (Reader.u1 : Decoder Nat) code pc = .ok (105, pc + 1)) : decode code pc = .ok (.lmul, 1) := by
  refine zy_dec ?_
  show Except.bind ((Reader.u1 : Decoder Nat) code pc) _ = _
  rw [hA]
  rfl
theorem zy_idiv {code : ByteArray} {pc  : Nat} (hA : (Reader.u1 : Decoder Nat) code pc = .ok (108, pc + 1)) : decode code pc = .ok (.idiv, 1) := by
  refine zy_dec ?_
  show Except.bind ((Reader.u1 : Decoder Nat) code pc) _ = _
  rw [hA]
  rfl
theorem zy_irem {code : ByteArray} {pc  : Nat} (hA : (Reader.u1 : Decoder Nat) code pc = .ok (112, pc + 1)) : decode code pc = .ok (.irem, 1) := by
  refine zy_dec ?_
  show Except.bind ((Reader.u1 : Decoder Nat) code pc) _ = _
  rw [hA]
  rfl
theorem zy_ineg {code : ByteArray} {pc  : Nat} (hA : (Reader.u1 : Decoder Nat) code pc = .ok (116, pc + 1)) : decode code pc = .ok (.ineg, 1) := by
  refine zy_dec ?_
  show Except.bind ((Reader.u1 : Decoder Nat) code pc) _ = _
  rw [hA]
  rfl
theorem zy_ishl {code : ByteArray} {pc  : Nat} (hA : (Reader.u1 : Decoder Nat) code pc = .ok (120, pc + 1)) : decode code pc = .ok (.ishl, 1) := by
  refine zy_dec ?_
  show Except.bind ((Reader.u1 : Decoder Nat) code pc) _ = _
  rw [hA]
  rfl
theorem zy_lshl {code : ByteArray} {pc  : Nat} (hA : (Reader.u1 : Decoder Nat) code pc = .ok (121, pc + 1)) : decode code pc = .ok (.lshl, 1) := by
  refine zy_dec ?_
  show Except.bind ((Reader.u1 : Decoder Nat) code pc) _ = _
  rw [hA]
  rfl
theorem zy_ishr {code : ByteArray} {pc  : Nat} (hA : (Reader.u1 : Decoder Nat) code pc = .ok (122, pc + 1)) : decode code pc = .ok (.ishr, 1) := by
  refine zy_dec ?_
  show Except.bind ((Reader.u1 : Decoder Nat) code pc) _ = _
  rw [hA]
  rfl
theorem zy_iushr {code : ByteArray} {pc  : Nat} (hA : (Reader.u1 : Decoder Nat) code pc = .ok (124, pc + 1)) : decode code pc = .ok (.iushr, 1) := by
  refine zy_dec ?_
  show Except.bind ((Reader.u1 : Decoder Nat) code pc) _ = _
  rw [hA]
  rfl
theorem zy_lushr {code : ByteArray} {pc  : Nat} (hA : (Reader.u1 : Decoder Nat) code pc = .ok (125, pc + 1)) : decode code pc = .ok (.lushr, 1) := by
  refine zy_dec ?_
  show Except.bind ((Reader.u1 : Decoder Nat) code pc) _ = _
  rw [hA]
  rfl
theorem zy_iand {code : ByteArray} {pc  : Nat} (hA : (Reader.u1 : Decoder Nat) code pc = .ok (126, pc + 1)) : decode code pc = .ok (.iand, 1) := by
  refine zy_dec ?_
  show Except.bind ((Reader.u1 : Decoder Nat) code pc) _ = _
  rw [hA]
  rfl
theorem zy_land {code : ByteArray} {pc  : Nat} (hA : (Reader.u1 : Decoder Nat) code pc = .ok (127, pc + 1)) : decode code pc = .ok (.land, 1) := by
  refine zy_dec ?_
  show Except.bind ((Reader.u1 : Decoder Nat) code pc) _ = _
  rw [hA]
  rfl
theorem zy_ior {code : ByteArray} {pc  : Nat} (hA : (Reader.u1 : Decoder Nat) code pc = .ok (128, pc + 1)) : decode code pc = .ok (.ior, 1) := by
  refine zy_dec ?_
  show Except.bind ((Reader.u1 : Decoder Nat) code pc) _ = _
  rw [hA]
  rfl
theorem zy_lor {code : ByteArray} {pc  : Nat} (hA : (Reader.u1 : Decoder Nat) code pc = .ok (129, pc + 1)) : decode code pc = .ok (.lor, 1) := by
  refine zy_dec ?_
  show Except.bind ((Reader.u1 : Decoder Nat) code pc) _ = _
  rw [hA]
  rfl
theorem zy_ixor {code : ByteArray} {pc  : Nat} (hA : (Reader.u1 : Decoder Nat) code pc = .ok (130, pc + 1)) : decode code pc = .ok (.ixor, 1) := by
  refine zy_dec ?_
  show Except.bind ((Reader.u1 : Decoder Nat) code pc) _ = _
  rw [hA]
  rfl
theorem zy_lxor {code : ByteArray} {pc  : Nat} (hA : (Reader.u1 : Decoder Nat) code pc = .ok (131, pc + 1)) : decode code pc = .ok (.lxor, 1) := by
  refine zy_dec ?_
  show Except.bind ((Reader.u1 : Decoder Nat) code pc) _ = _
  rw [hA]
  rfl
theorem zy_i2l {code : ByteArray} {pc  : Nat} (hA : (Reader.u1 : Decoder Nat) code pc = .ok (133, pc + 1)) : decode code pc = .ok (.i2l, 1) := by
  refine zy_dec ?_
  show Except.bind ((Reader.u1 : Decoder Nat) code pc) _ = _
  rw [hA]
  rfl
theorem zy_l2i {code : ByteArray} {pc  : Nat} (hA : (Reader.u1 : Decoder Nat) code pc = .ok (136, pc + 1)) : decode code pc = .ok (.l2i, 1) := by
  refine zy_dec ?_
  show Except.bind ((Reader.u1 : Decoder Nat) code pc) _ = _
  rw [hA]
  rfl
theorem zy_i2b {code : ByteArray} {pc  : Nat} (hA : (Reader.u1 : Decoder Nat) code pc = .ok (145, pc + 1)) : decode code pc = .ok (.i2b, 1) := by
  refine zy_dec ?_
  show Except.bind ((Reader.u1 : Decoder Nat) code pc) _ = _
  rw [hA]
  rfl
theorem zy_i2c {code : ByteArray} {pc  : Nat} (hA : (Reader.u1 : Decoder Nat) code pc = .ok (146, pc + 1)) : decode code pc = .ok (.i2c, 1) := by
  refine zy_dec ?_
  show Except.bind ((Reader.u1 : Decoder Nat) code pc) _ = _
  rw [hA]
  rfl
theorem zy_lcmp {code : ByteArray} {pc  : Nat} (hA : (Reader.u1 : Decoder Nat) code pc = .ok (148, pc + 1)) : decode code pc = .ok (.lcmp, 1) := by
  refine zy_dec ?_
  show Except.bind ((Reader.u1 : Decoder Nat) code pc) _ = _
  rw [hA]
  rfl
theorem zy_ireturn {code : ByteArray} {pc  : Nat} (hA : (Reader.u1 : Decoder Nat) code pc = .ok (172, pc + 1)) : decode code pc = .ok (.ireturn, 1) := by
  refine zy_dec ?_
  show Except.bind ((Reader.u1 : Decoder Nat) code pc) _ = _
  rw [hA]
  rfl
theorem zy_lreturn {code : ByteArray} {pc  : Nat} (hA : (Reader.u1 : Decoder Nat) code pc = .ok (173, pc + 1)) : decode code pc = .ok (.lreturn, 1) := by
  refine zy_dec ?_
  show Except.bind ((Reader.u1 : Decoder Nat) code pc) _ = _
  rw [hA]
  rfl
theorem zy_areturn {code : ByteArray} {pc  : Nat} (hA : (Reader.u1 : Decoder Nat) code pc = .ok (176, pc + 1)) : decode code pc = .ok (.areturn, 1) := by
  refine zy_dec ?_
  show Except.bind ((Reader.u1 : Decoder Nat) code pc) _ = _
  rw [hA]
  rfl
theorem zy_return_ {code : ByteArray} {pc  : Nat} (hA : (Reader.u1 : Decoder Nat) code pc = .ok (177, pc + 1)) : decode code pc = .ok (.return_, 1) := by
  refine zy_dec ?_
  show Except.bind ((Reader.u1 : Decoder Nat) code pc) _ = _
  rw [hA]
  rfl
theorem zy_arraylength {code : ByteArray} {pc  : Nat} (hA : (Reader.u1 : Decoder Nat) code pc = .ok (190, pc + 1)) : decode code pc = .ok (.arraylength, 1) := by
  refine zy_dec ?_
  show Except.bind ((Reader.u1 : Decoder Nat) code pc) _ = _
  rw [hA]
  rfl
theorem zy_iconst_0 {code : ByteArray} {pc  : Nat} (hA : (Reader.u1 : Decoder Nat) code pc = .ok (2, pc + 1)) : decode code pc = .ok (.iconst (-1), 1) := by
  refine zy_dec ?_
  show Except.bind ((Reader.u1 : Decoder Nat) code pc) _ = _
  rw [hA]
  rfl
theorem zy_iconst_1 {code : ByteArray} {pc  : Nat} (hA : (Reader.u1 : Decoder Nat) code pc = .ok (3, pc + 1)) : decode code pc = .ok (.iconst (0), 1) := by
  refine zy_dec ?_
  show Except.bind ((Reader.u1 : Decoder Nat) code pc) _ = _
  rw [hA]
  rfl
theorem zy_iconst_2 {code : ByteArray} {pc  : Nat} (hA : (Reader.u1 : Decoder Nat) code pc = .ok (4, pc + 1)) : decode code pc = .ok (.iconst (1), 1) := by
  refine zy_dec ?_
  show Except.bind ((Reader.u1 : Decoder Nat) code pc) _ = _
  rw [hA]
  rfl
theorem zy_iconst_3 {code : ByteArray} {pc  : Nat} (hA : (Reader.u1 : Decoder Nat) code pc = .ok (5, pc + 1)) : decode code pc = .ok (.iconst (2), 1) := by
  refine zy_dec ?_
  show Except.bind ((Reader.u1 : Decoder Nat) code pc) _ = _
  rw [hA]
  rfl
theorem zy_iconst_4 {code : ByteArray} {pc  : Nat} (hA : (Reader.u1 : Decoder Nat) code pc = .ok (6, pc + 1)) : decode code pc = .ok (.iconst (3), 1) := by
  refine zy_dec ?_
  show Except.bind ((Reader.u1 : Decoder Nat) code pc) _ = _
  rw [hA]
  rfl
theorem zy_iconst_5 {code : ByteArray} {pc  : Nat} (hA : (Reader.u1 : Decoder Nat) code pc = .ok (7, pc + 1)) : decode code pc = .ok (.iconst (4), 1) := by
  refine zy_dec ?_
  show Except.bind ((Reader.u1 : Decoder Nat) code pc) _ = _
  rw [hA]
  rfl
theorem zy_iconst_6 {code : ByteArray} {pc  : Nat} (hA : (Reader.u1 : Decoder Nat) code pc = .ok (8, pc + 1)) : decode code pc = .ok (.iconst (5), 1) := by
  refine zy_dec ?_
  show Except.bind ((Reader.u1 : Decoder Nat) code pc) _ = _
  rw [hA]
  rfl
theorem zy_lconst_0 {code : ByteArray} {pc  : Nat} (hA : (Reader.u1 : Decoder Nat) code pc = .ok (9, pc + 1)) : decode code pc = .ok (.lconst 0, 1) := by
  refine zy_dec ?_
  show Except.bind ((Reader.u1 : Decoder Nat) code pc) _ = _
  rw [hA]
  rfl
theorem zy_lconst_1 {code : ByteArray} {pc  : Nat} (hA : (Reader.u1 : Decoder Nat) code pc = .ok (10, pc + 1)) : decode code pc = .ok (.lconst 1, 1) := by
  refine zy_dec ?_
  show Except.bind ((Reader.u1 : Decoder Nat) code pc) _ = _
  rw [hA]
  rfl
theorem zy_iload_n_0 {code : ByteArray} {pc  : Nat} (hA : (Reader.u1 : Decoder Nat) code pc = .ok (26, pc + 1)) : decode code pc = .ok (.iload_n 0, 1) := by
  refine zy_dec ?_
  show Except.bind ((Reader.u1 : Decoder Nat) code pc) _ = _
  rw [hA]
  rfl
theorem zy_iload_n_1 {code : ByteArray} {pc  : Nat} (hA : (Reader.u1 : Decoder Nat) code pc = .ok (27, pc + 1)) : decode code pc = .ok (.iload_n 1, 1) := by
  refine zy_dec ?_
  show Except.bind ((Reader.u1 : Decoder Nat) code pc) _ = _
  rw [hA]
  rfl
theorem zy_iload_n_2 {code : ByteArray} {pc  : Nat} (hA : (Reader.u1 : Decoder Nat) code pc = .ok (28, pc + 1)) : decode code pc = .ok (.iload_n 2, 1) := by
  refine zy_dec ?_
  show Except.bind ((Reader.u1 : Decoder Nat) code pc) _ = _
  rw [hA]
  rfl
theorem zy_iload_n_3 {code : ByteArray} {pc  : Nat} (hA : (Reader.u1 : Decoder Nat) code pc = .ok (29, pc + 1)) : decode code pc = .ok (.iload_n 3, 1) := by
  refine zy_dec ?_
  show Except.bind ((Reader.u1 : Decoder Nat) code pc) _ = _
  rw [hA]
  rfl
theorem zy_lload_n_0 {code : ByteArray} {pc  : Nat} (hA : (Reader.u1 : Decoder Nat) code pc = .ok (30, pc + 1)) : decode code pc = .ok (.lload_n 0, 1) := by
  refine zy_dec ?_
  show Except.bind ((Reader.u1 : Decoder Nat) code pc) _ = _
  rw [hA]
  rfl
theorem zy_lload_n_1 {code : ByteArray} {pc  : Nat} (hA : (Reader.u1 : Decoder Nat) code pc = .ok (31, pc + 1)) : decode code pc = .ok (.lload_n 1, 1) := by
  refine zy_dec ?_
  show Except.bind ((Reader.u1 : Decoder Nat) code pc) _ = _
  rw [hA]
  rfl
theorem zy_lload_n_2 {code : ByteArray} {pc  : Nat} (hA : (Reader.u1 : Decoder Nat) code pc = .ok (32, pc + 1)) : decode code pc = .ok (.lload_n 2, 1) := by
  refine zy_dec ?_
  show Except.bind ((Reader.u1 : Decoder Nat) code pc) _ = _
  rw [hA]
  rfl
theorem zy_lload_n_3 {code : ByteArray} {pc  : Nat} (hA : (Reader.u1 : Decoder Nat) code pc = .ok (33, pc + 1)) : decode code pc = .ok (.lload_n 3, 1) := by
  refine zy_dec ?_
  show Except.bind ((Reader.u1 : Decoder Nat) code pc) _ = _
  rw [hA]
  rfl
theorem zy_aload_n_0 {code : ByteArray} {pc  : Nat} (hA : (Reader.u1 : Decoder Nat) code pc = .ok (42, pc + 1)) : decode code pc = .ok (.aload_n 0, 1) := by
  refine zy_dec ?_
  show Except.bind ((Reader.u1 : Decoder Nat) code pc) _ = _
  rw [hA]
  rfl
theorem zy_aload_n_1 {code : ByteArray} {pc  : Nat} (hA : (Reader.u1 : Decoder Nat) code pc = .ok (43, pc + 1)) : decode code pc = .ok (.aload_n 1, 1) := by
  refine zy_dec ?_
  show Except.bind ((Reader.u1 : Decoder Nat) code pc) _ = _
  rw [hA]
  rfl
theorem zy_aload_n_2 {code : ByteArray} {pc  : Nat} (hA : (Reader.u1 : Decoder Nat) code pc = .ok (44, pc + 1)) : decode code pc = .ok (.aload_n 2, 1) := by
  refine zy_dec ?_
  show Except.bind ((Reader.u1 : Decoder Nat) code pc) _ = _
  rw [hA]
  rfl
theorem zy_aload_n_3 {code : ByteArray} {pc  : Nat} (hA : (Reader.u1 : Decoder Nat) code pc = .ok (45, pc + 1)) : decode code pc = .ok (.aload_n 3, 1) := by
  refine zy_dec ?_
  show Except.bind ((Reader.u1 : Decoder Nat) code pc) _ = _
  rw [hA]
  rfl
theorem zy_istore_n_0 {code : ByteArray} {pc  : Nat} (hA : (Reader.u1 : Decoder Nat) code pc = .ok (59, pc + 1)) : decode code pc = .ok (.istore_n 0, 1) := by
  refine zy_dec ?_
  show Except.bind ((Reader.u1 : Decoder Nat) code pc) _ = _
  rw [hA]
  rfl
theorem zy_istore_n_1 {code : ByteArray} {pc  : Nat} (hA : (Reader.u1 : Decoder Nat) code pc = .ok (60, pc + 1)) : decode code pc = .ok (.istore_n 1, 1) := by
  refine zy_dec ?_
  show Except.bind ((Reader.u1 : Decoder Nat) code pc) _ = _
  rw [hA]
  rfl
theorem zy_istore_n_2 {code : ByteArray} {pc  : Nat} (hA : (Reader.u1 : Decoder Nat) code pc = .ok (61, pc + 1)) : decode code pc = .ok (.istore_n 2, 1) := by
  refine zy_dec ?_
  show Except.bind ((Reader.u1 : Decoder Nat) code pc) _ = _
  rw [hA]
  rfl
theorem zy_istore_n_3 {code : ByteArray} {pc  : Nat} (hA : (Reader.u1 : Decoder Nat) code pc = .ok (62, pc + 1)) : decode code pc = .ok (.istore_n 3, 1) := by
  refine zy_dec ?_
  show Except.bind ((Reader.u1 : Decoder Nat) code pc) _ = _
  rw [hA]
  rfl
theorem zy_lstore_n_0 {code : ByteArray} {pc  : Nat} (hA : (Reader.u1 : Decoder Nat) code pc = .ok (63, pc + 1)) : decode code pc = .ok (.lstore_n 0, 1) := by
  refine zy_dec ?_
  show Except.bind ((Reader.u1 : Decoder Nat) code pc) _ = _
  rw [hA]
  rfl
theorem zy_lstore_n_1 {code : ByteArray} {pc  : Nat} (hA : (Reader.u1 : Decoder Nat) code pc = .ok (64, pc + 1)) : decode code pc = .ok (.lstore_n 1, 1) := by
  refine zy_dec ?_
  show Except.bind ((Reader.u1 : Decoder Nat) code pc) _ = _
  rw [hA]
  rfl
theorem zy_lstore_n_2 {code : ByteArray} {pc  : Nat} (hA : (Reader.u1 : Decoder Nat) code pc = .ok (65, pc + 1)) : decode code pc = .ok (.lstore_n 2, 1) := by
  refine zy_dec ?_
  show Except.bind ((Reader.u1 : Decoder Nat) code pc) _ = _
  rw [hA]
  rfl
theorem zy_lstore_n_3 {code : ByteArray} {pc  : Nat} (hA : (Reader.u1 : Decoder Nat) code pc = .ok (66, pc + 1)) : decode code pc = .ok (.lstore_n 3, 1) := by
  refine zy_dec ?_
  show Except.bind ((Reader.u1 : Decoder Nat) code pc) _ = _
  rw [hA]
  rfl
theorem zy_astore_n_0 {code : ByteArray} {pc  : Nat} (hA : (Reader.u1 : Decoder Nat) code pc = .ok (75, pc + 1)) : decode code pc = .ok (.astore_n 0, 1) := by
  refine zy_dec ?_
  show Except.bind ((Reader.u1 : Decoder Nat) code pc) _ = _
  rw [hA]
  rfl
theorem zy_astore_n_1 {code : ByteArray} {pc  : Nat} (hA : (Reader.u1 : Decoder Nat) code pc = .ok (76, pc + 1)) : decode code pc = .ok (.astore_n 1, 1) := by
  refine zy_dec ?_
  show Except.bind ((Reader.u1 : Decoder Nat) code pc) _ = _
  rw [hA]
  rfl
theorem zy_astore_n_2 {code : ByteArray} {pc  : Nat} (hA : (Reader.u1 : Decoder Nat) code pc = .ok (77, pc + 1)) : decode code pc = .ok (.astore_n 2, 1) := by
  refine zy_dec ?_
  show Except.bind ((Reader.u1 : Decoder Nat) code pc) _ = _
  rw [hA]
  rfl
theorem zy_astore_n_3 {code : ByteArray} {pc  : Nat} (hA : (Reader.u1 : Decoder Nat) code pc = .ok (78, pc + 1)) : decode code pc = .ok (.astore_n 3, 1) := by
  refine zy_dec ?_
  show Except.bind ((Reader.u1 : Decoder Nat) code pc) _ = _
  rw [hA]
  rfl
theorem zy_ldc {code : ByteArray} {pc x : Nat} (hA : (Reader.u1 : Decoder Nat) code pc = .ok (18, pc + 1)) (hB : (Reader.u1 : Decoder Nat) code (pc + 1) = .ok (x, pc + 1 + 1)) : decode code pc = .ok (.ldc x, 2) := by
  refine zy_dec ?_
  show Except.bind ((Reader.u1 : Decoder Nat) code pc) _ = _
  rw [hA]
  show Except.bind ((Reader.u1 : Decoder Nat) code (pc + 1)) _ = _
  rw [hB]
  rfl
theorem zy_iload {code : ByteArray} {pc x : Nat} (hA : (Reader.u1 : Decoder Nat) code pc = .ok (21, pc + 1)) (hB : (Reader.u1 : Decoder Nat) code (pc + 1) = .ok (x, pc + 1 + 1)) : decode code pc = .ok (.iload x, 2) := by
  refine zy_dec ?_
  show Except.bind ((Reader.u1 : Decoder Nat) code pc) _ = _
  rw [hA]
  show Except.bind ((Reader.u1 : Decoder Nat) code (pc + 1)) _ = _
  rw [hB]
  rfl
theorem zy_lload {code : ByteArray} {pc x : Nat} (hA : (Reader.u1 : Decoder Nat) code pc = .ok (22, pc + 1)) (hB : (Reader.u1 : Decoder Nat) code (pc + 1) = .ok (x, pc + 1 + 1)) : decode code pc = .ok (.lload x, 2) := by
  refine zy_dec ?_
  show Except.bind ((Reader.u1 : Decoder Nat) code pc) _ = _
  rw [hA]
  show Except.bind ((Reader.u1 : Decoder Nat) code (pc + 1)) _ = _
  rw [hB]
  rfl
theorem zy_aload {code : ByteArray} {pc x : Nat} (hA : (Reader.u1 : Decoder Nat) code pc = .ok (25, pc + 1)) (hB : (Reader.u1 : Decoder Nat) code (pc + 1) = .ok (x, pc + 1 + 1)) : decode code pc = .ok (.aload x, 2) := by
  refine zy_dec ?_
  show Except.bind ((Reader.u1 : Decoder Nat) code pc) _ = _
  rw [hA]
  show Except.bind ((Reader.u1 : Decoder Nat) code (pc + 1)) _ = _
  rw [hB]
  rfl
theorem zy_istore {code : ByteArray} {pc x : Nat} (hA : (Reader.u1 : Decoder Nat) code pc = .ok (54, pc + 1)) (hB : (Reader.u1 : Decoder Nat) code (pc + 1) = .ok (x, pc + 1 + 1)) : decode code pc = .ok (.istore x, 2) := by
  refine zy_dec ?_
  show Except.bind ((Reader.u1 : Decoder Nat) code pc) _ = _
  rw [hA]
  show Except.bind ((Reader.u1 : Decoder Nat) code (pc + 1)) _ = _
  rw [hB]
  rfl
theorem zy_lstore {code : ByteArray} {pc x : Nat} (hA : (Reader.u1 : Decoder Nat) code pc = .ok (55, pc + 1)) (hB : (Reader.u1 : Decoder Nat) code (pc + 1) = .ok (x, pc + 1 + 1)) : decode code pc = .ok (.lstore x, 2) := by
  refine zy_dec ?_
  show Except.bind ((Reader.u1 : Decoder Nat) code pc) _ = _
  rw [hA]
  show Except.bind ((Reader.u1 : Decoder Nat) code (pc + 1)) _ = _
  rw [hB]
  rfl
theorem zy_astore {code : ByteArray} {pc x : Nat} (hA : (Reader.u1 : Decoder Nat) code pc = .ok (58, pc + 1)) (hB : (Reader.u1 : Decoder Nat) code (pc + 1) = .ok (x, pc + 1 + 1)) : decode code pc = .ok (.astore x, 2) := by
  refine zy_dec ?_
  show Except.bind ((Reader.u1 : Decoder Nat) code pc) _ = _
  rw [hA]
  show Except.bind ((Reader.u1 : Decoder Nat) code (pc + 1)) _ = _
  rw [hB]
  rfl
theorem zy_bipush {code : ByteArray} {pc x : Nat} (hA : (Reader.u1 : Decoder Nat) code pc = .ok (16, pc + 1)) (hB : (Reader.u1 : Decoder Nat) code (pc + 1) = .ok (x, pc + 1 + 1)) : decode code pc = .ok (.bipush (Reader.signed 8 x), 2) := by
  refine zy_dec ?_
  show Except.bind ((Reader.u1 : Decoder Nat) code pc) _ = _
  rw [hA]
  show Except.bind ((Reader.s1 : Decoder Int) code (pc + 1)) _ = _
  rw [zy_s1 hB]
  rfl
theorem zy_newarray_4 {code : ByteArray} {pc : Nat} (hA : (Reader.u1 : Decoder Nat) code pc = .ok (188, pc + 1)) (hB : (Reader.u1 : Decoder Nat) code (pc + 1) = .ok (4, pc + 1 + 1)) : decode code pc = .ok (.newarray .boolean, 2) := by
  refine zy_dec ?_
  show Except.bind ((Reader.u1 : Decoder Nat) code pc) _ = _
  rw [hA]
  show Except.bind ((Reader.u1 : Decoder Nat) code (pc + 1)) _ = _
  rw [hB]
  rfl
theorem zy_newarray_5 {code : ByteArray} {pc : Nat} (hA : (Reader.u1 : Decoder Nat) code pc = .ok (188, pc + 1)) (hB : (Reader.u1 : Decoder Nat) code (pc + 1) = .ok (5, pc + 1 + 1)) : decode code pc = .ok (.newarray .char, 2) := by
  refine zy_dec ?_
  show Except.bind ((Reader.u1 : Decoder Nat) code pc) _ = _
  rw [hA]
  show Except.bind ((Reader.u1 : Decoder Nat) code (pc + 1)) _ = _
  rw [hB]
  rfl
theorem zy_newarray_6 {code : ByteArray} {pc : Nat} (hA : (Reader.u1 : Decoder Nat) code pc = .ok (188, pc + 1)) (hB : (Reader.u1 : Decoder Nat) code (pc + 1) = .ok (6, pc + 1 + 1)) : decode code pc = .ok (.newarray .float, 2) := by
  refine zy_dec ?_
  show Except.bind ((Reader.u1 : Decoder Nat) code pc) _ = _
  rw [hA]
  show Except.bind ((Reader.u1 : Decoder Nat) code (pc + 1)) _ = _
  rw [hB]
  rfl
theorem zy_newarray_7 {code : ByteArray} {pc : Nat} (hA : (Reader.u1 : Decoder Nat) code pc = .ok (188, pc + 1)) (hB : (Reader.u1 : Decoder Nat) code (pc + 1) = .ok (7, pc + 1 + 1)) : decode code pc = .ok (.newarray .double, 2) := by
  refine zy_dec ?_
  show Except.bind ((Reader.u1 : Decoder Nat) code pc) _ = _
  rw [hA]
  show Except.bind ((Reader.u1 : Decoder Nat) code (pc + 1)) _ = _
  rw [hB]
  rfl
theorem zy_newarray_8 {code : ByteArray} {pc : Nat} (hA : (Reader.u1 : Decoder Nat) code pc = .ok (188, pc + 1)) (hB : (Reader.u1 : Decoder Nat) code (pc + 1) = .ok (8, pc + 1 + 1)) : decode code pc = .ok (.newarray .byte, 2) := by
  refine zy_dec ?_
  show Except.bind ((Reader.u1 : Decoder Nat) code pc) _ = _
  rw [hA]
  show Except.bind ((Reader.u1 : Decoder Nat) code (pc + 1)) _ = _
  rw [hB]
  rfl
theorem zy_newarray_9 {code : ByteArray} {pc : Nat} (hA : (Reader.u1 : Decoder Nat) code pc = .ok (188, pc + 1)) (hB : (Reader.u1 : Decoder Nat) code (pc + 1) = .ok (9, pc + 1 + 1)) : decode code pc = .ok (.newarray .short, 2) := by
  refine zy_dec ?_
  show Except.bind ((Reader.u1 : Decoder Nat) code pc) _ = _
  rw [hA]
  show Except.bind ((Reader.u1 : Decoder Nat) code (pc + 1)) _ = _
  rw [hB]
  rfl
theorem zy_newarray_10 {code : ByteArray} {pc : Nat} (hA : (Reader.u1 : Decoder Nat) code pc = .ok (188, pc + 1)) (hB : (Reader.u1 : Decoder Nat) code (pc + 1) = .ok (10, pc + 1 + 1)) : decode code pc = .ok (.newarray .int, 2) := by
  refine zy_dec ?_
  show Except.bind ((Reader.u1 : Decoder Nat) code pc) _ = _
  rw [hA]
  show Except.bind ((Reader.u1 : Decoder Nat) code (pc + 1)) _ = _
  rw [hB]
  rfl
theorem zy_newarray_11 {code : ByteArray} {pc : Nat} (hA : (Reader.u1 : Decoder Nat) code pc = .ok (188, pc + 1)) (hB : (Reader.u1 : Decoder Nat) code (pc + 1) = .ok (11, pc + 1 + 1)) : decode code pc = .ok (.newarray .long, 2) := by
  refine zy_dec ?_
  show Except.bind ((Reader.u1 : Decoder Nat) code pc) _ = _
  rw [hA]
  show Except.bind ((Reader.u1 : Decoder Nat) code (pc + 1)) _ = _
  rw [hB]
  rfl
theorem zy_ldc_w {code : ByteArray} {pc x : Nat} (hA : (Reader.u1 : Decoder Nat) code pc = .ok (19, pc + 1)) (hB : (Reader.u2 : Decoder Nat) code (pc + 1) = .ok (x, pc + 1 + 1 + 1)) : decode code pc = .ok (.ldc_w x, 3) := by
  refine zy_dec ?_
  show Except.bind ((Reader.u1 : Decoder Nat) code pc) _ = _
  rw [hA]
  show Except.bind ((Reader.u2 : Decoder Nat) code (pc + 1)) _ = _
  rw [hB]
  rfl
theorem zy_ldc2_w {code : ByteArray} {pc x : Nat} (hA : (Reader.u1 : Decoder Nat) code pc = .ok (20, pc + 1)) (hB : (Reader.u2 : Decoder Nat) code (pc + 1) = .ok (x, pc + 1 + 1 + 1)) : decode code pc = .ok (.ldc2_w x, 3) := by
  refine zy_dec ?_
  show Except.bind ((Reader.u1 : Decoder Nat) code pc) _ = _
  rw [hA]
  show Except.bind ((Reader.u2 : Decoder Nat) code (pc + 1)) _ = _
  rw [hB]
  rfl
theorem zy_getstatic {code : ByteArray} {pc x : Nat} (hA : (Reader.u1 : Decoder Nat) code pc = .ok (178, pc + 1)) (hB : (Reader.u2 : Decoder Nat) code (pc + 1) = .ok (x, pc + 1 + 1 + 1)) : decode code pc = .ok (.getstatic x, 3) := by
  refine zy_dec ?_
  show Except.bind ((Reader.u1 : Decoder Nat) code pc) _ = _
  rw [hA]
  show Except.bind ((Reader.u2 : Decoder Nat) code (pc + 1)) _ = _
  rw [hB]
  rfl
theorem zy_getfield {code : ByteArray} {pc x : Nat} (hA : (Reader.u1 : Decoder Nat) code pc = .ok (180, pc + 1)) (hB : (Reader.u2 : Decoder Nat) code (pc + 1) = .ok (x, pc + 1 + 1 + 1)) : decode code pc = .ok (.getfield x, 3) := by
  refine zy_dec ?_
  show Except.bind ((Reader.u1 : Decoder Nat) code pc) _ = _
  rw [hA]
  show Except.bind ((Reader.u2 : Decoder Nat) code (pc + 1)) _ = _
  rw [hB]
  rfl
theorem zy_putfield {code : ByteArray} {pc x : Nat} (hA : (Reader.u1 : Decoder Nat) code pc = .ok (181, pc + 1)) (hB : (Reader.u2 : Decoder Nat) code (pc + 1) = .ok (x, pc + 1 + 1 + 1)) : decode code pc = .ok (.putfield x, 3) := by
  refine zy_dec ?_
  show Except.bind ((Reader.u1 : Decoder Nat) code pc) _ = _
  rw [hA]
  show Except.bind ((Reader.u2 : Decoder Nat) code (pc + 1)) _ = _
  rw [hB]
  rfl
theorem zy_invokevirtual {code : ByteArray} {pc x : Nat} (hA : (Reader.u1 : Decoder Nat) code pc = .ok (182, pc + 1)) (hB : (Reader.u2 : Decoder Nat) code (pc + 1) = .ok (x, pc + 1 + 1 + 1)) : decode code pc = .ok (.invokevirtual x, 3) := by
  refine zy_dec ?_
  show Except.bind ((Reader.u1 : Decoder Nat) code pc) _ = _
  rw [hA]
  show Except.bind ((Reader.u2 : Decoder Nat) code (pc + 1)) _ = _
  rw [hB]
  rfl
theorem zy_invokespecial {code : ByteArray} {pc x : Nat} (hA : (Reader.u1 : Decoder Nat) code pc = .ok (183, pc + 1)) (hB : (Reader.u2 : Decoder Nat) code (pc + 1) = .ok (x, pc + 1 + 1 + 1)) : decode code pc = .ok (.invokespecial x, 3) := by
  refine zy_dec ?_
  show Except.bind ((Reader.u1 : Decoder Nat) code pc) _ = _
  rw [hA]
  show Except.bind ((Reader.u2 : Decoder Nat) code (pc + 1)) _ = _
  rw [hB]
  rfl
theorem zy_invokestatic {code : ByteArray} {pc x : Nat} (hA : (Reader.u1 : Decoder Nat) code pc = .ok (184, pc + 1)) (hB : (Reader.u2 : Decoder Nat) code (pc + 1) = .ok (x, pc + 1 + 1 + 1)) : decode code pc = .ok (.invokestatic x, 3) := by
  refine zy_dec ?_
  show Except.bind ((Reader.u1 : Decoder Nat) code pc) _ = _
  rw [hA]
  show Except.bind ((Reader.u2 : Decoder Nat) code (pc + 1)) _ = _
  rw [hB]
  rfl
theorem zy_new {code : ByteArray} {pc x : Nat} (hA : (Reader.u1 : Decoder Nat) code pc = .ok (187, pc + 1)) (hB : (Reader.u2 : Decoder Nat) code (pc + 1) = .ok (x, pc + 1 + 1 + 1)) : decode code pc = .ok (.new x, 3) := by
  refine zy_dec ?_
  show Except.bind ((Reader.u1 : Decoder Nat) code pc) _ = _
  rw [hA]
  show Except.bind ((Reader.u2 : Decoder Nat) code (pc + 1)) _ = _
  rw [hB]
  rfl
theorem zy_anewarray {code : ByteArray} {pc x : Nat} (hA : (Reader.u1 : Decoder Nat) code pc = .ok (189, pc + 1)) (hB : (Reader.u2 : Decoder Nat) code (pc + 1) = .ok (x, pc + 1 + 1 + 1)) : decode code pc = .ok (.anewarray x, 3) := by
  refine zy_dec ?_
  show Except.bind ((Reader.u1 : Decoder Nat) code pc) _ = _
  rw [hA]
  show Except.bind ((Reader.u2 : Decoder Nat) code (pc + 1)) _ = _
  rw [hB]
  rfl
theorem zy_sipush {code : ByteArray} {pc x : Nat} (hA : (Reader.u1 : Decoder Nat) code pc = .ok (17, pc + 1)) (hB : (Reader.u2 : Decoder Nat) code (pc + 1) = .ok (x, pc + 1 + 1 + 1)) : decode code pc = .ok (.sipush (Reader.signed 16 x), 3) := by
  refine zy_dec ?_
  show Except.bind ((Reader.u1 : Decoder Nat) code pc) _ = _
  rw [hA]
  show Except.bind ((Reader.s2 : Decoder Int) code (pc + 1)) _ = _
  rw [zy_s2 hB]
  rfl
theorem zy_goto {code : ByteArray} {pc x : Nat} (hA : (Reader.u1 : Decoder Nat) code pc = .ok (167, pc + 1)) (hB : (Reader.u2 : Decoder Nat) code (pc + 1) = .ok (x, pc + 1 + 1 + 1)) : decode code pc = .ok (.goto (Reader.signed 16 x), 3) := by
  refine zy_dec ?_
  show Except.bind ((Reader.u1 : Decoder Nat) code pc) _ = _
  rw [hA]
  show Except.bind ((Reader.s2 : Decoder Int) code (pc + 1)) _ = _
  rw [zy_s2 hB]
  rfl
theorem zy_ifnull {code : ByteArray} {pc x : Nat} (hA : (Reader.u1 : Decoder Nat) code pc = .ok (198, pc + 1)) (hB : (Reader.u2 : Decoder Nat) code (pc + 1) = .ok (x, pc + 1 + 1 + 1)) : decode code pc = .ok (.ifnull (Reader.signed 16 x), 3) := by
  refine zy_dec ?_
  show Except.bind ((Reader.u1 : Decoder Nat) code pc) _ = _
  rw [hA]
  show Except.bind ((Reader.s2 : Decoder Int) code (pc + 1)) _ = _
  rw [zy_s2 hB]
  rfl
theorem zy_ifnonnull {code : ByteArray} {pc x : Nat} (hA : (Reader.u1 : Decoder Nat) code pc = .ok (199, pc + 1)) (hB : (Reader.u2 : Decoder Nat) code (pc + 1) = .ok (x, pc + 1 + 1 + 1)) : decode code pc = .ok (.ifnonnull (Reader.signed 16 x), 3) := by
  refine zy_dec ?_
  show Except.bind ((Reader.u1 : Decoder Nat) code pc) _ = _
  rw [hA]
  show Except.bind ((Reader.s2 : Decoder Int) code (pc + 1)) _ = _
  rw [zy_s2 hB]
  rfl
theorem zy_ifCond_eq {code : ByteArray} {pc x : Nat} (hA : (Reader.u1 : Decoder Nat) code pc = .ok (153, pc + 1)) (hB : (Reader.u2 : Decoder Nat) code (pc + 1) = .ok (x, pc + 1 + 1 + 1)) : decode code pc = .ok (.ifCond .eq (Reader.signed 16 x), 3) := by
  refine zy_dec ?_
  show Except.bind ((Reader.u1 : Decoder Nat) code pc) _ = _
  rw [hA]
  show Except.bind ((Reader.s2 : Decoder Int) code (pc + 1)) _ = _
  rw [zy_s2 hB]
  rfl
theorem zy_if_icmp_eq {code : ByteArray} {pc x : Nat} (hA : (Reader.u1 : Decoder Nat) code pc = .ok (159, pc + 1)) (hB : (Reader.u2 : Decoder Nat) code (pc + 1) = .ok (x, pc + 1 + 1 + 1)) : decode code pc = .ok (.if_icmp .eq (Reader.signed 16 x), 3) := by
  refine zy_dec ?_
  show Except.bind ((Reader.u1 : Decoder Nat) code pc) _ = _
  rw [hA]
  show Except.bind ((Reader.s2 : Decoder Int) code (pc + 1)) _ = _
  rw [zy_s2 hB]
  rfl
theorem zy_ifCond_ne {code : ByteArray} {pc x : Nat} (hA : (Reader.u1 : Decoder Nat) code pc = .ok (154, pc + 1)) (hB : (Reader.u2 : Decoder Nat) code (pc + 1) = .ok (x, pc + 1 + 1 + 1)) : decode code pc = .ok (.ifCond .ne (Reader.signed 16 x), 3) := by
  refine zy_dec ?_
  show Except.bind ((Reader.u1 : Decoder Nat) code pc) _ = _
  rw [hA]
  show Except.bind ((Reader.s2 : Decoder Int) code (pc + 1)) _ = _
  rw [zy_s2 hB]
  rfl
theorem zy_if_icmp_ne {code : ByteArray} {pc x : Nat} (hA : (Reader.u1 : Decoder Nat) code pc = .ok (160, pc + 1)) (hB : (Reader.u2 : Decoder Nat) code (pc + 1) = .ok (x, pc + 1 + 1 + 1)) : decode code pc = .ok (.if_icmp .ne (Reader.signed 16 x), 3) := by
  refine zy_dec ?_
  show Except.bind ((Reader.u1 : Decoder Nat) code pc) _ = _
  rw [hA]
  show Except.bind ((Reader.s2 : Decoder Int) code (pc + 1)) _ = _
  rw [zy_s2 hB]
  rfl
theorem zy_ifCond_lt {code : ByteArray} {pc x : Nat} (hA : (Reader.u1 : Decoder Nat) code pc = .ok (155, pc + 1)) (hB : (Reader.u2 : Decoder Nat) code (pc + 1) = .ok (x, pc + 1 + 1 + 1)) : decode code pc = .ok (.ifCond .lt (Reader.signed 16 x), 3) := by
  refine zy_dec ?_
  show Except.bind ((Reader.u1 : Decoder Nat) code pc) _ = _
  rw [hA]
  show Except.bind ((Reader.s2 : Decoder Int) code (pc + 1)) _ = _
  rw [zy_s2 hB]
  rfl
theorem zy_if_icmp_lt {code : ByteArray} {pc x : Nat} (hA : (Reader.u1 : Decoder Nat) code pc = .ok (161, pc + 1)) (hB : (Reader.u2 : Decoder Nat) code (pc + 1) = .ok (x, pc + 1 + 1 + 1)) : decode code pc = .ok (.if_icmp .lt (Reader.signed 16 x), 3) := by
  refine zy_dec ?_
  show Except.bind ((Reader.u1 : Decoder Nat) code pc) _ = _
  rw [hA]
  show Except.bind ((Reader.s2 : Decoder Int) code (pc + 1)) _ = _
  rw [zy_s2 hB]
  rfl
theorem zy_ifCond_ge {code : ByteArray} {pc x : Nat} (hA : (Reader.u1 : Decoder Nat) code pc = .ok (156, pc + 1)) (hB : (Reader.u2 : Decoder Nat) code (pc + 1) = .ok (x, pc + 1 + 1 + 1)) : decode code pc = .ok (.ifCond .ge (Reader.signed 16 x), 3) := by
  refine zy_dec ?_
  show Except.bind ((Reader.u1 : Decoder Nat) code pc) _ = _
  rw [hA]
  show Except.bind ((Reader.s2 : Decoder Int) code (pc + 1)) _ = _
  rw [zy_s2 hB]
  rfl
theorem zy_if_icmp_ge {code : ByteArray} {pc x : Nat} (hA : (Reader.u1 : Decoder Nat) code pc = .ok (162, pc + 1)) (hB : (Reader.u2 : Decoder Nat) code (pc + 1) = .ok (x, pc + 1 + 1 + 1)) : decode code pc = .ok (.if_icmp .ge (Reader.signed 16 x), 3) := by
  refine zy_dec ?_
  show Except.bind ((Reader.u1 : Decoder Nat) code pc) _ = _
  rw [hA]
  show Except.bind ((Reader.s2 : Decoder Int) code (pc + 1)) _ = _
  rw [zy_s2 hB]
  rfl
theorem zy_ifCond_gt {code : ByteArray} {pc x : Nat} (hA : (Reader.u1 : Decoder Nat) code pc = .ok (157, pc + 1)) (hB : (Reader.u2 : Decoder Nat) code (pc + 1) = .ok (x, pc + 1 + 1 + 1)) : decode code pc = .ok (.ifCond .gt (Reader.signed 16 x), 3) := by
  refine zy_dec ?_
  show Except.bind ((Reader.u1 : Decoder Nat) code pc) _ = _
  rw [hA]
  show Except.bind ((Reader.s2 : Decoder Int) code (pc + 1)) _ = _
  rw [zy_s2 hB]
  rfl
theorem zy_if_icmp_gt {code : ByteArray} {pc x : Nat} (hA : (Reader.u1 : Decoder Nat) code pc = .ok (163, pc + 1)) (hB : (Reader.u2 : Decoder Nat) code (pc + 1) = .ok (x, pc + 1 + 1 + 1)) : decode code pc = .ok (.if_icmp .gt (Reader.signed 16 x), 3) := by
  refine zy_dec ?_
  show Except.bind ((Reader.u1 : Decoder Nat) code pc) _ = _
  rw [hA]
  show Except.bind ((Reader.s2 : Decoder Int) code (pc + 1)) _ = _
  rw [zy_s2 hB]
  rfl
theorem zy_ifCond_le {code : ByteArray} {pc x : Nat} (hA : (Reader.u1 : Decoder Nat) code pc = .ok (158, pc + 1)) (hB : (Reader.u2 : Decoder Nat) code (pc + 1) = .ok (x, pc + 1 + 1 + 1)) : decode code pc = .ok (.ifCond .le (Reader.signed 16 x), 3) := by
  refine zy_dec ?_
  show Except.bind ((Reader.u1 : Decoder Nat) code pc) _ = _
  rw [hA]
  show Except.bind ((Reader.s2 : Decoder Int) code (pc + 1)) _ = _
  rw [zy_s2 hB]
  rfl
theorem zy_if_icmp_le {code : ByteArray} {pc x : Nat} (hA : (Reader.u1 : Decoder Nat) code pc = .ok (164, pc + 1)) (hB : (Reader.u2 : Decoder Nat) code (pc + 1) = .ok (x, pc + 1 + 1 + 1)) : decode code pc = .ok (.if_icmp .le (Reader.signed 16 x), 3) := by
  refine zy_dec ?_
  show Except.bind ((Reader.u1 : Decoder Nat) code pc) _ = _
  rw [hA]
  show Except.bind ((Reader.s2 : Decoder Int) code (pc + 1)) _ = _
  rw [zy_s2 hB]
  rfl
theorem zy_if_acmp_eq {code : ByteArray} {pc x : Nat} (hA : (Reader.u1 : Decoder Nat) code pc = .ok (165, pc + 1)) (hB : (Reader.u2 : Decoder Nat) code (pc + 1) = .ok (x, pc + 1 + 1 + 1)) : decode code pc = .ok (.if_acmp .eq (Reader.signed 16 x), 3) := by
  refine zy_dec ?_
  show Except.bind ((Reader.u1 : Decoder Nat) code pc) _ = _
  rw [hA]
  show Except.bind ((Reader.s2 : Decoder Int) code (pc + 1)) _ = _
  rw [zy_s2 hB]
  rfl
theorem zy_if_acmp_ne {code : ByteArray} {pc x : Nat} (hA : (Reader.u1 : Decoder Nat) code pc = .ok (166, pc + 1)) (hB : (Reader.u2 : Decoder Nat) code (pc + 1) = .ok (x, pc + 1 + 1 + 1)) : decode code pc = .ok (.if_acmp .ne (Reader.signed 16 x), 3) := by
  refine zy_dec ?_
  show Except.bind ((Reader.u1 : Decoder Nat) code pc) _ = _
  rw [hA]
  show Except.bind ((Reader.s2 : Decoder Int) code (pc + 1)) _ = _
  rw [zy_s2 hB]
  rfl
theorem zy_iinc {code : ByteArray} {pc x y : Nat} (hA : (Reader.u1 : Decoder Nat) code pc = .ok (132, pc + 1)) (hB : (Reader.u1 : Decoder Nat) code (pc + 1) = .ok (x, pc + 1 + 1)) (hC : (Reader.u1 : Decoder Nat) code (pc + 1 + 1) = .ok (y, pc + 1 + 1 + 1)) : decode code pc = .ok (.iinc x (Reader.signed 8 y), 3) := by
  refine zy_dec ?_
  show Except.bind ((Reader.u1 : Decoder Nat) code pc) _ = _
  rw [hA]
  show Except.bind ((Reader.u1 : Decoder Nat) code (pc + 1)) _ = _
  rw [hB]
  show Except.bind ((Reader.s1 : Decoder Int) code (pc + 1 + 1)) _ = _
  rw [zy_s1 hC]
  rfl
def zy_co : Jvm.ClassFile.Cond → Nat
  | .eq => 0
  | .ne => 1
  | .lt => 2
  | .ge => 3
  | .gt => 4
  | .le => 5
def zy_fit (i : Instr) (a b c : Nat) : Bool := match i with
  | .aconst_null => Nat.beq a 1
  | .iaload => Nat.beq a 46
  | .laload => Nat.beq a 47
  | .aaload => Nat.beq a 50
  | .baload => Nat.beq a 51
  | .iastore => Nat.beq a 79
  | .lastore => Nat.beq a 80
  | .aastore => Nat.beq a 83
  | .bastore => Nat.beq a 84
  | .pop => Nat.beq a 87
  | .dup => Nat.beq a 89
  | .dup2 => Nat.beq a 92
  | .iadd => Nat.beq a 96
  | .ladd => Nat.beq a 97
  | .isub => Nat.beq a 100
  | .lsub => Nat.beq a 101
  | .imul => Nat.beq a 104
  | .lmul => Nat.beq a 105
  | .idiv => Nat.beq a 108
  | .irem => Nat.beq a 112
  | .ineg => Nat.beq a 116
  | .ishl => Nat.beq a 120
  | .lshl => Nat.beq a 121
  | .ishr => Nat.beq a 122
  | .iushr => Nat.beq a 124
  | .lushr => Nat.beq a 125
  | .iand => Nat.beq a 126
  | .land => Nat.beq a 127
  | .ior => Nat.beq a 128
  | .lor => Nat.beq a 129
  | .ixor => Nat.beq a 130
  | .lxor => Nat.beq a 131
  | .i2l => Nat.beq a 133
  | .l2i => Nat.beq a 136
  | .i2b => Nat.beq a 145
  | .i2c => Nat.beq a 146
  | .lcmp => Nat.beq a 148
  | .ireturn => Nat.beq a 172
  | .lreturn => Nat.beq a 173
  | .areturn => Nat.beq a 176
  | .return_ => Nat.beq a 177
  | .arraylength => Nat.beq a 190
  | .iconst n => Nat.ble 2 a && (Nat.ble a 8 && decide (n = (a : Int) - 3))
  | .lconst n => Nat.beq a (9 + n.val)
  | .iload_n n => Nat.beq a (26 + n.val)
  | .lload_n n => Nat.beq a (30 + n.val)
  | .aload_n n => Nat.beq a (42 + n.val)
  | .istore_n n => Nat.beq a (59 + n.val)
  | .lstore_n n => Nat.beq a (63 + n.val)
  | .astore_n n => Nat.beq a (75 + n.val)
  | .ldc n => Nat.beq a 18 && Nat.beq b n
  | .iload n => Nat.beq a 21 && Nat.beq b n
  | .lload n => Nat.beq a 22 && Nat.beq b n
  | .aload n => Nat.beq a 25 && Nat.beq b n
  | .istore n => Nat.beq a 54 && Nat.beq b n
  | .lstore n => Nat.beq a 55 && Nat.beq b n
  | .astore n => Nat.beq a 58 && Nat.beq b n
  | .bipush n => Nat.beq a 16 && decide (Reader.signed 8 b = n)
  | .newarray t => Nat.beq a 188 && Nat.beq b (match t with | .boolean => 4 | .char => 5 | .float => 6 | .double => 7 | .byte => 8 | .short => 9 | .int => 10 | .long => 11)
  | .ldc_w n => Nat.beq a 19 && Nat.beq (b * 256 + c) n
  | .ldc2_w n => Nat.beq a 20 && Nat.beq (b * 256 + c) n
  | .getstatic n => Nat.beq a 178 && Nat.beq (b * 256 + c) n
  | .getfield n => Nat.beq a 180 && Nat.beq (b * 256 + c) n
  | .putfield n => Nat.beq a 181 && Nat.beq (b * 256 + c) n
  | .invokevirtual n => Nat.beq a 182 && Nat.beq (b * 256 + c) n
  | .invokespecial n => Nat.beq a 183 && Nat.beq (b * 256 + c) n
  | .invokestatic n => Nat.beq a 184 && Nat.beq (b * 256 + c) n
  | .new n => Nat.beq a 187 && Nat.beq (b * 256 + c) n
  | .anewarray n => Nat.beq a 189 && Nat.beq (b * 256 + c) n
  | .sipush n => Nat.beq a 17 && decide (Reader.signed 16 (b * 256 + c) = n)
  | .goto n => Nat.beq a 167 && decide (Reader.signed 16 (b * 256 + c) = n)
  | .ifnull n => Nat.beq a 198 && decide (Reader.signed 16 (b * 256 + c) = n)
  | .ifnonnull n => Nat.beq a 199 && decide (Reader.signed 16 (b * 256 + c) = n)
  | .ifCond k n => Nat.beq a (153 + zy_co k) && decide (Reader.signed 16 (b * 256 + c) = n)
  | .if_icmp k n => Nat.beq a (159 + zy_co k) && decide (Reader.signed 16 (b * 256 + c) = n)
  | .if_acmp k n => Nat.beq a (match k with | .eq => 165 | .ne => 166) && decide (Reader.signed 16 (b * 256 + c) = n)
  | .iinc n m => Nat.beq a 132 && (Nat.beq b n && decide (Reader.signed 8 c = m))
  | _ => false
theorem zy_and {a b : Bool} (h : (a && b) = true) : a = true ∧ b = true := by
  cases a
  · cases h
  · exact ⟨rfl, h⟩
theorem zy_fit_ok {code : ByteArray} {pc a b c : Nat} {i : Instr} (hf : zy_fit i a b c = true) (hA : (Reader.u1 : Decoder Nat) code pc = .ok (a, pc + 1)) (hB : 2 ≤ zv_len i → (Reader.u1 : Decoder Nat) code (pc + 1) = .ok (b, pc + 1 + 1)) (hC : 3 ≤ zv_len i → (Reader.u1 : Decoder Nat) code (pc + 1 + 1) = .ok (c, pc + 1 + 1 + 1)) : decode code pc = .ok (i, zv_len i) := by
  cases i
  case aconst_null =>
    rw [show a = 1 from Nat.eq_of_beq_eq_true hf] at hA
    exact zy_aconst_null hA
  case iaload =>
    rw [show a = 46 from Nat.eq_of_beq_eq_true hf] at hA
    exact zy_iaload hA
  case laload =>
    rw [show a = 47 from Nat.eq_of_beq_eq_true hf] at hA
    exact zy_laload hA
  case aaload =>
    rw [show a = 50 from Nat.eq_of_beq_eq_true hf] at hA
    exact zy_aaload hA
  case baload =>
    rw [show a = 51 from Nat.eq_of_beq_eq_true hf] at hA
    exact zy_baload hA
  case iastore =>
    rw [show a = 79 from Nat.eq_of_beq_eq_true hf] at hA
    exact zy_iastore hA
  case lastore =>
    rw [show a = 80 from Nat.eq_of_beq_eq_true hf] at hA
    exact zy_lastore hA
  case aastore =>
    rw [show a = 83 from Nat.eq_of_beq_eq_true hf] at hA
    exact zy_aastore hA
  case bastore =>
    rw [show a = 84 from Nat.eq_of_beq_eq_true hf] at hA
    exact zy_bastore hA
  case pop =>
    rw [show a = 87 from Nat.eq_of_beq_eq_true hf] at hA
    exact zy_pop hA
  case dup =>
    rw [show a = 89 from Nat.eq_of_beq_eq_true hf] at hA
    exact zy_dup hA
  case dup2 =>
    rw [show a = 92 from Nat.eq_of_beq_eq_true hf] at hA
    exact zy_dup2 hA
  case iadd =>
    rw [show a = 96 from Nat.eq_of_beq_eq_true hf] at hA
    exact zy_iadd hA
  case ladd =>
    rw [show a = 97 from Nat.eq_of_beq_eq_true hf] at hA
    exact zy_ladd hA
  case isub =>
    rw [show a = 100 from Nat.eq_of_beq_eq_true hf] at hA
    exact zy_isub hA
  case lsub =>
    rw [show a = 101 from Nat.eq_of_beq_eq_true hf] at hA
    exact zy_lsub hA
  case imul =>
    rw [show a = 104 from Nat.eq_of_beq_eq_true hf] at hA
    exact zy_imul hA
  case lmul =>
    rw [show a = 105 from Nat.eq_of_beq_eq_true hf] at hA
    exact zy_lmul hA
  case idiv =>
    rw [show a = 108 from Nat.eq_of_beq_eq_true hf] at hA
    exact zy_idiv hA
  case irem =>
    rw [show a = 112 from Nat.eq_of_beq_eq_true hf] at hA
    exact zy_irem hA
  case ineg =>
    rw [show a = 116 from Nat.eq_of_beq_eq_true hf] at hA
    exact zy_ineg hA
  case ishl =>
    rw [show a = 120 from Nat.eq_of_beq_eq_true hf] at hA
    exact zy_ishl hA
  case lshl =>
    rw [show a = 121 from Nat.eq_of_beq_eq_true hf] at hA
    exact zy_lshl hA
  case ishr =>
    rw [show a = 122 from Nat.eq_of_beq_eq_true hf] at hA
    exact zy_ishr hA
  case iushr =>
    rw [show a = 124 from Nat.eq_of_beq_eq_true hf] at hA
    exact zy_iushr hA
  case lushr =>
    rw [show a = 125 from Nat.eq_of_beq_eq_true hf] at hA
    exact zy_lushr hA
  case iand =>
    rw [show a = 126 from Nat.eq_of_beq_eq_true hf] at hA
    exact zy_iand hA
  case land =>
    rw [show a = 127 from Nat.eq_of_beq_eq_true hf] at hA
    exact zy_land hA
  case ior =>
    rw [show a = 128 from Nat.eq_of_beq_eq_true hf] at hA
    exact zy_ior hA
  case lor =>
    rw [show a = 129 from Nat.eq_of_beq_eq_true hf] at hA
    exact zy_lor hA
  case ixor =>
    rw [show a = 130 from Nat.eq_of_beq_eq_true hf] at hA
    exact zy_ixor hA
  case lxor =>
    rw [show a = 131 from Nat.eq_of_beq_eq_true hf] at hA
    exact zy_lxor hA
  case i2l =>
    rw [show a = 133 from Nat.eq_of_beq_eq_true hf] at hA
    exact zy_i2l hA
  case l2i =>
    rw [show a = 136 from Nat.eq_of_beq_eq_true hf] at hA
    exact zy_l2i hA
  case i2b =>
    rw [show a = 145 from Nat.eq_of_beq_eq_true hf] at hA
    exact zy_i2b hA
  case i2c =>
    rw [show a = 146 from Nat.eq_of_beq_eq_true hf] at hA
    exact zy_i2c hA
  case lcmp =>
    rw [show a = 148 from Nat.eq_of_beq_eq_true hf] at hA
    exact zy_lcmp hA
  case ireturn =>
    rw [show a = 172 from Nat.eq_of_beq_eq_true hf] at hA
    exact zy_ireturn hA
  case lreturn =>
    rw [show a = 173 from Nat.eq_of_beq_eq_true hf] at hA
    exact zy_lreturn hA
  case areturn =>
    rw [show a = 176 from Nat.eq_of_beq_eq_true hf] at hA
    exact zy_areturn hA
  case return_ =>
    rw [show a = 177 from Nat.eq_of_beq_eq_true hf] at hA
    exact zy_return_ hA
  case arraylength =>
    rw [show a = 190 from Nat.eq_of_beq_eq_true hf] at hA
    exact zy_arraylength hA
  case iconst n =>
    obtain ⟨h1, h2⟩ := zy_and hf
    obtain ⟨h2, h3⟩ := zy_and h2
    have h1 := Nat.le_of_ble_eq_true h1
    have h2 := Nat.le_of_ble_eq_true h2
    have h3 := of_decide_eq_true h3
    have hk : a = 2 ∨ a = 3 ∨ a = 4 ∨ a = 5 ∨ a = 6 ∨ a = 7 ∨ a = 8 := by omega
    rcases hk with e | e | e | e | e | e | e
    · rw [show n = (-1) by omega]; rw [e] at hA; exact zy_iconst_0 hA
    · rw [show n = (0) by omega]; rw [e] at hA; exact zy_iconst_1 hA
    · rw [show n = (1) by omega]; rw [e] at hA; exact zy_iconst_2 hA
    · rw [show n = (2) by omega]; rw [e] at hA; exact zy_iconst_3 hA
    · rw [show n = (3) by omega]; rw [e] at hA; exact zy_iconst_4 hA
    · rw [show n = (4) by omega]; rw [e] at hA; exact zy_iconst_5 hA
    · rw [show n = (5) by omega]; rw [e] at hA; exact zy_iconst_6 hA
  case lconst n =>
    obtain ⟨v, hv⟩ := n
    have e := Nat.eq_of_beq_eq_true hf
    match v, hv, e with
    | 0, _, e => rw [show a = 9 from e] at hA; exact zy_lconst_0 hA
    | 1, _, e => rw [show a = 10 from e] at hA; exact zy_lconst_1 hA
  case iload_n n =>
    obtain ⟨v, hv⟩ := n
    have e := Nat.eq_of_beq_eq_true hf
    match v, hv, e with
    | 0, _, e => rw [show a = 26 from e] at hA; exact zy_iload_n_0 hA
    | 1, _, e => rw [show a = 27 from e] at hA; exact zy_iload_n_1 hA
    | 2, _, e => rw [show a = 28 from e] at hA; exact zy_iload_n_2 hA
    | 3, _, e => rw [show a = 29 from e] at hA; exact zy_iload_n_3 hA
  case lload_n n =>
    obtain ⟨v, hv⟩ := n
    have e := Nat.eq_of_beq_eq_true hf
    match v, hv, e with
    | 0, _, e => rw [show a = 30 from e] at hA; exact zy_lload_n_0 hA
    | 1, _, e => rw [show a = 31 from e] at hA; exact zy_lload_n_1 hA
    | 2, _, e => rw [show a = 32 from e] at hA; exact zy_lload_n_2 hA
    | 3, _, e => rw [show a = 33 from e] at hA; exact zy_lload_n_3 hA
  case aload_n n =>
    obtain ⟨v, hv⟩ := n
    have e := Nat.eq_of_beq_eq_true hf
    match v, hv, e with
    | 0, _, e => rw [show a = 42 from e] at hA; exact zy_aload_n_0 hA
    | 1, _, e => rw [show a = 43 from e] at hA; exact zy_aload_n_1 hA
    | 2, _, e => rw [show a = 44 from e] at hA; exact zy_aload_n_2 hA
    | 3, _, e => rw [show a = 45 from e] at hA; exact zy_aload_n_3 hA
  case istore_n n =>
    obtain ⟨v, hv⟩ := n
    have e := Nat.eq_of_beq_eq_true hf
    match v, hv, e with
    | 0, _, e => rw [show a = 59 from e] at hA; exact zy_istore_n_0 hA
    | 1, _, e => rw [show a = 60 from e] at hA; exact zy_istore_n_1 hA
    | 2, _, e => rw [show a = 61 from e] at hA; exact zy_istore_n_2 hA
    | 3, _, e => rw [show a = 62 from e] at hA; exact zy_istore_n_3 hA
  case lstore_n n =>
    obtain ⟨v, hv⟩ := n
    have e := Nat.eq_of_beq_eq_true hf
    match v, hv, e with
    | 0, _, e => rw [show a = 63 from e] at hA; exact zy_lstore_n_0 hA
    | 1, _, e => rw [show a = 64 from e] at hA; exact zy_lstore_n_1 hA
    | 2, _, e => rw [show a = 65 from e] at hA; exact zy_lstore_n_2 hA
    | 3, _, e => rw [show a = 66 from e] at hA; exact zy_lstore_n_3 hA
  case astore_n n =>
    obtain ⟨v, hv⟩ := n
    have e := Nat.eq_of_beq_eq_true hf
    match v, hv, e with
    | 0, _, e => rw [show a = 75 from e] at hA; exact zy_astore_n_0 hA
    | 1, _, e => rw [show a = 76 from e] at hA; exact zy_astore_n_1 hA
    | 2, _, e => rw [show a = 77 from e] at hA; exact zy_astore_n_2 hA
    | 3, _, e => rw [show a = 78 from e] at hA; exact zy_astore_n_3 hA
  case ldc n =>
    obtain ⟨h1, h2⟩ := zy_and hf
    rw [show a = 18 from Nat.eq_of_beq_eq_true h1] at hA
    rw [← Nat.eq_of_beq_eq_true h2]
    exact zy_ldc hA (hB (Nat.le_of_ble_eq_true rfl))
  case iload n =>
    obtain ⟨h1, h2⟩ := zy_and hf
    rw [show a = 21 from Nat.eq_of_beq_eq_true h1] at hA
    rw [← Nat.eq_of_beq_eq_true h2]
    exact zy_iload hA (hB (Nat.le_of_ble_eq_true rfl))
  case lload n =>
    obtain ⟨h1, h2⟩ := zy_and hf
    rw [show a = 22 from Nat.eq_of_beq_eq_true h1] at hA
    rw [← Nat.eq_of_beq_eq_true h2]
    exact zy_lload hA (hB (Nat.le_of_ble_eq_true rfl))
  case aload n =>
    obtain ⟨h1, h2⟩ := zy_and hf
    rw [show a = 25 from Nat.eq_of_beq_eq_true h1] at hA
    rw [← Nat.eq_of_beq_eq_true h2]
    exact zy_aload hA (hB (Nat.le_of_ble_eq_true rfl))
  case istore n =>
    obtain ⟨h1, h2⟩ := zy_and hf
    rw [show a = 54 from Nat.eq_of_beq_eq_true h1] at hA
    rw [← Nat.eq_of_beq_eq_true h2]
    exact zy_istore hA (hB (Nat.le_of_ble_eq_true rfl))
  case lstore n =>
    obtain ⟨h1, h2⟩ := zy_and hf
    rw [show a = 55 from Nat.eq_of_beq_eq_true h1] at hA
    rw [← Nat.eq_of_beq_eq_true h2]
    exact zy_lstore hA (hB (Nat.le_of_ble_eq_true rfl))
  case astore n =>
    obtain ⟨h1, h2⟩ := zy_and hf
    rw [show a = 58 from Nat.eq_of_beq_eq_true h1] at hA
    rw [← Nat.eq_of_beq_eq_true h2]
    exact zy_astore hA (hB (Nat.le_of_ble_eq_true rfl))
  case bipush n =>
    obtain ⟨h1, h2⟩ := zy_and hf
    rw [show a = 16 from Nat.eq_of_beq_eq_true h1] at hA
    rw [← of_decide_eq_true h2]
    exact zy_bipush hA (hB (Nat.le_of_ble_eq_true rfl))
  case newarray t =>
    obtain ⟨h1, h2⟩ := zy_and hf
    rw [show a = 188 from Nat.eq_of_beq_eq_true h1] at hA
    have hB2 := hB (Nat.le_of_ble_eq_true rfl)
    have e := Nat.eq_of_beq_eq_true h2
    cases t
    · rw [show b = 4 from e] at hB2; exact zy_newarray_4 hA hB2
    · rw [show b = 5 from e] at hB2; exact zy_newarray_5 hA hB2
    · rw [show b = 6 from e] at hB2; exact zy_newarray_6 hA hB2
    · rw [show b = 7 from e] at hB2; exact zy_newarray_7 hA hB2
    · rw [show b = 8 from e] at hB2; exact zy_newarray_8 hA hB2
    · rw [show b = 9 from e] at hB2; exact zy_newarray_9 hA hB2
    · rw [show b = 10 from e] at hB2; exact zy_newarray_10 hA hB2
    · rw [show b = 11 from e] at hB2; exact zy_newarray_11 hA hB2
  case ldc_w n =>
    obtain ⟨h1, h2⟩ := zy_and hf
    rw [show a = 19 from Nat.eq_of_beq_eq_true h1] at hA
    have hB2 := zy_u2 (hB (Nat.le_of_ble_eq_true rfl)) (hC (Nat.le_of_ble_eq_true rfl))
    rw [← Nat.eq_of_beq_eq_true h2]
    exact zy_ldc_w hA hB2
  case ldc2_w n =>
    obtain ⟨h1, h2⟩ := zy_and hf
    rw [show a = 20 from Nat.eq_of_beq_eq_true h1] at hA
    have hB2 := zy_u2 (hB (Nat.le_of_ble_eq_true rfl)) (hC (Nat.le_of_ble_eq_true rfl))
    rw [← Nat.eq_of_beq_eq_true h2]
    exact zy_ldc2_w hA hB2
  case getstatic n =>
    obtain ⟨h1, h2⟩ := zy_and hf
    rw [show a = 178 from Nat.eq_of_beq_eq_true h1] at hA
    have hB2 := zy_u2 (hB (Nat.le_of_ble_eq_true rfl)) (hC (Nat.le_of_ble_eq_true rfl))
    rw [← Nat.eq_of_beq_eq_true h2]
    exact zy_getstatic hA hB2
  case getfield n =>
    obtain ⟨h1, h2⟩ := zy_and hf
    rw [show a = 180 from Nat.eq_of_beq_eq_true h1] at hA
    have hB2 := zy_u2 (hB (Nat.le_of_ble_eq_true rfl)) (hC (Nat.le_of_ble_eq_true rfl))
    rw [← Nat.eq_of_beq_eq_true h2]
    exact zy_getfield hA hB2
  case putfield n =>
    obtain ⟨h1, h2⟩ := zy_and hf
    rw [show a = 181 from Nat.eq_of_beq_eq_true h1] at hA
    have hB2 := zy_u2 (hB (Nat.le_of_ble_eq_true rfl)) (hC (Nat.le_of_ble_eq_true rfl))
    rw [← Nat.eq_of_beq_eq_true h2]
    exact zy_putfield hA hB2
  case invokevirtual n =>
    obtain ⟨h1, h2⟩ := zy_and hf
    rw [show a = 182 from Nat.eq_of_beq_eq_true h1] at hA
    have hB2 := zy_u2 (hB (Nat.le_of_ble_eq_true rfl)) (hC (Nat.le_of_ble_eq_true rfl))
    rw [← Nat.eq_of_beq_eq_true h2]
    exact zy_invokevirtual hA hB2
  case invokespecial n =>
    obtain ⟨h1, h2⟩ := zy_and hf
    rw [show a = 183 from Nat.eq_of_beq_eq_true h1] at hA
    have hB2 := zy_u2 (hB (Nat.le_of_ble_eq_true rfl)) (hC (Nat.le_of_ble_eq_true rfl))
    rw [← Nat.eq_of_beq_eq_true h2]
    exact zy_invokespecial hA hB2
  case invokestatic n =>
    obtain ⟨h1, h2⟩ := zy_and hf
    rw [show a = 184 from Nat.eq_of_beq_eq_true h1] at hA
    have hB2 := zy_u2 (hB (Nat.le_of_ble_eq_true rfl)) (hC (Nat.le_of_ble_eq_true rfl))
    rw [← Nat.eq_of_beq_eq_true h2]
    exact zy_invokestatic hA hB2
  case new n =>
    obtain ⟨h1, h2⟩ := zy_and hf
    rw [show a = 187 from Nat.eq_of_beq_eq_true h1] at hA
    have hB2 := zy_u2 (hB (Nat.le_of_ble_eq_true rfl)) (hC (Nat.le_of_ble_eq_true rfl))
    rw [← Nat.eq_of_beq_eq_true h2]
    exact zy_new hA hB2
  case anewarray n =>
    obtain ⟨h1, h2⟩ := zy_and hf
    rw [show a = 189 from Nat.eq_of_beq_eq_true h1] at hA
    have hB2 := zy_u2 (hB (Nat.le_of_ble_eq_true rfl)) (hC (Nat.le_of_ble_eq_true rfl))
    rw [← Nat.eq_of_beq_eq_true h2]
    exact zy_anewarray hA hB2
  case sipush n =>
    obtain ⟨h1, h2⟩ := zy_and hf
    rw [show a = 17 from Nat.eq_of_beq_eq_true h1] at hA
    have hB2 := zy_u2 (hB (Nat.le_of_ble_eq_true rfl)) (hC (Nat.le_of_ble_eq_true rfl))
    rw [← of_decide_eq_true h2]
    exact zy_sipush hA hB2
  case goto n =>
    obtain ⟨h1, h2⟩ := zy_and hf
    rw [show a = 167 from Nat.eq_of_beq_eq_true h1] at hA
    have hB2 := zy_u2 (hB (Nat.le_of_ble_eq_true rfl)) (hC (Nat.le_of_ble_eq_true rfl))
    rw [← of_decide_eq_true h2]
    exact zy_goto hA hB2
  case ifnull n =>
    obtain ⟨h1, h2⟩ := zy_and hf
    rw [show a = 198 from Nat.eq_of_beq_eq_true h1] at hA
    have hB2 := zy_u2 (hB (Nat.le_of_ble_eq_true rfl)) (hC (Nat.le_of_ble_eq_true rfl))
    rw [← of_decide_eq_true h2]
    exact zy_ifnull hA hB2
  case ifnonnull n =>
    obtain ⟨h1, h2⟩ := zy_and hf
    rw [show a = 199 from Nat.eq_of_beq_eq_true h1] at hA
    have hB2 := zy_u2 (hB (Nat.le_of_ble_eq_true rfl)) (hC (Nat.le_of_ble_eq_true rfl))
    rw [← of_decide_eq_true h2]
    exact zy_ifnonnull hA hB2
  case ifCond q n =>
    obtain ⟨h1, h2⟩ := zy_and hf
    have e := Nat.eq_of_beq_eq_true h1
    have hB2 := zy_u2 (hB (Nat.le_of_ble_eq_true rfl)) (hC (Nat.le_of_ble_eq_true rfl))
    rw [← of_decide_eq_true h2]
    cases q
    · rw [show a = 153 from e] at hA; exact zy_ifCond_eq hA hB2
    · rw [show a = 154 from e] at hA; exact zy_ifCond_ne hA hB2
    · rw [show a = 155 from e] at hA; exact zy_ifCond_lt hA hB2
    · rw [show a = 156 from e] at hA; exact zy_ifCond_ge hA hB2
    · rw [show a = 157 from e] at hA; exact zy_ifCond_gt hA hB2
    · rw [show a = 158 from e] at hA; exact zy_ifCond_le hA hB2
  case if_icmp q n =>
    obtain ⟨h1, h2⟩ := zy_and hf
    have e := Nat.eq_of_beq_eq_true h1
    have hB2 := zy_u2 (hB (Nat.le_of_ble_eq_true rfl)) (hC (Nat.le_of_ble_eq_true rfl))
    rw [← of_decide_eq_true h2]
    cases q
    · rw [show a = 159 from e] at hA; exact zy_if_icmp_eq hA hB2
    · rw [show a = 160 from e] at hA; exact zy_if_icmp_ne hA hB2
    · rw [show a = 161 from e] at hA; exact zy_if_icmp_lt hA hB2
    · rw [show a = 162 from e] at hA; exact zy_if_icmp_ge hA hB2
    · rw [show a = 163 from e] at hA; exact zy_if_icmp_gt hA hB2
    · rw [show a = 164 from e] at hA; exact zy_if_icmp_le hA hB2
  case if_acmp q n =>
    obtain ⟨h1, h2⟩ := zy_and hf
    have e := Nat.eq_of_beq_eq_true h1
    have hB2 := zy_u2 (hB (Nat.le_of_ble_eq_true rfl)) (hC (Nat.le_of_ble_eq_true rfl))
    rw [← of_decide_eq_true h2]
    cases q
    · rw [show a = 165 from e] at hA; exact zy_if_acmp_eq hA hB2
    · rw [show a = 166 from e] at hA; exact zy_if_acmp_ne hA hB2
  case iinc n m =>
    obtain ⟨h1, h2⟩ := zy_and hf
    obtain ⟨h2, h3⟩ := zy_and h2
    rw [show a = 132 from Nat.eq_of_beq_eq_true h1] at hA
    rw [← Nat.eq_of_beq_eq_true h2, ← of_decide_eq_true h3]
    exact zy_iinc hA (hB (Nat.le_of_ble_eq_true rfl)) (hC (Nat.le_of_ble_eq_true rfl))
  all_goals exact absurd (show false = true from hf) (by decide)
def zy_walk (code : ByteArray) : List (Nat × Instr) → Nat → List UInt8 → Bool
  | [], _, _ => true
  | (p, i) :: l, pc, rest => Nat.beq p pc && (match zv_sw i with
    | true => (match decode code p with
      | .ok (j, len) => decide (j = i) && zy_walk code l (p + len) (rest.drop len)
      | .error _ => false)
    | false => (match zv_len i, rest with
      | 1, a :: r => zy_fit i a.toNat 0 0 && zy_walk code l (p + 1) r
      | 2, a :: b :: r => zy_fit i a.toNat b.toNat 0 && zy_walk code l (p + 2) r
      | 3, a :: b :: c :: r => zy_fit i a.toNat b.toNat c.toNat && zy_walk code l (p + 3) r
      | _, _ => false))
theorem zy_walk_ok {code : ByteArray} : ∀ (l : List (Nat × Instr)) (pc : Nat) (rest : List UInt8), zy_walk code l pc rest = true → (∀ k, rest[k]? = code.data.toList[pc + k]?) →
    ∀ q ∈ l, ∃ len, decode code q.1 = .ok (q.2, len) ∧ (len = zv_len q.2 ∨ zv_sw q.2 = true)
  | [], _, _, _, _ => fun q hq => by cases hq
  | (p, i) :: l, pc, rest, h, hr => by
    unfold zy_walk at h
    obtain ⟨h1, h2⟩ := zy_and h
    have e : p = pc := Nat.eq_of_beq_eq_true h1
    subst e
    have key : (∃ len, decode code p = .ok (i, len) ∧ (len = zv_len i ∨ zv_sw i = true)) ∧ ∀ q ∈ l, ∃ len, decode code q.1 = .ok (q.2, len) ∧ (len = zv_len q.2 ∨ zv_sw q.2 = true) := by
      have hl : ∀ n : Nat, (∀ k, (rest.drop n)[k]? = code.data.toList[p + n + k]?) := fun n k => by
        rw [List.getElem?_drop, hr, Nat.add_assoc]
      split at h2
      · rename_i hs
        split at h2
        · rename_i j len hd
          obtain ⟨h3, h4⟩ := zy_and h2
          have h3 := of_decide_eq_true h3
          subst h3
          exact ⟨⟨len, hd, Or.inr hs⟩, zy_walk_ok l _ _ h4 (hl len)⟩
        · cases h2
      · split at h2
        · rename_i a r hn
          obtain ⟨h3, h4⟩ := zy_and h2
          refine ⟨⟨_, zy_fit_ok h3 (zy_u1 (by rw [← Nat.add_zero p, ← hr]; rfl)) (fun z => absurd z (by omega)) (fun z => absurd z (by omega)), Or.inl rfl⟩, zy_walk_ok l _ _ h4 (hl 1)⟩
        · rename_i a b r hn
          obtain ⟨h3, h4⟩ := zy_and h2
          refine ⟨⟨_, zy_fit_ok h3 (zy_u1 (by rw [← Nat.add_zero p, ← hr]; rfl)) (fun _ => zy_u1 (by rw [← hr]; rfl)) (fun z => absurd z (by omega)), Or.inl rfl⟩, zy_walk_ok l _ _ h4 (hl 2)⟩
        · rename_i a b c r hn
          obtain ⟨h3, h4⟩ := zy_and h2
          refine ⟨⟨_, zy_fit_ok h3 (zy_u1 (by rw [← Nat.add_zero p, ← hr]; rfl)) (fun _ => zy_u1 (by rw [← hr]; rfl)) (fun _ => zy_u1 (by rw [Nat.add_assoc, ← hr]; rfl)), Or.inl rfl⟩, zy_walk_ok l _ _ h4 (hl 3)⟩
        · cases h2
    intro q hq
    rcases List.mem_cons.mp hq with e | hq
    · subst e
      exact key.1
    · exact key.2 q hq
def zy_chk (ci : Nat) (M : zv_M) : Bool :=
  zy_walk M.1.2.2.1 M.2.1 0 M.1.2.2.1.data.toList && ((M.2.1.all fun q => match q.2 with
    | .putfield ix => match zv_lk M.2.2.2.1 ix with
      | some f => !(zv_fin f.1 f.2.1) || (decide (M.1.2.1.name = "<init>") && (Nat.beq f.1 ci && !f.2.2))
      | none => true
    | _ => true) && Nat.ble M.1.2.2.2.1 40)
theorem zy_chk_ok {ci : Nat} {M : zv_M} (h : zy_chk ci M = true) : zv_chk ci M = true := by
  obtain ⟨h1, h2⟩ := zy_and h
  obtain ⟨h2, h3⟩ := zy_and h2
  have hw := zy_walk_ok _ _ _ h1 (fun k => by rw [Nat.zero_add])
  have h4 : (M.2.1.all fun q => match decode M.1.2.2.1 q.1 with
      | .ok (i, len) => decide (i = q.2) && (Nat.beq len (zv_len i) || zv_sw i)
      | .error _ => false) = true := by
    refine List.all_eq_true.mpr fun q hq => ?_
    obtain ⟨len, e1, e2⟩ := hw q hq
    rw [e1]
    rcases e2 with z | z
    · subst z
      show (decide (q.2 = q.2) && (Nat.beq _ _ || _)) = true
      rw [decide_eq_true rfl, Nat.beq_refl]
      rfl
    · show (decide (q.2 = q.2) && (Nat.beq _ _ || zv_sw q.2)) = true
      rw [decide_eq_true rfl, z, Bool.or_true]
      rfl
  unfold zv_chk
  simp only [Bool.and_eq_true]
  exact ⟨⟨h4, h2⟩, h3⟩
end
/-! 29.meth -/
section
theorem zk_0 : zv_chk 0 mc0_init = true := zy_chk_ok (by decide +kernel)
theorem zq_0 : zv_vM mc0_init ∧ zv_vP (some 0) mc0_init := ⟨zv_vM_of (ci := 0) rfl rfl zv_vPl_0 zk_0, rfl, (by decide +kernel), fun ci h => (by cases h; exact Or.inr ⟨_, (by decide), rfl, rfl⟩)⟩
theorem zk_1 : zv_chk 0 mc0_begin = true := zy_chk_ok (by decide +kernel)
theorem zq_1 : zv_vM mc0_begin ∧ zv_vP (some 0) mc0_begin := ⟨zv_vM_of (ci := 0) rfl rfl zv_vPl_0 zk_1, rfl, (by decide +kernel), fun ci h => (by cases h; exact Or.inr ⟨_, (by decide), rfl, rfl⟩)⟩
theorem zk_2 : zv_chk 0 mc0_startWith = true := zy_chk_ok (by decide +kernel)
theorem zq_2 : zv_vM mc0_startWith ∧ zv_vP (some 0) mc0_startWith := ⟨zv_vM_of (ci := 0) rfl rfl zv_vPl_0 zk_2, rfl, (by decide +kernel), fun ci h => (by cases h; exact Or.inr ⟨_, (by decide), rfl, rfl⟩)⟩
theorem zk_3 : zv_chk 0 mc0_at = true := zy_chk_ok (by decide +kernel)
theorem zq_3 : zv_vM mc0_at ∧ zv_vP (some 0) mc0_at := ⟨zv_vM_of (ci := 0) rfl rfl zv_vPl_0 zk_3, rfl, (by decide +kernel), fun ci h => (by cases h; exact Or.inr ⟨_, (by decide), rfl, rfl⟩)⟩
theorem zk_4 : zv_chk 0 mc0_glyph = true := zy_chk_ok (by decide +kernel)
theorem zq_4 : zv_vM mc0_glyph ∧ zv_vP (some 0) mc0_glyph := ⟨zv_vM_of (ci := 0) rfl rfl zv_vPl_0 zk_4, rfl, (by decide +kernel), fun ci h => (by cases h; exact Or.inr ⟨_, (by decide), rfl, rfl⟩)⟩
theorem zk_5 : zv_chk 0 mc0_setGlyph = true := zy_chk_ok (by decide +kernel)
theorem zq_5 : zv_vM mc0_setGlyph ∧ zv_vP (some 0) mc0_setGlyph := ⟨zv_vM_of (ci := 0) rfl rfl zv_vPl_0 zk_5, rfl, (by decide +kernel), fun ci h => (by cases h; exact Or.inr ⟨_, (by decide), rfl, rfl⟩)⟩
theorem zk_6 : zv_chk 0 mc0_letterAt = true := zy_chk_ok (by decide +kernel)
theorem zq_6 : zv_vM mc0_letterAt ∧ zv_vP (some 0) mc0_letterAt := ⟨zv_vM_of (ci := 0) rfl rfl zv_vPl_0 zk_6, rfl, (by decide +kernel), fun ci h => (by cases h; exact Or.inr ⟨_, (by decide), rfl, rfl⟩)⟩
theorem zk_7 : zv_chk 0 mc0_rowOfHere = true := zy_chk_ok (by decide +kernel)
theorem zq_7 : zv_vM mc0_rowOfHere ∧ zv_vP (some 0) mc0_rowOfHere := ⟨zv_vM_of (ci := 0) rfl rfl zv_vPl_0 zk_7, rfl, (by decide +kernel), fun ci h => (by cases h; exact Or.inr ⟨_, (by decide), rfl, rfl⟩)⟩
theorem zk_8 : zv_chk 0 mc0_leaves = true := zy_chk_ok (by decide +kernel)
theorem zq_8 : zv_vM mc0_leaves ∧ zv_vP (some 0) mc0_leaves := ⟨zv_vM_of (ci := 0) rfl rfl zv_vPl_0 zk_8, rfl, (by decide +kernel), fun ci h => (by cases h; exact Or.inr ⟨_, (by decide), rfl, rfl⟩)⟩
theorem zk_9 : zv_chk 0 mc0_groups = true := zy_chk_ok (by decide +kernel)
theorem zq_9 : zv_vM mc0_groups ∧ zv_vP (some 0) mc0_groups := ⟨zv_vM_of (ci := 0) rfl rfl zv_vPl_0 zk_9, rfl, (by decide +kernel), fun ci h => (by cases h; exact Or.inr ⟨_, (by decide), rfl, rfl⟩)⟩
theorem zk_10 : zv_chk 0 mc0_childOf = true := zy_chk_ok (by decide +kernel)
theorem zq_10 : zv_vM mc0_childOf ∧ zv_vP (some 0) mc0_childOf := ⟨zv_vM_of (ci := 0) rfl rfl zv_vPl_0 zk_10, rfl, (by decide +kernel), fun ci h => (by cases h; exact Or.inr ⟨_, (by decide), rfl, rfl⟩)⟩
theorem zk_11 : zv_chk 0 mc0_findNewest = true := zy_chk_ok (by decide +kernel)
theorem zq_11 : zv_vM mc0_findNewest ∧ zv_vP (some 0) mc0_findNewest := ⟨zv_vM_of (ci := 0) rfl rfl zv_vPl_0 zk_11, rfl, (by decide +kernel), fun ci h => (by cases h; exact Or.inr ⟨_, (by decide), rfl, rfl⟩)⟩
theorem zk_12 : zv_chk 0 mc0_newestChild = true := zy_chk_ok (by decide +kernel)
theorem zq_12 : zv_vM mc0_newestChild ∧ zv_vP (some 0) mc0_newestChild := ⟨zv_vM_of (ci := 0) rfl rfl zv_vPl_0 zk_12, rfl, (by decide +kernel), fun ci h => (by cases h; exact Or.inr ⟨_, (by decide), rfl, rfl⟩)⟩
theorem zk_13 : zv_chk 0 mc0_onLine = true := zy_chk_ok (by decide +kernel)
theorem zq_13 : zv_vM mc0_onLine ∧ zv_vP none mc0_onLine := ⟨zv_vM_of (ci := 0) rfl rfl zv_vPl_0 zk_13, rfl, (by decide +kernel), fun ci h => (by cases h)⟩
theorem zk_14 : zv_chk 0 mc0_above = true := zy_chk_ok (by decide +kernel)
theorem zq_14 : zv_vM mc0_above ∧ zv_vP none mc0_above := ⟨zv_vM_of (ci := 0) rfl rfl zv_vPl_0 zk_14, rfl, (by decide +kernel), fun ci h => (by cases h)⟩
theorem zk_15 : zv_chk 0 mc0_lettersOfHereBy = true := zy_chk_ok (by decide +kernel)
theorem zq_15 : zv_vM mc0_lettersOfHereBy ∧ zv_vP (some 0) mc0_lettersOfHereBy := ⟨zv_vM_of (ci := 0) rfl rfl zv_vPl_0 zk_15, rfl, (by decide +kernel), fun ci h => (by cases h; exact Or.inr ⟨_, (by decide), rfl, rfl⟩)⟩
theorem zk_16 : zv_chk 0 mc0_moveTo = true := zy_chk_ok (by decide +kernel)
theorem zq_16 : zv_vM mc0_moveTo ∧ zv_vP (some 0) mc0_moveTo := ⟨zv_vM_of (ci := 0) rfl rfl zv_vPl_0 zk_16, rfl, (by decide +kernel), fun ci h => (by cases h; exact Or.inr ⟨_, (by decide), rfl, rfl⟩)⟩
theorem zk_17 : zv_chk 0 mc0_grow = true := zy_chk_ok (by decide +kernel)
theorem zq_17 : zv_vM mc0_grow ∧ zv_vP (some 0) mc0_grow := ⟨zv_vM_of (ci := 0) rfl rfl zv_vPl_0 zk_17, rfl, (by decide +kernel), fun ci h => (by cases h; exact Or.inr ⟨_, (by decide), rfl, rfl⟩)⟩
theorem zk_18 : zv_chk 0 mc0_putWord = true := zy_chk_ok (by decide +kernel)
theorem zq_18 : zv_vM mc0_putWord ∧ zv_vP (some 0) mc0_putWord := ⟨zv_vM_of (ci := 0) rfl rfl zv_vPl_0 zk_18, rfl, (by decide +kernel), fun ci h => (by cases h; exact Or.inr ⟨_, (by decide), rfl, rfl⟩)⟩
theorem zk_19 : zv_chk 0 mc0_cutOut = true := zy_chk_ok (by decide +kernel)
theorem zq_19 : zv_vM mc0_cutOut ∧ zv_vP (some 0) mc0_cutOut := ⟨zv_vM_of (ci := 0) rfl rfl zv_vPl_0 zk_19, rfl, (by decide +kernel), fun ci h => (by cases h; exact Or.inr ⟨_, (by decide), rfl, rfl⟩)⟩
theorem zk_20 : zv_chk 0 mc0_baseOf = true := zy_chk_ok (by decide +kernel)
theorem zq_20 : zv_vM mc0_baseOf ∧ zv_vP none mc0_baseOf := ⟨zv_vM_of (ci := 0) rfl rfl zv_vPl_0 zk_20, rfl, (by decide +kernel), fun ci h => (by cases h)⟩
theorem zk_21 : zv_chk 0 mc0_joinGroup = true := zy_chk_ok (by decide +kernel)
theorem zq_21 : zv_vM mc0_joinGroup ∧ zv_vP (some 0) mc0_joinGroup := ⟨zv_vM_of (ci := 0) rfl rfl zv_vPl_0 zk_21, rfl, (by decide +kernel), fun ci h => (by cases h; exact Or.inr ⟨_, (by decide), rfl, rfl⟩)⟩
theorem zk_22 : zv_chk 0 mc0_isNear = true := zy_chk_ok (by decide +kernel)
theorem zq_22 : zv_vM mc0_isNear ∧ zv_vP none mc0_isNear := ⟨zv_vM_of (ci := 0) rfl rfl zv_vPl_0 zk_22, rfl, (by decide +kernel), fun ci h => (by cases h)⟩
theorem zk_23 : zv_chk 0 mc0_passTime = true := zy_chk_ok (by decide +kernel)
theorem zq_23 : zv_vM mc0_passTime ∧ zv_vP (some 0) mc0_passTime := ⟨zv_vM_of (ci := 0) rfl rfl zv_vPl_0 zk_23, rfl, (by decide +kernel), fun ci h => (by cases h; exact Or.inr ⟨_, (by decide), rfl, rfl⟩)⟩
theorem zk_24 : zv_chk 0 mc0_behind = true := zy_chk_ok (by decide +kernel)
theorem zq_24 : zv_vM mc0_behind ∧ zv_vP (some 0) mc0_behind := ⟨zv_vM_of (ci := 0) rfl rfl zv_vPl_0 zk_24, rfl, (by decide +kernel), fun ci h => (by cases h; exact Or.inr ⟨_, (by decide), rfl, rfl⟩)⟩
theorem zk_25 : zv_chk 0 mc0_stepBack = true := zy_chk_ok (by decide +kernel)
theorem zq_25 : zv_vM mc0_stepBack ∧ zv_vP (some 0) mc0_stepBack := ⟨zv_vM_of (ci := 0) rfl rfl zv_vPl_0 zk_25, rfl, (by decide +kernel), fun ci h => (by cases h; exact Or.inr ⟨_, (by decide), rfl, rfl⟩)⟩
theorem zk_26 : zv_chk 0 mc0_stepOn = true := zy_chk_ok (by decide +kernel)
theorem zq_26 : zv_vM mc0_stepOn ∧ zv_vP (some 0) mc0_stepOn := ⟨zv_vM_of (ci := 0) rfl rfl zv_vPl_0 zk_26, rfl, (by decide +kernel), fun ci h => (by cases h; exact Or.inr ⟨_, (by decide), rfl, rfl⟩)⟩
theorem zk_27 : zv_chk 0 mc0_goTo = true := zy_chk_ok (by decide +kernel)
theorem zq_27 : zv_vM mc0_goTo ∧ zv_vP (some 0) mc0_goTo := ⟨zv_vM_of (ci := 0) rfl rfl zv_vPl_0 zk_27, rfl, (by decide +kernel), fun ci h => (by cases h; exact Or.inr ⟨_, (by decide), rfl, rfl⟩)⟩
theorem zk_28 : zv_chk 0 mc0_nameHere = true := zy_chk_ok (by decide +kernel)
theorem zq_28 : zv_vM mc0_nameHere ∧ zv_vP (some 0) mc0_nameHere := ⟨zv_vM_of (ci := 0) rfl rfl zv_vPl_0 zk_28, rfl, (by decide +kernel), fun ci h => (by cases h; exact Or.inr ⟨_, (by decide), rfl, rfl⟩)⟩
theorem zk_29 : zv_chk 0 mc0_dropName = true := zy_chk_ok (by decide +kernel)
theorem zq_29 : zv_vM mc0_dropName ∧ zv_vP (some 0) mc0_dropName := ⟨zv_vM_of (ci := 0) rfl rfl zv_vPl_0 zk_29, rfl, (by decide +kernel), fun ci h => (by cases h; exact Or.inr ⟨_, (by decide), rfl, rfl⟩)⟩
theorem zk_30 : zv_chk 0 mc0_takeBack = true := zy_chk_ok (by decide +kernel)
theorem zq_30 : zv_vM mc0_takeBack ∧ zv_vP (some 0) mc0_takeBack := ⟨zv_vM_of (ci := 0) rfl rfl zv_vPl_0 zk_30, rfl, (by decide +kernel), fun ci h => (by cases h; exact Or.inr ⟨_, (by decide), rfl, rfl⟩)⟩
theorem zk_31 : zv_chk 0 mc0_giveBack = true := zy_chk_ok (by decide +kernel)
theorem zq_31 : zv_vM mc0_giveBack ∧ zv_vP (some 0) mc0_giveBack := ⟨zv_vM_of (ci := 0) rfl rfl zv_vPl_0 zk_31, rfl, (by decide +kernel), fun ci h => (by cases h; exact Or.inr ⟨_, (by decide), rfl, rfl⟩)⟩
theorem zk_32 : zv_chk 0 mc0_turn = true := zy_chk_ok (by decide +kernel)
theorem zq_32 : zv_vM mc0_turn ∧ zv_vP (some 0) mc0_turn := ⟨zv_vM_of (ci := 0) rfl rfl zv_vPl_0 zk_32, rfl, (by decide +kernel), fun ci h => (by cases h; exact Or.inr ⟨_, (by decide), rfl, rfl⟩)⟩
theorem zk_33 : zv_chk 0 mc0_carryOver = true := zy_chk_ok (by decide +kernel)
theorem zq_33 : zv_vM mc0_carryOver ∧ zv_vP (some 0) mc0_carryOver := ⟨zv_vM_of (ci := 0) rfl rfl zv_vPl_0 zk_33, rfl, (by decide +kernel), fun ci h => (by cases h; exact Or.inr ⟨_, (by decide), rfl, rfl⟩)⟩
theorem zk_34 : zv_chk 0 mc0_standForThemselves = true := zy_chk_ok (by decide +kernel)
theorem zq_34 : zv_vM mc0_standForThemselves ∧ zv_vP (some 0) mc0_standForThemselves := ⟨zv_vM_of (ci := 0) rfl rfl zv_vPl_0 zk_34, rfl, (by decide +kernel), fun ci h => (by cases h; exact Or.inr ⟨_, (by decide), rfl, rfl⟩)⟩
theorem zk_35 : zv_chk 0 mc0_standOf = true := zy_chk_ok (by decide +kernel)
theorem zq_35 : zv_vM mc0_standOf ∧ zv_vP (some 0) mc0_standOf := ⟨zv_vM_of (ci := 0) rfl rfl zv_vPl_0 zk_35, rfl, (by decide +kernel), fun ci h => (by cases h; exact Or.inr ⟨_, (by decide), rfl, rfl⟩)⟩
theorem zk_36 : zv_chk 0 mc0_carryOne = true := zy_chk_ok (by decide +kernel)
theorem zq_36 : zv_vM mc0_carryOne ∧ zv_vP (some 0) mc0_carryOne := ⟨zv_vM_of (ci := 0) rfl rfl zv_vPl_0 zk_36, rfl, (by decide +kernel), fun ci h => (by cases h; exact Or.inr ⟨_, (by decide), rfl, rfl⟩)⟩
theorem zk_37 : zv_chk 0 mc0_firstTaken = true := zy_chk_ok (by decide +kernel)
theorem zq_37 : zv_vM mc0_firstTaken ∧ zv_vP (some 0) mc0_firstTaken := ⟨zv_vM_of (ci := 0) rfl rfl zv_vPl_0 zk_37, rfl, (by decide +kernel), fun ci h => (by cases h; exact Or.inr ⟨_, (by decide), rfl, rfl⟩)⟩
theorem zk_38 : zv_chk 0 mc0_takenFrom = true := zy_chk_ok (by decide +kernel)
theorem zq_38 : zv_vM mc0_takenFrom ∧ zv_vP (some 0) mc0_takenFrom := ⟨zv_vM_of (ci := 0) rfl rfl zv_vPl_0 zk_38, rfl, (by decide +kernel), fun ci h => (by cases h; exact Or.inr ⟨_, (by decide), rfl, rfl⟩)⟩
theorem zk_39 : zv_chk 0 mc0_takes = true := zy_chk_ok (by decide +kernel)
theorem zq_39 : zv_vM mc0_takes ∧ zv_vP (some 0) mc0_takes := ⟨zv_vM_of (ci := 0) rfl rfl zv_vPl_0 zk_39, rfl, (by decide +kernel), fun ci h => (by cases h; exact Or.inr ⟨_, (by decide), rfl, rfl⟩)⟩
theorem zk_40 : zv_chk 0 mc0_mergeIn = true := zy_chk_ok (by decide +kernel)
theorem zq_40 : zv_vM mc0_mergeIn ∧ zv_vP (some 0) mc0_mergeIn := ⟨zv_vM_of (ci := 0) rfl rfl zv_vPl_0 zk_40, rfl, (by decide +kernel), fun ci h => (by cases h; exact Or.inr ⟨_, (by decide), rfl, rfl⟩)⟩
theorem zk_41 : zv_chk 0 mc0_mergeOnPaper = true := zy_chk_ok (by decide +kernel)
theorem zq_41 : zv_vM mc0_mergeOnPaper ∧ zv_vP (some 0) mc0_mergeOnPaper := ⟨zv_vM_of (ci := 0) rfl rfl zv_vPl_0 zk_41, rfl, (by decide +kernel), fun ci h => (by cases h; exact Or.inr ⟨_, (by decide), rfl, rfl⟩)⟩
theorem zk_42 : zv_chk 0 mc0_remove = true := zy_chk_ok (by decide +kernel)
theorem zq_42 : zv_vM mc0_remove ∧ zv_vP (some 0) mc0_remove := ⟨zv_vM_of (ci := 0) rfl rfl zv_vPl_0 zk_42, rfl, (by decide +kernel), fun ci h => (by cases h; exact Or.inr ⟨_, (by decide), rfl, rfl⟩)⟩
theorem zk_43 : zv_chk 0 mc0_nextToGo = true := zy_chk_ok (by decide +kernel)
theorem zq_43 : zv_vM mc0_nextToGo ∧ zv_vP (some 0) mc0_nextToGo := ⟨zv_vM_of (ci := 0) rfl rfl zv_vPl_0 zk_43, rfl, (by decide +kernel), fun ci h => (by cases h; exact Or.inr ⟨_, (by decide), rfl, rfl⟩)⟩
theorem zk_44 : zv_chk 0 mc0_pruneTo = true := zy_chk_ok (by decide +kernel)
theorem zq_44 : zv_vM mc0_pruneTo ∧ zv_vP (some 0) mc0_pruneTo := ⟨zv_vM_of (ci := 0) rfl rfl zv_vPl_0 zk_44, rfl, (by decide +kernel), fun ci h => (by cases h; exact Or.inr ⟨_, (by decide), rfl, rfl⟩)⟩
theorem zk_45 : zv_chk 0 mc0_nearest = true := zy_chk_ok (by decide +kernel)
theorem zq_45 : zv_vM mc0_nearest ∧ zv_vP none mc0_nearest := ⟨zv_vM_of (ci := 0) rfl rfl zv_vPl_0 zk_45, rfl, (by decide +kernel), fun ci h => (by cases h)⟩
theorem zk_46 : zv_chk 0 mc0_wayLength = true := zy_chk_ok (by decide +kernel)
theorem zq_46 : zv_vM mc0_wayLength ∧ zv_vP none mc0_wayLength := ⟨zv_vM_of (ci := 0) rfl rfl zv_vPl_0 zk_46, rfl, (by decide +kernel), fun ci h => (by cases h)⟩
theorem zk_47 : zv_chk 0 mc0_onWay = true := zy_chk_ok (by decide +kernel)
theorem zq_47 : zv_vM mc0_onWay ∧ zv_vP none mc0_onWay := ⟨zv_vM_of (ci := 0) rfl rfl zv_vPl_0 zk_47, rfl, (by decide +kernel), fun ci h => (by cases h)⟩
theorem zk_48 : zv_chk 0 mc0_keptOf = true := zy_chk_ok (by decide +kernel)
theorem zq_48 : zv_vM mc0_keptOf ∧ zv_vP (some 0) mc0_keptOf := ⟨zv_vM_of (ci := 0) rfl rfl zv_vPl_0 zk_48, rfl, (by decide +kernel), fun ci h => (by cases h; exact Or.inr ⟨_, (by decide), rfl, rfl⟩)⟩
theorem zk_49 : zv_chk 0 mc0_firstDifference = true := zy_chk_ok (by decide +kernel)
theorem zq_49 : zv_vM mc0_firstDifference ∧ zv_vP (some 0) mc0_firstDifference := ⟨zv_vM_of (ci := 0) rfl rfl zv_vPl_0 zk_49, rfl, (by decide +kernel), fun ci h => (by cases h; exact Or.inr ⟨_, (by decide), rfl, rfl⟩)⟩
theorem zk_50 : zv_chk 0 mc0_longestCommon = true := zy_chk_ok (by decide +kernel)
theorem zq_50 : zv_vM mc0_longestCommon ∧ zv_vP (some 0) mc0_longestCommon := ⟨zv_vM_of (ci := 0) rfl rfl zv_vPl_0 zk_50, rfl, (by decide +kernel), fun ci h => (by cases h; exact Or.inr ⟨_, (by decide), rfl, rfl⟩)⟩
theorem zk_51 : zv_chk 0 mc0_placeIn = true := zy_chk_ok (by decide +kernel)
theorem zq_51 : zv_vM mc0_placeIn ∧ zv_vP (some 0) mc0_placeIn := ⟨zv_vM_of (ci := 0) rfl rfl zv_vPl_0 zk_51, rfl, (by decide +kernel), fun ci h => (by cases h; exact Or.inr ⟨_, (by decide), rfl, rfl⟩)⟩
theorem zk_52 : zv_chk 0 mc0_leastWith = true := zy_chk_ok (by decide +kernel)
theorem zq_52 : zv_vM mc0_leastWith ∧ zv_vP (some 0) mc0_leastWith := ⟨zv_vM_of (ci := 0) rfl rfl zv_vPl_0 zk_52, rfl, (by decide +kernel), fun ci h => (by cases h; exact Or.inr ⟨_, (by decide), rfl, rfl⟩)⟩
theorem zk_53 : zv_chk 0 mc0_statesWith = true := zy_chk_ok (by decide +kernel)
theorem zq_53 : zv_vM mc0_statesWith ∧ zv_vP (some 0) mc0_statesWith := ⟨zv_vM_of (ci := 0) rfl rfl zv_vPl_0 zk_53, rfl, (by decide +kernel), fun ci h => (by cases h; exact Or.inr ⟨_, (by decide), rfl, rfl⟩)⟩
theorem zk_54 : zv_chk 0 mc0_twinOf = true := zy_chk_ok (by decide +kernel)
theorem zq_54 : zv_vM mc0_twinOf ∧ zv_vP (some 0) mc0_twinOf := ⟨zv_vM_of (ci := 0) rfl rfl zv_vPl_0 zk_54, rfl, (by decide +kernel), fun ci h => (by cases h; exact Or.inr ⟨_, (by decide), rfl, rfl⟩)⟩
theorem zk_55 : zv_chk 1 mc1_init = true := zy_chk_ok (by decide +kernel)
theorem zq_55 : zv_vM mc1_init ∧ zv_vP (some 1) mc1_init := ⟨zv_vM_of (ci := 1) rfl rfl zv_vPl_1 zk_55, rfl, (by decide +kernel), fun ci h => (by cases h; exact Or.inr ⟨_, (by decide), rfl, rfl⟩)⟩
theorem zk_56 : zv_chk 1 mc1_clear = true := zy_chk_ok (by decide +kernel)
theorem zq_56 : zv_vM mc1_clear ∧ zv_vP (some 1) mc1_clear := ⟨zv_vM_of (ci := 1) rfl rfl zv_vPl_1 zk_56, rfl, (by decide +kernel), fun ci h => (by cases h; exact Or.inr ⟨_, (by decide), rfl, rfl⟩)⟩
theorem zk_57 : zv_chk 1 mc1_usual = true := zy_chk_ok (by decide +kernel)
theorem zq_57 : zv_vM mc1_usual ∧ zv_vP (some 1) mc1_usual := ⟨zv_vM_of (ci := 1) rfl rfl zv_vPl_1 zk_57, rfl, (by decide +kernel), fun ci h => (by cases h; exact Or.inr ⟨_, (by decide), rfl, rfl⟩)⟩
theorem zk_58 : zv_chk 1 mc1_compare = true := zy_chk_ok (by decide +kernel)
theorem zq_58 : zv_vM mc1_compare ∧ zv_vP (some 1) mc1_compare := ⟨zv_vM_of (ci := 1) rfl rfl zv_vPl_1 zk_58, rfl, (by decide +kernel), fun ci h => (by cases h; exact Or.inr ⟨_, (by decide), rfl, rfl⟩)⟩
theorem zk_59 : zv_chk 1 mc1_add = true := zy_chk_ok (by decide +kernel)
theorem zq_59 : zv_vM mc1_add ∧ zv_vP (some 1) mc1_add := ⟨zv_vM_of (ci := 1) rfl rfl zv_vPl_1 zk_59, rfl, (by decide +kernel), fun ci h => (by cases h; exact Or.inr ⟨_, (by decide), rfl, rfl⟩)⟩
theorem zk_60 : zv_chk 1 mc1_set = true := zy_chk_ok (by decide +kernel)
theorem zq_60 : zv_vM mc1_set ∧ zv_vP (some 1) mc1_set := ⟨zv_vM_of (ci := 1) rfl rfl zv_vPl_1 zk_60, rfl, (by decide +kernel), fun ci h => (by cases h; exact Or.inr ⟨_, (by decide), rfl, rfl⟩)⟩
theorem zk_61 : zv_chk 1 mc1_holds = true := zy_chk_ok (by decide +kernel)
theorem zq_61 : zv_vM mc1_holds ∧ zv_vP (some 1) mc1_holds := ⟨zv_vM_of (ci := 1) rfl rfl zv_vPl_1 zk_61, rfl, (by decide +kernel), fun ci h => (by cases h; exact Or.inr ⟨_, (by decide), rfl, rfl⟩)⟩
theorem zk_62 : zv_chk 2 mc2_init = true := zy_chk_ok (by decide +kernel)
theorem zq_62 : zv_vM mc2_init ∧ zv_vP (some 2) mc2_init := ⟨zv_vM_of (ci := 2) rfl rfl zv_vPl_2 zk_62, rfl, (by decide +kernel), fun ci h => (by cases h; exact Or.inr ⟨_, (by decide), rfl, rfl⟩)⟩
theorem zk_63 : zv_chk 2 mc2_indexOf = true := zy_chk_ok (by decide +kernel)
theorem zq_63 : zv_vM mc2_indexOf ∧ zv_vP (some 2) mc2_indexOf := ⟨zv_vM_of (ci := 2) rfl rfl zv_vPl_2 zk_63, rfl, (by decide +kernel), fun ci h => (by cases h; exact Or.inr ⟨_, (by decide), rfl, rfl⟩)⟩
theorem zk_64 : zv_chk 2 mc2_keyAt = true := zy_chk_ok (by decide +kernel)
theorem zq_64 : zv_vM mc2_keyAt ∧ zv_vP (some 2) mc2_keyAt := ⟨zv_vM_of (ci := 2) rfl rfl zv_vPl_2 zk_64, rfl, (by decide +kernel), fun ci h => (by cases h; exact Or.inr ⟨_, (by decide), rfl, rfl⟩)⟩
theorem zk_65 : zv_chk 2 mc2_ownerAt = true := zy_chk_ok (by decide +kernel)
theorem zq_65 : zv_vM mc2_ownerAt ∧ zv_vP (some 2) mc2_ownerAt := ⟨zv_vM_of (ci := 2) rfl rfl zv_vPl_2 zk_65, rfl, (by decide +kernel), fun ci h => (by cases h; exact Or.inr ⟨_, (by decide), rfl, rfl⟩)⟩
theorem zk_66 : zv_chk 2 mc2_countOf = true := zy_chk_ok (by decide +kernel)
theorem zq_66 : zv_vM mc2_countOf ∧ zv_vP (some 2) mc2_countOf := ⟨zv_vM_of (ci := 2) rfl rfl zv_vPl_2 zk_66, rfl, (by decide +kernel), fun ci h => (by cases h; exact Or.inr ⟨_, (by decide), rfl, rfl⟩)⟩
theorem zk_67 : zv_chk 2 mc2_own = true := zy_chk_ok (by decide +kernel)
theorem zq_67 : zv_vM mc2_own ∧ zv_vP (some 2) mc2_own := ⟨zv_vM_of (ci := 2) rfl rfl zv_vPl_2 zk_67, rfl, (by decide +kernel), fun ci h => (by cases h; exact Or.inr ⟨_, (by decide), rfl, rfl⟩)⟩
theorem zk_68 : zv_chk 2 mc2_drop = true := zy_chk_ok (by decide +kernel)
theorem zq_68 : zv_vM mc2_drop ∧ zv_vP (some 2) mc2_drop := ⟨zv_vM_of (ci := 2) rfl rfl zv_vPl_2 zk_68, rfl, (by decide +kernel), fun ci h => (by cases h; exact Or.inr ⟨_, (by decide), rfl, rfl⟩)⟩
theorem zk_69 : zv_chk 3 mc3_init = true := zy_chk_ok (by decide +kernel)
theorem zq_69 : zv_vM mc3_init ∧ zv_vP (some 3) mc3_init := ⟨zv_vM_of (ci := 3) rfl rfl zv_vPl_3 zk_69, rfl, (by decide +kernel), fun ci h => (by cases h; exact Or.inr ⟨_, (by decide), rfl, rfl⟩)⟩
theorem zk_70 : zv_chk 3 mc3_addByte = true := zy_chk_ok (by decide +kernel)
theorem zq_70 : zv_vM mc3_addByte ∧ zv_vP (some 3) mc3_addByte := ⟨zv_vM_of (ci := 3) rfl rfl zv_vPl_3 zk_70, rfl, (by decide +kernel), fun ci h => (by cases h; exact Or.inr ⟨_, (by decide), rfl, rfl⟩)⟩
theorem zk_71 : zv_chk 3 mc3_byteAt = true := zy_chk_ok (by decide +kernel)
theorem zq_71 : zv_vM mc3_byteAt ∧ zv_vP (some 3) mc3_byteAt := ⟨zv_vM_of (ci := 3) rfl rfl zv_vPl_3 zk_71, rfl, (by decide +kernel), fun ci h => (by cases h; exact Or.inr ⟨_, (by decide), rfl, rfl⟩)⟩
theorem zk_72 : zv_chk 3 mc3_fail = true := zy_chk_ok (by decide +kernel)
theorem zq_72 : zv_vM mc3_fail ∧ zv_vP (some 3) mc3_fail := ⟨zv_vM_of (ci := 3) rfl rfl zv_vPl_3 zk_72, rfl, (by decide +kernel), fun ci h => (by cases h; exact Or.inr ⟨_, (by decide), rfl, rfl⟩)⟩
theorem zk_73 : zv_chk 3 mc3_more = true := zy_chk_ok (by decide +kernel)
theorem zq_73 : zv_vM mc3_more ∧ zv_vP (some 3) mc3_more := ⟨zv_vM_of (ci := 3) rfl rfl zv_vPl_3 zk_73, rfl, (by decide +kernel), fun ci h => (by cases h; exact Or.inr ⟨_, (by decide), rfl, rfl⟩)⟩
theorem zk_74 : zv_chk 3 mc3_begin = true := zy_chk_ok (by decide +kernel)
theorem zq_74 : zv_vM mc3_begin ∧ zv_vP (some 3) mc3_begin := ⟨zv_vM_of (ci := 3) rfl rfl zv_vPl_3 zk_74, rfl, (by decide +kernel), fun ci h => (by cases h; exact Or.inr ⟨_, (by decide), rfl, rfl⟩)⟩
theorem zk_75 : zv_chk 3 mc3_next = true := zy_chk_ok (by decide +kernel)
theorem zq_75 : zv_vM mc3_next ∧ zv_vP (some 3) mc3_next := ⟨zv_vM_of (ci := 3) rfl rfl zv_vPl_3 zk_75, rfl, (by decide +kernel), fun ci h => (by cases h; exact Or.inr ⟨_, (by decide), rfl, rfl⟩)⟩
theorem zk_76 : zv_chk 3 mc3_isSmall = true := zy_chk_ok (by decide +kernel)
theorem zq_76 : zv_vM mc3_isSmall ∧ zv_vP none mc3_isSmall := ⟨zv_vM_of (ci := 3) rfl rfl zv_vPl_3 zk_76, rfl, (by decide +kernel), fun ci h => (by cases h)⟩
theorem zk_77 : zv_chk 3 mc3_isDigit = true := zy_chk_ok (by decide +kernel)
theorem zq_77 : zv_vM mc3_isDigit ∧ zv_vP none mc3_isDigit := ⟨zv_vM_of (ci := 3) rfl rfl zv_vPl_3 zk_77, rfl, (by decide +kernel), fun ci h => (by cases h)⟩
theorem zk_78 : zv_chk 3 mc3_is = true := zy_chk_ok (by decide +kernel)
theorem zq_78 : zv_vM mc3_is ∧ zv_vP (some 3) mc3_is := ⟨zv_vM_of (ci := 3) rfl rfl zv_vPl_3 zk_78, rfl, (by decide +kernel), fun ci h => (by cases h; exact Or.inr ⟨_, (by decide), rfl, rfl⟩)⟩
theorem zk_79 : zv_chk 3 mc3_isSign = true := zy_chk_ok (by decide +kernel)
theorem zq_79 : zv_vM mc3_isSign ∧ zv_vP (some 3) mc3_isSign := ⟨zv_vM_of (ci := 3) rfl rfl zv_vPl_3 zk_79, rfl, (by decide +kernel), fun ci h => (by cases h; exact Or.inr ⟨_, (by decide), rfl, rfl⟩)⟩
theorem zk_80 : zv_chk 3 mc3_head = true := zy_chk_ok (by decide +kernel)
theorem zq_80 : zv_vM mc3_head ∧ zv_vP (some 3) mc3_head := ⟨zv_vM_of (ci := 3) rfl rfl zv_vPl_3 zk_80, rfl, (by decide +kernel), fun ci h => (by cases h; exact Or.inr ⟨_, (by decide), rfl, rfl⟩)⟩
theorem zk_81 : zv_chk 3 mc3_closed = true := zy_chk_ok (by decide +kernel)
theorem zq_81 : zv_vM mc3_closed ∧ zv_vP (some 3) mc3_closed := ⟨zv_vM_of (ci := 3) rfl rfl zv_vPl_3 zk_81, rfl, (by decide +kernel), fun ci h => (by cases h; exact Or.inr ⟨_, (by decide), rfl, rfl⟩)⟩
theorem zk_82 : zv_chk 3 mc3_spelled = true := zy_chk_ok (by decide +kernel)
theorem zq_82 : zv_vM mc3_spelled ∧ zv_vP (some 3) mc3_spelled := ⟨zv_vM_of (ci := 3) rfl rfl zv_vPl_3 zk_82, rfl, (by decide +kernel), fun ci h => (by cases h; exact Or.inr ⟨_, (by decide), rfl, rfl⟩)⟩
theorem zk_83 : zv_chk 3 mc3_test = true := zy_chk_ok (by decide +kernel)
theorem zq_83 : zv_vM mc3_test ∧ zv_vP (some 3) mc3_test := ⟨zv_vM_of (ci := 3) rfl rfl zv_vPl_3 zk_83, rfl, (by decide +kernel), fun ci h => (by cases h; exact Or.inr ⟨_, (by decide), rfl, rfl⟩)⟩
theorem zk_84 : zv_chk 3 mc3_side = true := zy_chk_ok (by decide +kernel)
theorem zq_84 : zv_vM mc3_side ∧ zv_vP (some 3) mc3_side := ⟨zv_vM_of (ci := 3) rfl rfl zv_vPl_3 zk_84, rfl, (by decide +kernel), fun ci h => (by cases h; exact Or.inr ⟨_, (by decide), rfl, rfl⟩)⟩
theorem zk_85 : zv_chk 3 mc3_fact = true := zy_chk_ok (by decide +kernel)
theorem zq_85 : zv_vM mc3_fact ∧ zv_vP (some 3) mc3_fact := ⟨zv_vM_of (ci := 3) rfl rfl zv_vPl_3 zk_85, rfl, (by decide +kernel), fun ci h => (by cases h; exact Or.inr ⟨_, (by decide), rfl, rfl⟩)⟩
theorem zk_86 : zv_chk 3 mc3_comparison = true := zy_chk_ok (by decide +kernel)
theorem zq_86 : zv_vM mc3_comparison ∧ zv_vP (some 3) mc3_comparison := ⟨zv_vM_of (ci := 3) rfl rfl zv_vPl_3 zk_86, rfl, (by decide +kernel), fun ci h => (by cases h; exact Or.inr ⟨_, (by decide), rfl, rfl⟩)⟩
theorem zk_87 : zv_chk 3 mc3_asked = true := zy_chk_ok (by decide +kernel)
theorem zq_87 : zv_vM mc3_asked ∧ zv_vP (some 3) mc3_asked := ⟨zv_vM_of (ci := 3) rfl rfl zv_vPl_3 zk_87, rfl, (by decide +kernel), fun ci h => (by cases h; exact Or.inr ⟨_, (by decide), rfl, rfl⟩)⟩
theorem zk_88 : zv_chk 3 mc3_line = true := zy_chk_ok (by decide +kernel)
theorem zq_88 : zv_vM mc3_line ∧ zv_vP (some 3) mc3_line := ⟨zv_vM_of (ci := 3) rfl rfl zv_vPl_3 zk_88, rfl, (by decide +kernel), fun ci h => (by cases h; exact Or.inr ⟨_, (by decide), rfl, rfl⟩)⟩
theorem zk_89 : zv_chk 3 mc3_verbHere = true := zy_chk_ok (by decide +kernel)
theorem zq_89 : zv_vM mc3_verbHere ∧ zv_vP (some 3) mc3_verbHere := ⟨zv_vM_of (ci := 3) rfl rfl zv_vPl_3 zk_89, rfl, (by decide +kernel), fun ci h => (by cases h; exact Or.inr ⟨_, (by decide), rfl, rfl⟩)⟩
theorem zk_90 : zv_chk 4 mc4_init = true := zy_chk_ok (by decide +kernel)
theorem zq_90 : zv_vM mc4_init ∧ zv_vP (some 4) mc4_init := ⟨zv_vM_of (ci := 4) rfl rfl zv_vPl_4 zk_90, rfl, (by decide +kernel), fun ci h => (by cases h; exact Or.inr ⟨_, (by decide), rfl, rfl⟩)⟩
theorem zk_91 : zv_chk 4 mc4_id = true := zy_chk_ok (by decide +kernel)
theorem zq_91 : zv_vM mc4_id ∧ zv_vP none mc4_id := ⟨zv_vM_of (ci := 4) rfl rfl zv_vPl_4 zk_91, rfl, (by decide +kernel), fun ci h => (by cases h)⟩
theorem zk_92 : zv_chk 4 mc4_putter = true := zy_chk_ok (by decide +kernel)
theorem zq_92 : zv_vM mc4_putter ∧ zv_vP none mc4_putter := ⟨zv_vM_of (ci := 4) rfl rfl zv_vPl_4 zk_92, rfl, (by decide +kernel), fun ci h => (by cases h)⟩
theorem zk_93 : zv_chk 4 mc4_order = true := zy_chk_ok (by decide +kernel)
theorem zq_93 : zv_vM mc4_order ∧ zv_vP none mc4_order := ⟨zv_vM_of (ci := 4) rfl rfl zv_vPl_4 zk_93, rfl, (by decide +kernel), fun ci h => (by cases h)⟩
theorem zk_94 : zv_chk 4 mc4_isId = true := zy_chk_ok (by decide +kernel)
theorem zq_94 : zv_vM mc4_isId ∧ zv_vP none mc4_isId := ⟨zv_vM_of (ci := 4) rfl rfl zv_vPl_4 zk_94, rfl, (by decide +kernel), fun ci h => (by cases h)⟩
theorem zk_95 : zv_chk 4 mc4_lay = true := zy_chk_ok (by decide +kernel)
theorem zq_95 : zv_vM mc4_lay ∧ zv_vP (some 4) mc4_lay := ⟨zv_vM_of (ci := 4) rfl rfl zv_vPl_4 zk_95, rfl, (by decide +kernel), fun ci h => (by cases h; exact Or.inr ⟨_, (by decide), rfl, rfl⟩)⟩
theorem zk_96 : zv_chk 4 mc4_walk = true := zy_chk_ok (by decide +kernel)
theorem zq_96 : zv_vM mc4_walk ∧ zv_vP (some 4) mc4_walk := ⟨zv_vM_of (ci := 4) rfl rfl zv_vPl_4 zk_96, rfl, (by decide +kernel), fun ci h => (by cases h; exact Or.inr ⟨_, (by decide), rfl, rfl⟩)⟩
theorem zk_97 : zv_chk 4 mc4_link = true := zy_chk_ok (by decide +kernel)
theorem zq_97 : zv_vM mc4_link ∧ zv_vP (some 4) mc4_link := ⟨zv_vM_of (ci := 4) rfl rfl zv_vPl_4 zk_97, rfl, (by decide +kernel), fun ci h => (by cases h; exact Or.inr ⟨_, (by decide), rfl, rfl⟩)⟩
theorem zk_98 : zv_chk 4 mc4_look = true := zy_chk_ok (by decide +kernel)
theorem zq_98 : zv_vM mc4_look ∧ zv_vP (some 4) mc4_look := ⟨zv_vM_of (ci := 4) rfl rfl zv_vPl_4 zk_98, rfl, (by decide +kernel), fun ci h => (by cases h; exact Or.inr ⟨_, (by decide), rfl, rfl⟩)⟩
theorem zk_99 : zv_chk 4 mc4_numberAt = true := zy_chk_ok (by decide +kernel)
theorem zq_99 : zv_vM mc4_numberAt ∧ zv_vP (some 4) mc4_numberAt := ⟨zv_vM_of (ci := 4) rfl rfl zv_vPl_4 zk_99, rfl, (by decide +kernel), fun ci h => (by cases h; exact Or.inr ⟨_, (by decide), rfl, rfl⟩)⟩
theorem zk_100 : zv_chk 4 mc4_idAt = true := zy_chk_ok (by decide +kernel)
theorem zq_100 : zv_vM mc4_idAt ∧ zv_vP (some 4) mc4_idAt := ⟨zv_vM_of (ci := 4) rfl rfl zv_vPl_4 zk_100, rfl, (by decide +kernel), fun ci h => (by cases h; exact Or.inr ⟨_, (by decide), rfl, rfl⟩)⟩
theorem zk_101 : zv_chk 4 mc4_seesAt = true := zy_chk_ok (by decide +kernel)
theorem zq_101 : zv_vM mc4_seesAt ∧ zv_vP (some 4) mc4_seesAt := ⟨zv_vM_of (ci := 4) rfl rfl zv_vPl_4 zk_101, rfl, (by decide +kernel), fun ci h => (by cases h; exact Or.inr ⟨_, (by decide), rfl, rfl⟩)⟩
theorem zk_102 : zv_chk 4 mc4_placeOf = true := zy_chk_ok (by decide +kernel)
theorem zq_102 : zv_vM mc4_placeOf ∧ zv_vP (some 4) mc4_placeOf := ⟨zv_vM_of (ci := 4) rfl rfl zv_vPl_4 zk_102, rfl, (by decide +kernel), fun ci h => (by cases h; exact Or.inr ⟨_, (by decide), rfl, rfl⟩)⟩
theorem zk_103 : zv_chk 4 mc4_seenUpTo = true := zy_chk_ok (by decide +kernel)
theorem zq_103 : zv_vM mc4_seenUpTo ∧ zv_vP (some 4) mc4_seenUpTo := ⟨zv_vM_of (ci := 4) rfl rfl zv_vPl_4 zk_103, rfl, (by decide +kernel), fun ci h => (by cases h; exact Or.inr ⟨_, (by decide), rfl, rfl⟩)⟩
theorem zk_104 : zv_chk 4 mc4_outOfForce = true := zy_chk_ok (by decide +kernel)
theorem zq_104 : zv_vM mc4_outOfForce ∧ zv_vP (some 4) mc4_outOfForce := ⟨zv_vM_of (ci := 4) rfl rfl zv_vPl_4 zk_104, rfl, (by decide +kernel), fun ci h => (by cases h; exact Or.inr ⟨_, (by decide), rfl, rfl⟩)⟩
theorem zk_105 : zv_chk 4 mc4_cutsInForce = true := zy_chk_ok (by decide +kernel)
theorem zq_105 : zv_vM mc4_cutsInForce ∧ zv_vP (some 4) mc4_cutsInForce := ⟨zv_vM_of (ci := 4) rfl rfl zv_vPl_4 zk_105, rfl, (by decide +kernel), fun ci h => (by cases h; exact Or.inr ⟨_, (by decide), rfl, rfl⟩)⟩
theorem zk_106 : zv_chk 4 mc4_lastCut = true := zy_chk_ok (by decide +kernel)
theorem zq_106 : zv_vM mc4_lastCut ∧ zv_vP (some 4) mc4_lastCut := ⟨zv_vM_of (ci := 4) rfl rfl zv_vPl_4 zk_106, rfl, (by decide +kernel), fun ci h => (by cases h; exact Or.inr ⟨_, (by decide), rfl, rfl⟩)⟩
theorem zk_107 : zv_chk 4 mc4_leaningOn = true := zy_chk_ok (by decide +kernel)
theorem zq_107 : zv_vM mc4_leaningOn ∧ zv_vP (some 4) mc4_leaningOn := ⟨zv_vM_of (ci := 4) rfl rfl zv_vPl_4 zk_107, rfl, (by decide +kernel), fun ci h => (by cases h; exact Or.inr ⟨_, (by decide), rfl, rfl⟩)⟩
theorem zk_108 : zv_chk 4 mc4_groundOf = true := zy_chk_ok (by decide +kernel)
theorem zq_108 : zv_vM mc4_groundOf ∧ zv_vP (some 4) mc4_groundOf := ⟨zv_vM_of (ci := 4) rfl rfl zv_vPl_4 zk_108, rfl, (by decide +kernel), fun ci h => (by cases h; exact Or.inr ⟨_, (by decide), rfl, rfl⟩)⟩
theorem zk_109 : zv_chk 5 mc5_init = true := zy_chk_ok (by decide +kernel)
theorem zq_109 : zv_vM mc5_init ∧ zv_vP (some 5) mc5_init := ⟨zv_vM_of (ci := 5) rfl rfl zv_vPl_5 zk_109, rfl, (by decide +kernel), fun ci h => (by cases h; exact Or.inr ⟨_, (by decide), rfl, rfl⟩)⟩
theorem zk_110 : zv_chk 5 mc5_open = true := zy_chk_ok (by decide +kernel)
theorem zq_110 : zv_vM mc5_open ∧ zv_vP (some 5) mc5_open := ⟨zv_vM_of (ci := 5) rfl rfl zv_vPl_5 zk_110, rfl, (by decide +kernel), fun ci h => (by cases h; exact Or.inr ⟨_, (by decide), rfl, rfl⟩)⟩
theorem zk_111 : zv_chk 5 mc5_bit = true := zy_chk_ok (by decide +kernel)
theorem zq_111 : zv_vM mc5_bit ∧ zv_vP (some 5) mc5_bit := ⟨zv_vM_of (ci := 5) rfl rfl zv_vPl_5 zk_111, rfl, (by decide +kernel), fun ci h => (by cases h; exact Or.inr ⟨_, (by decide), rfl, rfl⟩)⟩
theorem zk_112 : zv_chk 5 mc5_edits = true := zy_chk_ok (by decide +kernel)
theorem zq_112 : zv_vM mc5_edits ∧ zv_vP (some 5) mc5_edits := ⟨zv_vM_of (ci := 5) rfl rfl zv_vPl_5 zk_112, rfl, (by decide +kernel), fun ci h => (by cases h; exact Or.inr ⟨_, (by decide), rfl, rfl⟩)⟩
theorem zk_113 : zv_chk 5 mc5_brings = true := zy_chk_ok (by decide +kernel)
theorem zq_113 : zv_vM mc5_brings ∧ zv_vP (some 5) mc5_brings := ⟨zv_vM_of (ci := 5) rfl rfl zv_vPl_5 zk_113, rfl, (by decide +kernel), fun ci h => (by cases h; exact Or.inr ⟨_, (by decide), rfl, rfl⟩)⟩
theorem zk_114 : zv_chk 5 mc5_idAt = true := zy_chk_ok (by decide +kernel)
theorem zq_114 : zv_vM mc5_idAt ∧ zv_vP (some 5) mc5_idAt := ⟨zv_vM_of (ci := 5) rfl rfl zv_vPl_5 zk_114, rfl, (by decide +kernel), fun ci h => (by cases h; exact Or.inr ⟨_, (by decide), rfl, rfl⟩)⟩
theorem zk_115 : zv_chk 5 mc5_addId = true := zy_chk_ok (by decide +kernel)
theorem zq_115 : zv_vM mc5_addId ∧ zv_vP (some 5) mc5_addId := ⟨zv_vM_of (ci := 5) rfl rfl zv_vPl_5 zk_115, rfl, (by decide +kernel), fun ci h => (by cases h; exact Or.inr ⟨_, (by decide), rfl, rfl⟩)⟩
theorem zk_116 : zv_chk 5 mc5_tookAt = true := zy_chk_ok (by decide +kernel)
theorem zq_116 : zv_vM mc5_tookAt ∧ zv_vP (some 5) mc5_tookAt := ⟨zv_vM_of (ci := 5) rfl rfl zv_vPl_5 zk_116, rfl, (by decide +kernel), fun ci h => (by cases h; exact Or.inr ⟨_, (by decide), rfl, rfl⟩)⟩
theorem zk_117 : zv_chk 5 mc5_tookIt = true := zy_chk_ok (by decide +kernel)
theorem zq_117 : zv_vM mc5_tookIt ∧ zv_vP (some 5) mc5_tookIt := ⟨zv_vM_of (ci := 5) rfl rfl zv_vPl_5 zk_117, rfl, (by decide +kernel), fun ci h => (by cases h; exact Or.inr ⟨_, (by decide), rfl, rfl⟩)⟩
theorem zk_118 : zv_chk 6 mc6_init = true := zy_chk_ok (by decide +kernel)
theorem zq_118 : zv_vM mc6_init ∧ zv_vP (some 6) mc6_init := ⟨zv_vM_of (ci := 6) rfl rfl zv_vPl_6 zk_118, rfl, (by decide +kernel), fun ci h => (by cases h; exact Or.inr ⟨_, (by decide), rfl, rfl⟩)⟩
theorem zk_119 : zv_chk 6 mc6_add = true := zy_chk_ok (by decide +kernel)
theorem zq_119 : zv_vM mc6_add ∧ zv_vP (some 6) mc6_add := ⟨zv_vM_of (ci := 6) rfl rfl zv_vPl_6 zk_119, rfl, (by decide +kernel), fun ci h => (by cases h; exact Or.inr ⟨_, (by decide), rfl, rfl⟩)⟩
theorem zk_120 : zv_chk 6 mc6_slot = true := zy_chk_ok (by decide +kernel)
theorem zq_120 : zv_vM mc6_slot ∧ zv_vP (some 6) mc6_slot := ⟨zv_vM_of (ci := 6) rfl rfl zv_vPl_6 zk_120, rfl, (by decide +kernel), fun ci h => (by cases h; exact Or.inr ⟨_, (by decide), rfl, rfl⟩)⟩
theorem zk_121 : zv_chk 6 mc6_stateAt = true := zy_chk_ok (by decide +kernel)
theorem zq_121 : zv_vM mc6_stateAt ∧ zv_vP (some 6) mc6_stateAt := ⟨zv_vM_of (ci := 6) rfl rfl zv_vPl_6 zk_121, rfl, (by decide +kernel), fun ci h => (by cases h; exact Or.inr ⟨_, (by decide), rfl, rfl⟩)⟩
theorem zk_122 : zv_chk 6 mc6_timeAt = true := zy_chk_ok (by decide +kernel)
theorem zq_122 : zv_vM mc6_timeAt ∧ zv_vP (some 6) mc6_timeAt := ⟨zv_vM_of (ci := 6) rfl rfl zv_vPl_6 zk_122, rfl, (by decide +kernel), fun ci h => (by cases h; exact Or.inr ⟨_, (by decide), rfl, rfl⟩)⟩
theorem zk_123 : zv_chk 6 mc6_forget = true := zy_chk_ok (by decide +kernel)
theorem zq_123 : zv_vM mc6_forget ∧ zv_vP (some 6) mc6_forget := ⟨zv_vM_of (ci := 6) rfl rfl zv_vPl_6 zk_123, rfl, (by decide +kernel), fun ci h => (by cases h; exact Or.inr ⟨_, (by decide), rfl, rfl⟩)⟩
theorem zk_124 : zv_chk 6 mc6_keep = true := zy_chk_ok (by decide +kernel)
theorem zq_124 : zv_vM mc6_keep ∧ zv_vP (some 6) mc6_keep := ⟨zv_vM_of (ci := 6) rfl rfl zv_vPl_6 zk_124, rfl, (by decide +kernel), fun ci h => (by cases h; exact Or.inr ⟨_, (by decide), rfl, rfl⟩)⟩
theorem zk_125 : zv_chk 6 mc6_giveBack = true := zy_chk_ok (by decide +kernel)
theorem zq_125 : zv_vM mc6_giveBack ∧ zv_vP (some 6) mc6_giveBack := ⟨zv_vM_of (ci := 6) rfl rfl zv_vPl_6 zk_125, rfl, (by decide +kernel), fun ci h => (by cases h; exact Or.inr ⟨_, (by decide), rfl, rfl⟩)⟩
theorem zk_126 : zv_chk 7 mc7_init = true := zy_chk_ok (by decide +kernel)
theorem zq_126 : zv_vM mc7_init ∧ zv_vP (some 7) mc7_init := ⟨zv_vM_of (ci := 7) rfl rfl zv_vPl_7 zk_126, rfl, (by decide +kernel), fun ci h => (by cases h; exact Or.inr ⟨_, (by decide), rfl, rfl⟩)⟩
theorem zk_127 : zv_chk 7 mc7_clear = true := zy_chk_ok (by decide +kernel)
theorem zq_127 : zv_vM mc7_clear ∧ zv_vP (some 7) mc7_clear := ⟨zv_vM_of (ci := 7) rfl rfl zv_vPl_7 zk_127, rfl, (by decide +kernel), fun ci h => (by cases h; exact Or.inr ⟨_, (by decide), rfl, rfl⟩)⟩
theorem zk_128 : zv_chk 7 mc7_add = true := zy_chk_ok (by decide +kernel)
theorem zq_128 : zv_vM mc7_add ∧ zv_vP (some 7) mc7_add := ⟨zv_vM_of (ci := 7) rfl rfl zv_vPl_7 zk_128, rfl, (by decide +kernel), fun ci h => (by cases h; exact Or.inr ⟨_, (by decide), rfl, rfl⟩)⟩
theorem zk_129 : zv_chk 7 mc7_at = true := zy_chk_ok (by decide +kernel)
theorem zq_129 : zv_vM mc7_at ∧ zv_vP (some 7) mc7_at := ⟨zv_vM_of (ci := 7) rfl rfl zv_vPl_7 zk_129, rfl, (by decide +kernel), fun ci h => (by cases h; exact Or.inr ⟨_, (by decide), rfl, rfl⟩)⟩
theorem zk_130 : zv_chk 7 mc7_key = true := zy_chk_ok (by decide +kernel)
theorem zq_130 : zv_vM mc7_key ∧ zv_vP (some 7) mc7_key := ⟨zv_vM_of (ci := 7) rfl rfl zv_vPl_7 zk_130, rfl, (by decide +kernel), fun ci h => (by cases h; exact Or.inr ⟨_, (by decide), rfl, rfl⟩)⟩
theorem zk_131 : zv_chk 8 mc8_init = true := zy_chk_ok (by decide +kernel)
theorem zq_131 : zv_vM mc8_init ∧ zv_vP (some 8) mc8_init := ⟨zv_vM_of (ci := 8) rfl rfl zv_vPl_8 zk_131, rfl, (by decide +kernel), fun ci h => (by cases h; exact Or.inr ⟨_, (by decide), rfl, rfl⟩)⟩
theorem zk_132 : zv_chk 8 mc8_refused = true := zy_chk_ok (by decide +kernel)
theorem zq_132 : zv_vM mc8_refused ∧ zv_vP (some 8) mc8_refused := ⟨zv_vM_of (ci := 8) rfl rfl zv_vPl_8 zk_132, rfl, (by decide +kernel), fun ci h => (by cases h; exact Or.inr ⟨_, (by decide), rfl, rfl⟩)⟩
theorem zk_133 : zv_chk 8 mc8_given = true := zy_chk_ok (by decide +kernel)
theorem zq_133 : zv_vM mc8_given ∧ zv_vP (some 8) mc8_given := ⟨zv_vM_of (ci := 8) rfl rfl zv_vPl_8 zk_133, rfl, (by decide +kernel), fun ci h => (by cases h; exact Or.inr ⟨_, (by decide), rfl, rfl⟩)⟩
theorem zk_134 : zv_chk 8 mc8_answered = true := zy_chk_ok (by decide +kernel)
theorem zq_134 : zv_vM mc8_answered ∧ zv_vP (some 8) mc8_answered := ⟨zv_vM_of (ci := 8) rfl rfl zv_vPl_8 zk_134, rfl, (by decide +kernel), fun ci h => (by cases h; exact Or.inr ⟨_, (by decide), rfl, rfl⟩)⟩
theorem zk_135 : zv_chk 8 mc8_within = true := zy_chk_ok (by decide +kernel)
theorem zq_135 : zv_vM mc8_within ∧ zv_vP none mc8_within := ⟨zv_vM_of (ci := 8) rfl rfl zv_vPl_8 zk_135, rfl, (by decide +kernel), fun ci h => (by cases h)⟩
theorem zk_136 : zv_chk 8 mc8_status = true := zy_chk_ok (by decide +kernel)
theorem zq_136 : zv_vM mc8_status ∧ zv_vP (some 8) mc8_status := ⟨zv_vM_of (ci := 8) rfl rfl zv_vPl_8 zk_136, rfl, (by decide +kernel), fun ci h => (by cases h; exact Or.inr ⟨_, (by decide), rfl, rfl⟩)⟩
theorem zk_137 : zv_chk 8 mc8_feed = true := zy_chk_ok (by decide +kernel)
theorem zq_137 : zv_vM mc8_feed ∧ zv_vP (some 8) mc8_feed := ⟨zv_vM_of (ci := 8) rfl rfl zv_vPl_8 zk_137, rfl, (by decide +kernel), fun ci h => (by cases h; exact Or.inr ⟨_, (by decide), rfl, rfl⟩)⟩
theorem zk_138 : zv_chk 8 mc8_feedInt = true := zy_chk_ok (by decide +kernel)
theorem zq_138 : zv_vM mc8_feedInt ∧ zv_vP (some 8) mc8_feedInt := ⟨zv_vM_of (ci := 8) rfl rfl zv_vPl_8 zk_138, rfl, (by decide +kernel), fun ci h => (by cases h; exact Or.inr ⟨_, (by decide), rfl, rfl⟩)⟩
theorem zk_139 : zv_chk 8 mc8_fault = true := zy_chk_ok (by decide +kernel)
theorem zq_139 : zv_vM mc8_fault ∧ zv_vP (some 8) mc8_fault := ⟨zv_vM_of (ci := 8) rfl rfl zv_vPl_8 zk_139, rfl, (by decide +kernel), fun ci h => (by cases h; exact Or.inr ⟨_, (by decide), rfl, rfl⟩)⟩
theorem zk_140 : zv_chk 8 mc8_type = true := zy_chk_ok (by decide +kernel)
theorem zq_140 : zv_vM mc8_type ∧ zv_vP (some 8) mc8_type := ⟨zv_vM_of (ci := 8) rfl rfl zv_vPl_8 zk_140, rfl, (by decide +kernel), fun ci h => (by cases h; exact Or.inr ⟨_, (by decide), rfl, rfl⟩)⟩
theorem zk_141 : zv_chk 8 mc8_typedLetter = true := zy_chk_ok (by decide +kernel)
theorem zq_141 : zv_vM mc8_typedLetter ∧ zv_vP none mc8_typedLetter := ⟨zv_vM_of (ci := 8) rfl rfl zv_vPl_8 zk_141, rfl, (by decide +kernel), fun ci h => (by cases h)⟩
theorem zk_142 : zv_chk 8 mc8_load = true := zy_chk_ok (by decide +kernel)
theorem zq_142 : zv_vM mc8_load ∧ zv_vP (some 8) mc8_load := ⟨zv_vM_of (ci := 8) rfl rfl zv_vPl_8 zk_142, rfl, (by decide +kernel), fun ci h => (by cases h; exact Or.inr ⟨_, (by decide), rfl, rfl⟩)⟩
theorem zk_143 : zv_chk 8 mc8_done = true := zy_chk_ok (by decide +kernel)
theorem zq_143 : zv_vM mc8_done ∧ zv_vP (some 8) mc8_done := ⟨zv_vM_of (ci := 8) rfl rfl zv_vPl_8 zk_143, rfl, (by decide +kernel), fun ci h => (by cases h; exact Or.inr ⟨_, (by decide), rfl, rfl⟩)⟩
theorem zk_144 : zv_chk 8 mc8_many = true := zy_chk_ok (by decide +kernel)
theorem zq_144 : zv_vM mc8_many ∧ zv_vP (some 8) mc8_many := ⟨zv_vM_of (ci := 8) rfl rfl zv_vPl_8 zk_144, rfl, (by decide +kernel), fun ci h => (by cases h; exact Or.inr ⟨_, (by decide), rfl, rfl⟩)⟩
theorem zk_145 : zv_chk 8 mc8_letter = true := zy_chk_ok (by decide +kernel)
theorem zq_145 : zv_vM mc8_letter ∧ zv_vP (some 8) mc8_letter := ⟨zv_vM_of (ci := 8) rfl rfl zv_vPl_8 zk_145, rfl, (by decide +kernel), fun ci h => (by cases h; exact Or.inr ⟨_, (by decide), rfl, rfl⟩)⟩
theorem zk_146 : zv_chk 8 mc8_state = true := zy_chk_ok (by decide +kernel)
theorem zq_146 : zv_vM mc8_state ∧ zv_vP (some 8) mc8_state := ⟨zv_vM_of (ci := 8) rfl rfl zv_vPl_8 zk_146, rfl, (by decide +kernel), fun ci h => (by cases h; exact Or.inr ⟨_, (by decide), rfl, rfl⟩)⟩
theorem zk_147 : zv_chk 8 mc8_child = true := zy_chk_ok (by decide +kernel)
theorem zq_147 : zv_vM mc8_child ∧ zv_vP (some 8) mc8_child := ⟨zv_vM_of (ci := 8) rfl rfl zv_vPl_8 zk_147, rfl, (by decide +kernel), fun ci h => (by cases h; exact Or.inr ⟨_, (by decide), rfl, rfl⟩)⟩
theorem zk_148 : zv_chk 8 mc8_force = true := zy_chk_ok (by decide +kernel)
theorem zq_148 : zv_vM mc8_force ∧ zv_vP (some 8) mc8_force := ⟨zv_vM_of (ci := 8) rfl rfl zv_vPl_8 zk_148, rfl, (by decide +kernel), fun ci h => (by cases h; exact Or.inr ⟨_, (by decide), rfl, rfl⟩)⟩
theorem zk_149 : zv_chk 8 mc8_blame = true := zy_chk_ok (by decide +kernel)
theorem zq_149 : zv_vM mc8_blame ∧ zv_vP (some 8) mc8_blame := ⟨zv_vM_of (ci := 8) rfl rfl zv_vPl_8 zk_149, rfl, (by decide +kernel), fun ci h => (by cases h; exact Or.inr ⟨_, (by decide), rfl, rfl⟩)⟩
theorem zk_150 : zv_chk 8 mc8_row = true := zy_chk_ok (by decide +kernel)
theorem zq_150 : zv_vM mc8_row ∧ zv_vP (some 8) mc8_row := ⟨zv_vM_of (ci := 8) rfl rfl zv_vPl_8 zk_150, rfl, (by decide +kernel), fun ci h => (by cases h; exact Or.inr ⟨_, (by decide), rfl, rfl⟩)⟩
theorem zk_151 : zv_chk 8 mc8_visit = true := zy_chk_ok (by decide +kernel)
theorem zq_151 : zv_vM mc8_visit ∧ zv_vP (some 8) mc8_visit := ⟨zv_vM_of (ci := 8) rfl rfl zv_vPl_8 zk_151, rfl, (by decide +kernel), fun ci h => (by cases h; exact Or.inr ⟨_, (by decide), rfl, rfl⟩)⟩
theorem zk_152 : zv_chk 8 mc8_named = true := zy_chk_ok (by decide +kernel)
theorem zq_152 : zv_vM mc8_named ∧ zv_vP (some 8) mc8_named := ⟨zv_vM_of (ci := 8) rfl rfl zv_vPl_8 zk_152, rfl, (by decide +kernel), fun ci h => (by cases h; exact Or.inr ⟨_, (by decide), rfl, rfl⟩)⟩
theorem zk_153 : zv_chk 8 mc8_leans = true := zy_chk_ok (by decide +kernel)
theorem zq_153 : zv_vM mc8_leans ∧ zv_vP (some 8) mc8_leans := ⟨zv_vM_of (ci := 8) rfl rfl zv_vPl_8 zk_153, rfl, (by decide +kernel), fun ci h => (by cases h; exact Or.inr ⟨_, (by decide), rfl, rfl⟩)⟩
theorem zk_154 : zv_chk 8 mc8_put = true := zy_chk_ok (by decide +kernel)
theorem zq_154 : zv_vM mc8_put ∧ zv_vP (some 8) mc8_put := ⟨zv_vM_of (ci := 8) rfl rfl zv_vPl_8 zk_154, rfl, (by decide +kernel), fun ci h => (by cases h; exact Or.inr ⟨_, (by decide), rfl, rfl⟩)⟩
theorem zk_155 : zv_chk 8 mc8_cut = true := zy_chk_ok (by decide +kernel)
theorem zq_155 : zv_vM mc8_cut ∧ zv_vP (some 8) mc8_cut := ⟨zv_vM_of (ci := 8) rfl rfl zv_vPl_8 zk_155, rfl, (by decide +kernel), fun ci h => (by cases h; exact Or.inr ⟨_, (by decide), rfl, rfl⟩)⟩
theorem zk_156 : zv_chk 8 mc8_wait = true := zy_chk_ok (by decide +kernel)
theorem zq_156 : zv_vM mc8_wait ∧ zv_vP (some 8) mc8_wait := ⟨zv_vM_of (ci := 8) rfl rfl zv_vPl_8 zk_156, rfl, (by decide +kernel), fun ci h => (by cases h; exact Or.inr ⟨_, (by decide), rfl, rfl⟩)⟩
theorem zk_157 : zv_chk 8 mc8_undo = true := zy_chk_ok (by decide +kernel)
theorem zq_157 : zv_vM mc8_undo ∧ zv_vP (some 8) mc8_undo := ⟨zv_vM_of (ci := 8) rfl rfl zv_vPl_8 zk_157, rfl, (by decide +kernel), fun ci h => (by cases h; exact Or.inr ⟨_, (by decide), rfl, rfl⟩)⟩
theorem zk_158 : zv_chk 8 mc8_redo = true := zy_chk_ok (by decide +kernel)
theorem zq_158 : zv_vM mc8_redo ∧ zv_vP (some 8) mc8_redo := ⟨zv_vM_of (ci := 8) rfl rfl zv_vPl_8 zk_158, rfl, (by decide +kernel), fun ci h => (by cases h; exact Or.inr ⟨_, (by decide), rfl, rfl⟩)⟩
theorem zk_159 : zv_chk 8 mc8_go = true := zy_chk_ok (by decide +kernel)
theorem zq_159 : zv_vM mc8_go ∧ zv_vP (some 8) mc8_go := ⟨zv_vM_of (ci := 8) rfl rfl zv_vPl_8 zk_159, rfl, (by decide +kernel), fun ci h => (by cases h; exact Or.inr ⟨_, (by decide), rfl, rfl⟩)⟩
theorem zk_160 : zv_chk 8 mc8_name = true := zy_chk_ok (by decide +kernel)
theorem zq_160 : zv_vM mc8_name ∧ zv_vP (some 8) mc8_name := ⟨zv_vM_of (ci := 8) rfl rfl zv_vPl_8 zk_160, rfl, (by decide +kernel), fun ci h => (by cases h; exact Or.inr ⟨_, (by decide), rfl, rfl⟩)⟩
theorem zk_161 : zv_chk 8 mc8_unname = true := zy_chk_ok (by decide +kernel)
theorem zq_161 : zv_vM mc8_unname ∧ zv_vP (some 8) mc8_unname := ⟨zv_vM_of (ci := 8) rfl rfl zv_vPl_8 zk_161, rfl, (by decide +kernel), fun ci h => (by cases h; exact Or.inr ⟨_, (by decide), rfl, rfl⟩)⟩
theorem zk_162 : zv_chk 8 mc8_withdraw = true := zy_chk_ok (by decide +kernel)
theorem zq_162 : zv_vM mc8_withdraw ∧ zv_vP (some 8) mc8_withdraw := ⟨zv_vM_of (ci := 8) rfl rfl zv_vPl_8 zk_162, rfl, (by decide +kernel), fun ci h => (by cases h; exact Or.inr ⟨_, (by decide), rfl, rfl⟩)⟩
theorem zk_163 : zv_chk 8 mc8_restore = true := zy_chk_ok (by decide +kernel)
theorem zq_163 : zv_vM mc8_restore ∧ zv_vP (some 8) mc8_restore := ⟨zv_vM_of (ci := 8) rfl rfl zv_vPl_8 zk_163, rfl, (by decide +kernel), fun ci h => (by cases h; exact Or.inr ⟨_, (by decide), rfl, rfl⟩)⟩
theorem zk_164 : zv_chk 8 mc8_carry = true := zy_chk_ok (by decide +kernel)
theorem zq_164 : zv_vM mc8_carry ∧ zv_vP (some 8) mc8_carry := ⟨zv_vM_of (ci := 8) rfl rfl zv_vPl_8 zk_164, rfl, (by decide +kernel), fun ci h => (by cases h; exact Or.inr ⟨_, (by decide), rfl, rfl⟩)⟩
end
/-! 29b.meth -/
section
theorem zk_165 : zv_chk 8 mc8_merge = true := zy_chk_ok (by decide +kernel)
theorem zq_165 : zv_vM mc8_merge ∧ zv_vP (some 8) mc8_merge := ⟨zv_vM_of (ci := 8) rfl rfl zv_vPl_8 zk_165, rfl, (by decide +kernel), fun ci h => (by cases h; exact Or.inr ⟨_, (by decide), rfl, rfl⟩)⟩
theorem zk_166 : zv_chk 8 mc8_prune = true := zy_chk_ok (by decide +kernel)
theorem zq_166 : zv_vM mc8_prune ∧ zv_vP (some 8) mc8_prune := ⟨zv_vM_of (ci := 8) rfl rfl zv_vPl_8 zk_166, rfl, (by decide +kernel), fun ci h => (by cases h; exact Or.inr ⟨_, (by decide), rfl, rfl⟩)⟩
theorem zk_167 : zv_chk 8 mc8_common = true := zy_chk_ok (by decide +kernel)
theorem zq_167 : zv_vM mc8_common ∧ zv_vP (some 8) mc8_common := ⟨zv_vM_of (ci := 8) rfl rfl zv_vPl_8 zk_167, rfl, (by decide +kernel), fun ci h => (by cases h; exact Or.inr ⟨_, (by decide), rfl, rfl⟩)⟩
theorem zk_168 : zv_chk 8 mc8_way = true := zy_chk_ok (by decide +kernel)
theorem zq_168 : zv_vM mc8_way ∧ zv_vP (some 8) mc8_way := ⟨zv_vM_of (ci := 8) rfl rfl zv_vPl_8 zk_168, rfl, (by decide +kernel), fun ci h => (by cases h; exact Or.inr ⟨_, (by decide), rfl, rfl⟩)⟩
theorem zk_169 : zv_chk 8 mc8_between = true := zy_chk_ok (by decide +kernel)
theorem zq_169 : zv_vM mc8_between ∧ zv_vP (some 8) mc8_between := ⟨zv_vM_of (ci := 8) rfl rfl zv_vPl_8 zk_169, rfl, (by decide +kernel), fun ci h => (by cases h; exact Or.inr ⟨_, (by decide), rfl, rfl⟩)⟩
theorem zk_170 : zv_chk 8 mc8_least = true := zy_chk_ok (by decide +kernel)
theorem zq_170 : zv_vM mc8_least ∧ zv_vP (some 8) mc8_least := ⟨zv_vM_of (ci := 8) rfl rfl zv_vPl_8 zk_170, rfl, (by decide +kernel), fun ci h => (by cases h; exact Or.inr ⟨_, (by decide), rfl, rfl⟩)⟩
theorem zk_171 : zv_chk 8 mc8_merges = true := zy_chk_ok (by decide +kernel)
theorem zq_171 : zv_vM mc8_merges ∧ zv_vP (some 8) mc8_merges := ⟨zv_vM_of (ci := 8) rfl rfl zv_vPl_8 zk_171, rfl, (by decide +kernel), fun ci h => (by cases h; exact Or.inr ⟨_, (by decide), rfl, rfl⟩)⟩
theorem zk_172 : zv_chk 8 mc8_tell = true := zy_chk_ok (by decide +kernel)
theorem zq_172 : zv_vM mc8_tell ∧ zv_vP (some 8) mc8_tell := ⟨zv_vM_of (ci := 8) rfl rfl zv_vPl_8 zk_172, rfl, (by decide +kernel), fun ci h => (by cases h; exact Or.inr ⟨_, (by decide), rfl, rfl⟩)⟩
theorem zk_173 : zv_chk 8 mc8_tellDocument = true := zy_chk_ok (by decide +kernel)
theorem zq_173 : zv_vM mc8_tellDocument ∧ zv_vP (some 8) mc8_tellDocument := ⟨zv_vM_of (ci := 8) rfl rfl zv_vPl_8 zk_173, rfl, (by decide +kernel), fun ci h => (by cases h; exact Or.inr ⟨_, (by decide), rfl, rfl⟩)⟩
theorem zk_174 : zv_chk 8 mc8_tellLine = true := zy_chk_ok (by decide +kernel)
theorem zq_174 : zv_vM mc8_tellLine ∧ zv_vP (some 8) mc8_tellLine := ⟨zv_vM_of (ci := 8) rfl rfl zv_vPl_8 zk_174, rfl, (by decide +kernel), fun ci h => (by cases h; exact Or.inr ⟨_, (by decide), rfl, rfl⟩)⟩
theorem zk_175 : zv_chk 8 mc8_tellNames = true := zy_chk_ok (by decide +kernel)
theorem zq_175 : zv_vM mc8_tellNames ∧ zv_vP (some 8) mc8_tellNames := ⟨zv_vM_of (ci := 8) rfl rfl zv_vPl_8 zk_175, rfl, (by decide +kernel), fun ci h => (by cases h; exact Or.inr ⟨_, (by decide), rfl, rfl⟩)⟩
theorem zk_176 : zv_chk 8 mc8_tellNumber = true := zy_chk_ok (by decide +kernel)
theorem zq_176 : zv_vM mc8_tellNumber ∧ zv_vP (some 8) mc8_tellNumber := ⟨zv_vM_of (ci := 8) rfl rfl zv_vPl_8 zk_176, rfl, (by decide +kernel), fun ci h => (by cases h; exact Or.inr ⟨_, (by decide), rfl, rfl⟩)⟩
theorem zk_177 : zv_chk 8 mc8_tellByte = true := zy_chk_ok (by decide +kernel)
theorem zq_177 : zv_vM mc8_tellByte ∧ zv_vP (some 8) mc8_tellByte := ⟨zv_vM_of (ci := 8) rfl rfl zv_vPl_8 zk_177, rfl, (by decide +kernel), fun ci h => (by cases h; exact Or.inr ⟨_, (by decide), rfl, rfl⟩)⟩
theorem zk_178 : zv_chk 8 mc8_out = true := zy_chk_ok (by decide +kernel)
theorem zq_178 : zv_vM mc8_out ∧ zv_vP (some 8) mc8_out := ⟨zv_vM_of (ci := 8) rfl rfl zv_vPl_8 zk_178, rfl, (by decide +kernel), fun ci h => (by cases h; exact Or.inr ⟨_, (by decide), rfl, rfl⟩)⟩
theorem zk_179 : zv_chk 8 mc8_leaning = true := zy_chk_ok (by decide +kernel)
theorem zq_179 : zv_vM mc8_leaning ∧ zv_vP (some 8) mc8_leaning := ⟨zv_vM_of (ci := 8) rfl rfl zv_vPl_8 zk_179, rfl, (by decide +kernel), fun ci h => (by cases h; exact Or.inr ⟨_, (by decide), rfl, rfl⟩)⟩
theorem zk_180 : zv_chk 8 mc8_find = true := zy_chk_ok (by decide +kernel)
theorem zq_180 : zv_vM mc8_find ∧ zv_vP (some 8) mc8_find := ⟨zv_vM_of (ci := 8) rfl rfl zv_vPl_8 zk_180, rfl, (by decide +kernel), fun ci h => (by cases h; exact Or.inr ⟨_, (by decide), rfl, rfl⟩)⟩
theorem zk_181 : zv_chk 8 mc8_first = true := zy_chk_ok (by decide +kernel)
theorem zq_181 : zv_vM mc8_first ∧ zv_vP (some 8) mc8_first := ⟨zv_vM_of (ci := 8) rfl rfl zv_vPl_8 zk_181, rfl, (by decide +kernel), fun ci h => (by cases h; exact Or.inr ⟨_, (by decide), rfl, rfl⟩)⟩
theorem zk_182 : zv_chk 8 mc8_twin = true := zy_chk_ok (by decide +kernel)
theorem zq_182 : zv_vM mc8_twin ∧ zv_vP (some 8) mc8_twin := ⟨zv_vM_of (ci := 8) rfl rfl zv_vPl_8 zk_182, rfl, (by decide +kernel), fun ci h => (by cases h; exact Or.inr ⟨_, (by decide), rfl, rfl⟩)⟩
theorem zk_183 : zv_chk 8 mc8_back = true := zy_chk_ok (by decide +kernel)
theorem zq_183 : zv_vM mc8_back ∧ zv_vP (some 8) mc8_back := ⟨zv_vM_of (ci := 8) rfl rfl zv_vPl_8 zk_183, rfl, (by decide +kernel), fun ci h => (by cases h; exact Or.inr ⟨_, (by decide), rfl, rfl⟩)⟩
theorem zk_184 : zv_chk 9 mc9_init = true := zy_chk_ok (by decide +kernel)
theorem zq_184 : zv_vM mc9_init ∧ zv_vP (some 9) mc9_init := ⟨zv_vM_of (ci := 9) rfl rfl zv_vPl_9 zk_184, rfl, (by decide +kernel), fun ci h => (by cases h; exact Or.inr ⟨_, (by decide), rfl, rfl⟩)⟩
theorem zk_185 : zv_chk 9 mc9_status = true := zy_chk_ok (by decide +kernel)
theorem zq_185 : zv_vM mc9_status ∧ zv_vP (some 9) mc9_status := ⟨zv_vM_of (ci := 9) rfl rfl zv_vPl_9 zk_185, rfl, (by decide +kernel), fun ci h => (by cases h; exact Or.inr ⟨_, (by decide), rfl, rfl⟩)⟩
theorem zk_186 : zv_chk 9 mc9_refuse = true := zy_chk_ok (by decide +kernel)
theorem zq_186 : zv_vM mc9_refuse ∧ zv_vP (some 9) mc9_refuse := ⟨zv_vM_of (ci := 9) rfl rfl zv_vPl_9 zk_186, rfl, (by decide +kernel), fun ci h => (by cases h; exact Or.inr ⟨_, (by decide), rfl, rfl⟩)⟩
theorem zk_187 : zv_chk 9 mc9_is = true := zy_chk_ok (by decide +kernel)
theorem zq_187 : zv_vM mc9_is ∧ zv_vP (some 9) mc9_is := ⟨zv_vM_of (ci := 9) rfl rfl zv_vPl_9 zk_187, rfl, (by decide +kernel), fun ci h => (by cases h; exact Or.inr ⟨_, (by decide), rfl, rfl⟩)⟩
theorem zk_188 : zv_chk 9 mc9_isIn = true := zy_chk_ok (by decide +kernel)
theorem zq_188 : zv_vM mc9_isIn ∧ zv_vP none mc9_isIn := ⟨zv_vM_of (ci := 9) rfl rfl zv_vPl_9 zk_188, rfl, (by decide +kernel), fun ci h => (by cases h)⟩
theorem zk_189 : zv_chk 9 mc9_clears = true := zy_chk_ok (by decide +kernel)
theorem zq_189 : zv_vM mc9_clears ∧ zv_vP (some 9) mc9_clears := ⟨zv_vM_of (ci := 9) rfl rfl zv_vPl_9 zk_189, rfl, (by decide +kernel), fun ci h => (by cases h; exact Or.inr ⟨_, (by decide), rfl, rfl⟩)⟩
theorem zk_190 : zv_chk 9 mc9_of = true := zy_chk_ok (by decide +kernel)
theorem zq_190 : zv_vM mc9_of ∧ zv_vP (some 9) mc9_of := ⟨zv_vM_of (ci := 9) rfl rfl zv_vPl_9 zk_190, rfl, (by decide +kernel), fun ci h => (by cases h; exact Or.inr ⟨_, (by decide), rfl, rfl⟩)⟩
theorem zk_191 : zv_chk 9 mc9_sets = true := zy_chk_ok (by decide +kernel)
theorem zq_191 : zv_vM mc9_sets ∧ zv_vP (some 9) mc9_sets := ⟨zv_vM_of (ci := 9) rfl rfl zv_vPl_9 zk_191, rfl, (by decide +kernel), fun ci h => (by cases h; exact Or.inr ⟨_, (by decide), rfl, rfl⟩)⟩
theorem zk_192 : zv_chk 9 mc9_isState = true := zy_chk_ok (by decide +kernel)
theorem zq_192 : zv_vM mc9_isState ∧ zv_vP (some 9) mc9_isState := ⟨zv_vM_of (ci := 9) rfl rfl zv_vPl_9 zk_192, rfl, (by decide +kernel), fun ci h => (by cases h; exact Or.inr ⟨_, (by decide), rfl, rfl⟩)⟩
theorem zk_193 : zv_chk 9 mc9_isEdit = true := zy_chk_ok (by decide +kernel)
theorem zq_193 : zv_vM mc9_isEdit ∧ zv_vP (some 9) mc9_isEdit := ⟨zv_vM_of (ci := 9) rfl rfl zv_vPl_9 zk_193, rfl, (by decide +kernel), fun ci h => (by cases h; exact Or.inr ⟨_, (by decide), rfl, rfl⟩)⟩
theorem zk_194 : zv_chk 9 mc9_here = true := zy_chk_ok (by decide +kernel)
theorem zq_194 : zv_vM mc9_here ∧ zv_vP (some 9) mc9_here := ⟨zv_vM_of (ci := 9) rfl rfl zv_vPl_9 zk_194, rfl, (by decide +kernel), fun ci h => (by cases h; exact Or.inr ⟨_, (by decide), rfl, rfl⟩)⟩
theorem zk_195 : zv_chk 9 mc9_states = true := zy_chk_ok (by decide +kernel)
theorem zq_195 : zv_vM mc9_states ∧ zv_vP (some 9) mc9_states := ⟨zv_vM_of (ci := 9) rfl rfl zv_vPl_9 zk_195, rfl, (by decide +kernel), fun ci h => (by cases h; exact Or.inr ⟨_, (by decide), rfl, rfl⟩)⟩
theorem zk_196 : zv_chk 9 mc9_names = true := zy_chk_ok (by decide +kernel)
theorem zq_196 : zv_vM mc9_names ∧ zv_vP (some 9) mc9_names := ⟨zv_vM_of (ci := 9) rfl rfl zv_vPl_9 zk_196, rfl, (by decide +kernel), fun ci h => (by cases h; exact Or.inr ⟨_, (by decide), rfl, rfl⟩)⟩
theorem zk_197 : zv_chk 9 mc9_namesToo = true := zy_chk_ok (by decide +kernel)
theorem zq_197 : zv_vM mc9_namesToo ∧ zv_vP (some 9) mc9_namesToo := ⟨zv_vM_of (ci := 9) rfl rfl zv_vPl_9 zk_197, rfl, (by decide +kernel), fun ci h => (by cases h; exact Or.inr ⟨_, (by decide), rfl, rfl⟩)⟩
theorem zk_198 : zv_chk 9 mc9_isOfLine = true := zy_chk_ok (by decide +kernel)
theorem zq_198 : zv_vM mc9_isOfLine ∧ zv_vP (some 9) mc9_isOfLine := ⟨zv_vM_of (ci := 9) rfl rfl zv_vPl_9 zk_198, rfl, (by decide +kernel), fun ci h => (by cases h; exact Or.inr ⟨_, (by decide), rfl, rfl⟩)⟩
theorem zk_199 : zv_chk 9 mc9_depthOf = true := zy_chk_ok (by decide +kernel)
theorem zq_199 : zv_vM mc9_depthOf ∧ zv_vP (some 9) mc9_depthOf := ⟨zv_vM_of (ci := 9) rfl rfl zv_vPl_9 zk_199, rfl, (by decide +kernel), fun ci h => (by cases h; exact Or.inr ⟨_, (by decide), rfl, rfl⟩)⟩
theorem zk_200 : zv_chk 9 mc9_rowOf = true := zy_chk_ok (by decide +kernel)
theorem zq_200 : zv_vM mc9_rowOf ∧ zv_vP (some 9) mc9_rowOf := ⟨zv_vM_of (ci := 9) rfl rfl zv_vPl_9 zk_200, rfl, (by decide +kernel), fun ci h => (by cases h; exact Or.inr ⟨_, (by decide), rfl, rfl⟩)⟩
theorem zk_201 : zv_chk 9 mc9_letsIn = true := zy_chk_ok (by decide +kernel)
theorem zq_201 : zv_vM mc9_letsIn ∧ zv_vP (some 9) mc9_letsIn := ⟨zv_vM_of (ci := 9) rfl rfl zv_vPl_9 zk_201, rfl, (by decide +kernel), fun ci h => (by cases h; exact Or.inr ⟨_, (by decide), rfl, rfl⟩)⟩
theorem zk_202 : zv_chk 9 mc9_turns = true := zy_chk_ok (by decide +kernel)
theorem zq_202 : zv_vM mc9_turns ∧ zv_vP (some 9) mc9_turns := ⟨zv_vM_of (ci := 9) rfl rfl zv_vPl_9 zk_202, rfl, (by decide +kernel), fun ci h => (by cases h; exact Or.inr ⟨_, (by decide), rfl, rfl⟩)⟩
theorem zk_203 : zv_chk 9 mc9_sees = true := zy_chk_ok (by decide +kernel)
theorem zq_203 : zv_vM mc9_sees ∧ zv_vP (some 9) mc9_sees := ⟨zv_vM_of (ci := 9) rfl rfl zv_vPl_9 zk_203, rfl, (by decide +kernel), fun ci h => (by cases h; exact Or.inr ⟨_, (by decide), rfl, rfl⟩)⟩
theorem zk_204 : zv_chk 9 mc9_rowPlace = true := zy_chk_ok (by decide +kernel)
theorem zq_204 : zv_vM mc9_rowPlace ∧ zv_vP (some 9) mc9_rowPlace := ⟨zv_vM_of (ci := 9) rfl rfl zv_vPl_9 zk_204, rfl, (by decide +kernel), fun ci h => (by cases h; exact Or.inr ⟨_, (by decide), rfl, rfl⟩)⟩
theorem zk_205 : zv_chk 9 mc9_letterIn = true := zy_chk_ok (by decide +kernel)
theorem zq_205 : zv_vM mc9_letterIn ∧ zv_vP (some 9) mc9_letterIn := ⟨zv_vM_of (ci := 9) rfl rfl zv_vPl_9 zk_205, rfl, (by decide +kernel), fun ci h => (by cases h; exact Or.inr ⟨_, (by decide), rfl, rfl⟩)⟩
theorem zk_206 : zv_chk 9 mc9_lettersOf = true := zy_chk_ok (by decide +kernel)
theorem zq_206 : zv_vM mc9_lettersOf ∧ zv_vP (some 9) mc9_lettersOf := ⟨zv_vM_of (ci := 9) rfl rfl zv_vPl_9 zk_206, rfl, (by decide +kernel), fun ci h => (by cases h; exact Or.inr ⟨_, (by decide), rfl, rfl⟩)⟩
theorem zk_207 : zv_chk 9 mc9_copies = true := zy_chk_ok (by decide +kernel)
theorem zq_207 : zv_vM mc9_copies ∧ zv_vP (some 9) mc9_copies := ⟨zv_vM_of (ci := 9) rfl rfl zv_vPl_9 zk_207, rfl, (by decide +kernel), fun ci h => (by cases h; exact Or.inr ⟨_, (by decide), rfl, rfl⟩)⟩
theorem zk_208 : zv_chk 9 mc9_visits = true := zy_chk_ok (by decide +kernel)
theorem zq_208 : zv_vM mc9_visits ∧ zv_vP (some 9) mc9_visits := ⟨zv_vM_of (ci := 9) rfl rfl zv_vPl_9 zk_208, rfl, (by decide +kernel), fun ci h => (by cases h; exact Or.inr ⟨_, (by decide), rfl, rfl⟩)⟩
theorem zk_209 : zv_chk 9 mc9_latestIn = true := zy_chk_ok (by decide +kernel)
theorem zq_209 : zv_vM mc9_latestIn ∧ zv_vP (some 9) mc9_latestIn := ⟨zv_vM_of (ci := 9) rfl rfl zv_vPl_9 zk_209, rfl, (by decide +kernel), fun ci h => (by cases h; exact Or.inr ⟨_, (by decide), rfl, rfl⟩)⟩
theorem zk_210 : zv_chk 9 mc9_childOf = true := zy_chk_ok (by decide +kernel)
theorem zq_210 : zv_vM mc9_childOf ∧ zv_vP (some 9) mc9_childOf := ⟨zv_vM_of (ci := 9) rfl rfl zv_vPl_9 zk_210, rfl, (by decide +kernel), fun ci h => (by cases h; exact Or.inr ⟨_, (by decide), rfl, rfl⟩)⟩
theorem zk_211 : zv_chk 9 mc9_childrenOf = true := zy_chk_ok (by decide +kernel)
theorem zq_211 : zv_vM mc9_childrenOf ∧ zv_vP (some 9) mc9_childrenOf := ⟨zv_vM_of (ci := 9) rfl rfl zv_vPl_9 zk_211, rfl, (by decide +kernel), fun ci h => (by cases h; exact Or.inr ⟨_, (by decide), rfl, rfl⟩)⟩
theorem zk_212 : zv_chk 9 mc9_freeState = true := zy_chk_ok (by decide +kernel)
theorem zq_212 : zv_vM mc9_freeState ∧ zv_vP (some 9) mc9_freeState := ⟨zv_vM_of (ci := 9) rfl rfl zv_vPl_9 zk_212, rfl, (by decide +kernel), fun ci h => (by cases h; exact Or.inr ⟨_, (by decide), rfl, rfl⟩)⟩
theorem zk_213 : zv_chk 9 mc9_isNear = true := zy_chk_ok (by decide +kernel)
theorem zq_213 : zv_vM mc9_isNear ∧ zv_vP (some 9) mc9_isNear := ⟨zv_vM_of (ci := 9) rfl rfl zv_vPl_9 zk_213, rfl, (by decide +kernel), fun ci h => (by cases h; exact Or.inr ⟨_, (by decide), rfl, rfl⟩)⟩
theorem zk_214 : zv_chk 9 mc9_compares = true := zy_chk_ok (by decide +kernel)
theorem zq_214 : zv_vM mc9_compares ∧ zv_vP none mc9_compares := ⟨zv_vM_of (ci := 9) rfl rfl zv_vPl_9 zk_214, rfl, (by decide +kernel), fun ci h => (by cases h)⟩
theorem zk_215 : zv_chk 9 mc9_holds = true := zy_chk_ok (by decide +kernel)
theorem zq_215 : zv_vM mc9_holds ∧ zv_vP (some 9) mc9_holds := ⟨zv_vM_of (ci := 9) rfl rfl zv_vPl_9 zk_215, rfl, (by decide +kernel), fun ci h => (by cases h; exact Or.inr ⟨_, (by decide), rfl, rfl⟩)⟩
theorem zk_216 : zv_chk 9 mc9_joins = true := zy_chk_ok (by decide +kernel)
theorem zq_216 : zv_vM mc9_joins ∧ zv_vP (some 9) mc9_joins := ⟨zv_vM_of (ci := 9) rfl rfl zv_vPl_9 zk_216, rfl, (by decide +kernel), fun ci h => (by cases h; exact Or.inr ⟨_, (by decide), rfl, rfl⟩)⟩
theorem zk_217 : zv_chk 9 mc9_begins = true := zy_chk_ok (by decide +kernel)
theorem zq_217 : zv_vM mc9_begins ∧ zv_vP (some 9) mc9_begins := ⟨zv_vM_of (ci := 9) rfl rfl zv_vPl_9 zk_217, rfl, (by decide +kernel), fun ci h => (by cases h; exact Or.inr ⟨_, (by decide), rfl, rfl⟩)⟩
theorem zk_218 : zv_chk 9 mc9_packed = true := zy_chk_ok (by decide +kernel)
theorem zq_218 : zv_vM mc9_packed ∧ zv_vP none mc9_packed := ⟨zv_vM_of (ci := 9) rfl rfl zv_vPl_9 zk_218, rfl, (by decide +kernel), fun ci h => (by cases h)⟩
theorem zk_219 : zv_chk 9 mc9_nameAt = true := zy_chk_ok (by decide +kernel)
theorem zq_219 : zv_vM mc9_nameAt ∧ zv_vP (some 9) mc9_nameAt := ⟨zv_vM_of (ci := 9) rfl rfl zv_vPl_9 zk_219, rfl, (by decide +kernel), fun ci h => (by cases h; exact Or.inr ⟨_, (by decide), rfl, rfl⟩)⟩
theorem zk_220 : zv_chk 9 mc9_type = true := zy_chk_ok (by decide +kernel)
theorem zq_220 : zv_vM mc9_type ∧ zv_vP (some 9) mc9_type := ⟨zv_vM_of (ci := 9) rfl rfl zv_vPl_9 zk_220, rfl, (by decide +kernel), fun ci h => (by cases h; exact Or.inr ⟨_, (by decide), rfl, rfl⟩)⟩
theorem zk_221 : zv_chk 9 mc9_hand = true := zy_chk_ok (by decide +kernel)
theorem zq_221 : zv_vM mc9_hand ∧ zv_vP (some 9) mc9_hand := ⟨zv_vM_of (ci := 9) rfl rfl zv_vPl_9 zk_221, rfl, (by decide +kernel), fun ci h => (by cases h; exact Or.inr ⟨_, (by decide), rfl, rfl⟩)⟩
theorem zk_222 : zv_chk 9 mc9_putNow = true := zy_chk_ok (by decide +kernel)
theorem zq_222 : zv_vM mc9_putNow ∧ zv_vP (some 9) mc9_putNow := ⟨zv_vM_of (ci := 9) rfl rfl zv_vPl_9 zk_222, rfl, (by decide +kernel), fun ci h => (by cases h; exact Or.inr ⟨_, (by decide), rfl, rfl⟩)⟩
theorem zk_223 : zv_chk 9 mc9_cutNow = true := zy_chk_ok (by decide +kernel)
theorem zq_223 : zv_vM mc9_cutNow ∧ zv_vP (some 9) mc9_cutNow := ⟨zv_vM_of (ci := 9) rfl rfl zv_vPl_9 zk_223, rfl, (by decide +kernel), fun ci h => (by cases h; exact Or.inr ⟨_, (by decide), rfl, rfl⟩)⟩
theorem zk_224 : zv_chk 9 mc9_plain = true := zy_chk_ok (by decide +kernel)
theorem zq_224 : zv_vM mc9_plain ∧ zv_vP (some 9) mc9_plain := ⟨zv_vM_of (ci := 9) rfl rfl zv_vPl_9 zk_224, rfl, (by decide +kernel), fun ci h => (by cases h; exact Or.inr ⟨_, (by decide), rfl, rfl⟩)⟩
theorem zk_225 : zv_chk 9 mc9_carries = true := zy_chk_ok (by decide +kernel)
theorem zq_225 : zv_vM mc9_carries ∧ zv_vP (some 9) mc9_carries := ⟨zv_vM_of (ci := 9) rfl rfl zv_vPl_9 zk_225, rfl, (by decide +kernel), fun ci h => (by cases h; exact Or.inr ⟨_, (by decide), rfl, rfl⟩)⟩
theorem zk_226 : zv_chk 9 mc9_isTaken = true := zy_chk_ok (by decide +kernel)
theorem zq_226 : zv_vM mc9_isTaken ∧ zv_vP (some 9) mc9_isTaken := ⟨zv_vM_of (ci := 9) rfl rfl zv_vPl_9 zk_226, rfl, (by decide +kernel), fun ci h => (by cases h; exact Or.inr ⟨_, (by decide), rfl, rfl⟩)⟩
theorem zk_227 : zv_chk 9 mc9_carriesCut = true := zy_chk_ok (by decide +kernel)
theorem zq_227 : zv_vM mc9_carriesCut ∧ zv_vP (some 9) mc9_carriesCut := ⟨zv_vM_of (ci := 9) rfl rfl zv_vPl_9 zk_227, rfl, (by decide +kernel), fun ci h => (by cases h; exact Or.inr ⟨_, (by decide), rfl, rfl⟩)⟩
theorem zk_228 : zv_chk 9 mc9_carryNow = true := zy_chk_ok (by decide +kernel)
theorem zq_228 : zv_vM mc9_carryNow ∧ zv_vP (some 9) mc9_carryNow := ⟨zv_vM_of (ci := 9) rfl rfl zv_vPl_9 zk_228, rfl, (by decide +kernel), fun ci h => (by cases h; exact Or.inr ⟨_, (by decide), rfl, rfl⟩)⟩
theorem zk_229 : zv_chk 9 mc9_mergeNow = true := zy_chk_ok (by decide +kernel)
theorem zq_229 : zv_vM mc9_mergeNow ∧ zv_vP (some 9) mc9_mergeNow := ⟨zv_vM_of (ci := 9) rfl rfl zv_vPl_9 zk_229, rfl, (by decide +kernel), fun ci h => (by cases h; exact Or.inr ⟨_, (by decide), rfl, rfl⟩)⟩
theorem zk_230 : zv_chk 9 mc9_undoNow = true := zy_chk_ok (by decide +kernel)
theorem zq_230 : zv_vM mc9_undoNow ∧ zv_vP (some 9) mc9_undoNow := ⟨zv_vM_of (ci := 9) rfl rfl zv_vPl_9 zk_230, rfl, (by decide +kernel), fun ci h => (by cases h; exact Or.inr ⟨_, (by decide), rfl, rfl⟩)⟩
theorem zk_231 : zv_chk 9 mc9_redoNow = true := zy_chk_ok (by decide +kernel)
theorem zq_231 : zv_vM mc9_redoNow ∧ zv_vP (some 9) mc9_redoNow := ⟨zv_vM_of (ci := 9) rfl rfl zv_vPl_9 zk_231, rfl, (by decide +kernel), fun ci h => (by cases h; exact Or.inr ⟨_, (by decide), rfl, rfl⟩)⟩
theorem zk_232 : zv_chk 9 mc9_commonOf = true := zy_chk_ok (by decide +kernel)
theorem zq_232 : zv_vM mc9_commonOf ∧ zv_vP (some 9) mc9_commonOf := ⟨zv_vM_of (ci := 9) rfl rfl zv_vPl_9 zk_232, rfl, (by decide +kernel), fun ci h => (by cases h; exact Or.inr ⟨_, (by decide), rfl, rfl⟩)⟩
theorem zk_233 : zv_chk 9 mc9_wayMany = true := zy_chk_ok (by decide +kernel)
theorem zq_233 : zv_vM mc9_wayMany ∧ zv_vP (some 9) mc9_wayMany := ⟨zv_vM_of (ci := 9) rfl rfl zv_vPl_9 zk_233, rfl, (by decide +kernel), fun ci h => (by cases h; exact Or.inr ⟨_, (by decide), rfl, rfl⟩)⟩
theorem zk_234 : zv_chk 9 mc9_goNow = true := zy_chk_ok (by decide +kernel)
theorem zq_234 : zv_vM mc9_goNow ∧ zv_vP (some 9) mc9_goNow := ⟨zv_vM_of (ci := 9) rfl rfl zv_vPl_9 zk_234, rfl, (by decide +kernel), fun ci h => (by cases h; exact Or.inr ⟨_, (by decide), rfl, rfl⟩)⟩
theorem zk_235 : zv_chk 9 mc9_nameNow = true := zy_chk_ok (by decide +kernel)
theorem zq_235 : zv_vM mc9_nameNow ∧ zv_vP (some 9) mc9_nameNow := ⟨zv_vM_of (ci := 9) rfl rfl zv_vPl_9 zk_235, rfl, (by decide +kernel), fun ci h => (by cases h; exact Or.inr ⟨_, (by decide), rfl, rfl⟩)⟩
theorem zk_236 : zv_chk 9 mc9_leansOn = true := zy_chk_ok (by decide +kernel)
theorem zq_236 : zv_vM mc9_leansOn ∧ zv_vP (some 9) mc9_leansOn := ⟨zv_vM_of (ci := 9) rfl rfl zv_vPl_9 zk_236, rfl, (by decide +kernel), fun ci h => (by cases h; exact Or.inr ⟨_, (by decide), rfl, rfl⟩)⟩
theorem zk_237 : zv_chk 9 mc9_marks = true := zy_chk_ok (by decide +kernel)
theorem zq_237 : zv_vM mc9_marks ∧ zv_vP (some 9) mc9_marks := ⟨zv_vM_of (ci := 9) rfl rfl zv_vPl_9 zk_237, rfl, (by decide +kernel), fun ci h => (by cases h; exact Or.inr ⟨_, (by decide), rfl, rfl⟩)⟩
theorem zk_238 : zv_chk 9 mc9_triesNames = true := zy_chk_ok (by decide +kernel)
theorem zq_238 : zv_vM mc9_triesNames ∧ zv_vP (some 9) mc9_triesNames := ⟨zv_vM_of (ci := 9) rfl rfl zv_vPl_9 zk_238, rfl, (by decide +kernel), fun ci h => (by cases h; exact Or.inr ⟨_, (by decide), rfl, rfl⟩)⟩
theorem zk_239 : zv_chk 9 mc9_turnNow = true := zy_chk_ok (by decide +kernel)
theorem zq_239 : zv_vM mc9_turnNow ∧ zv_vP (some 9) mc9_turnNow := ⟨zv_vM_of (ci := 9) rfl rfl zv_vPl_9 zk_239, rfl, (by decide +kernel), fun ci h => (by cases h; exact Or.inr ⟨_, (by decide), rfl, rfl⟩)⟩
theorem zk_240 : zv_chk 9 mc9_lays = true := zy_chk_ok (by decide +kernel)
theorem zq_240 : zv_vM mc9_lays ∧ zv_vP (some 9) mc9_lays := ⟨zv_vM_of (ci := 9) rfl rfl zv_vPl_9 zk_240, rfl, (by decide +kernel), fun ci h => (by cases h; exact Or.inr ⟨_, (by decide), rfl, rfl⟩)⟩
theorem zk_241 : zv_chk 9 mc9_feed = true := zy_chk_ok (by decide +kernel)
theorem zq_241 : zv_vM mc9_feed ∧ zv_vP (some 9) mc9_feed := ⟨zv_vM_of (ci := 9) rfl rfl zv_vPl_9 zk_241, rfl, (by decide +kernel), fun ci h => (by cases h; exact Or.inr ⟨_, (by decide), rfl, rfl⟩)⟩
theorem zk_242 : zv_chk 9 mc9_isOf = true := zy_chk_ok (by decide +kernel)
theorem zq_242 : zv_vM mc9_isOf ∧ zv_vP (some 9) mc9_isOf := ⟨zv_vM_of (ci := 9) rfl rfl zv_vPl_9 zk_242, rfl, (by decide +kernel), fun ci h => (by cases h; exact Or.inr ⟨_, (by decide), rfl, rfl⟩)⟩
theorem zk_243 : zv_chk 9 mc9_reads = true := zy_chk_ok (by decide +kernel)
theorem zq_243 : zv_vM mc9_reads ∧ zv_vP (some 9) mc9_reads := ⟨zv_vM_of (ci := 9) rfl rfl zv_vPl_9 zk_243, rfl, (by decide +kernel), fun ci h => (by cases h; exact Or.inr ⟨_, (by decide), rfl, rfl⟩)⟩
theorem zk_244 : zv_chk 9 mc9_must = true := zy_chk_ok (by decide +kernel)
theorem zq_244 : zv_vM mc9_must ∧ zv_vP (some 9) mc9_must := ⟨zv_vM_of (ci := 9) rfl rfl zv_vPl_9 zk_244, rfl, (by decide +kernel), fun ci h => (by cases h; exact Or.inr ⟨_, (by decide), rfl, rfl⟩)⟩
theorem zk_245 : zv_chk 9 mc9_which = true := zy_chk_ok (by decide +kernel)
theorem zq_245 : zv_vM mc9_which ∧ zv_vP (some 9) mc9_which := ⟨zv_vM_of (ci := 9) rfl rfl zv_vPl_9 zk_245, rfl, (by decide +kernel), fun ci h => (by cases h; exact Or.inr ⟨_, (by decide), rfl, rfl⟩)⟩
theorem zk_246 : zv_chk 9 mc9_isSign = true := zy_chk_ok (by decide +kernel)
theorem zq_246 : zv_vM mc9_isSign ∧ zv_vP (some 9) mc9_isSign := ⟨zv_vM_of (ci := 9) rfl rfl zv_vPl_9 zk_246, rfl, (by decide +kernel), fun ci h => (by cases h; exact Or.inr ⟨_, (by decide), rfl, rfl⟩)⟩
theorem zk_247 : zv_chk 9 mc9_takes = true := zy_chk_ok (by decide +kernel)
theorem zq_247 : zv_vM mc9_takes ∧ zv_vP (some 9) mc9_takes := ⟨zv_vM_of (ci := 9) rfl rfl zv_vPl_9 zk_247, rfl, (by decide +kernel), fun ci h => (by cases h; exact Or.inr ⟨_, (by decide), rfl, rfl⟩)⟩
theorem zk_248 : zv_chk 9 mc9_takesNumber = true := zy_chk_ok (by decide +kernel)
theorem zq_248 : zv_vM mc9_takesNumber ∧ zv_vP (some 9) mc9_takesNumber := ⟨zv_vM_of (ci := 9) rfl rfl zv_vPl_9 zk_248, rfl, (by decide +kernel), fun ci h => (by cases h; exact Or.inr ⟨_, (by decide), rfl, rfl⟩)⟩
theorem zk_249 : zv_chk 9 mc9_takesWord = true := zy_chk_ok (by decide +kernel)
theorem zq_249 : zv_vM mc9_takesWord ∧ zv_vP (some 9) mc9_takesWord := ⟨zv_vM_of (ci := 9) rfl rfl zv_vPl_9 zk_249, rfl, (by decide +kernel), fun ci h => (by cases h; exact Or.inr ⟨_, (by decide), rfl, rfl⟩)⟩
theorem zk_250 : zv_chk 9 mc9_emits = true := zy_chk_ok (by decide +kernel)
theorem zq_250 : zv_vM mc9_emits ∧ zv_vP (some 9) mc9_emits := ⟨zv_vM_of (ci := 9) rfl rfl zv_vPl_9 zk_250, rfl, (by decide +kernel), fun ci h => (by cases h; exact Or.inr ⟨_, (by decide), rfl, rfl⟩)⟩
theorem zk_251 : zv_chk 9 mc9_test = true := zy_chk_ok (by decide +kernel)
theorem zq_251 : zv_vM mc9_test ∧ zv_vP (some 9) mc9_test := ⟨zv_vM_of (ci := 9) rfl rfl zv_vPl_9 zk_251, rfl, (by decide +kernel), fun ci h => (by cases h; exact Or.inr ⟨_, (by decide), rfl, rfl⟩)⟩
theorem zk_252 : zv_chk 9 mc9_side = true := zy_chk_ok (by decide +kernel)
theorem zq_252 : zv_vM mc9_side ∧ zv_vP (some 9) mc9_side := ⟨zv_vM_of (ci := 9) rfl rfl zv_vPl_9 zk_252, rfl, (by decide +kernel), fun ci h => (by cases h; exact Or.inr ⟨_, (by decide), rfl, rfl⟩)⟩
theorem zk_253 : zv_chk 9 mc9_fact = true := zy_chk_ok (by decide +kernel)
theorem zq_253 : zv_vM mc9_fact ∧ zv_vP (some 9) mc9_fact := ⟨zv_vM_of (ci := 9) rfl rfl zv_vPl_9 zk_253, rfl, (by decide +kernel), fun ci h => (by cases h; exact Or.inr ⟨_, (by decide), rfl, rfl⟩)⟩
theorem zk_254 : zv_chk 9 mc9_readsLine = true := zy_chk_ok (by decide +kernel)
theorem zq_254 : zv_vM mc9_readsLine ∧ zv_vP (some 9) mc9_readsLine := ⟨zv_vM_of (ci := 9) rfl rfl zv_vPl_9 zk_254, rfl, (by decide +kernel), fun ci h => (by cases h; exact Or.inr ⟨_, (by decide), rfl, rfl⟩)⟩
theorem zk_255 : zv_chk 9 mc9_does = true := zy_chk_ok (by decide +kernel)
theorem zq_255 : zv_vM mc9_does ∧ zv_vP (some 9) mc9_does := ⟨zv_vM_of (ci := 9) rfl rfl zv_vPl_9 zk_255, rfl, (by decide +kernel), fun ci h => (by cases h; exact Or.inr ⟨_, (by decide), rfl, rfl⟩)⟩
theorem zk_256 : zv_chk 9 mc9_load = true := zy_chk_ok (by decide +kernel)
theorem zq_256 : zv_vM mc9_load ∧ zv_vP (some 9) mc9_load := ⟨zv_vM_of (ci := 9) rfl rfl zv_vPl_9 zk_256, rfl, (by decide +kernel), fun ci h => (by cases h; exact Or.inr ⟨_, (by decide), rfl, rfl⟩)⟩
theorem zk_257 : zv_chk 9 mc9_fault = true := zy_chk_ok (by decide +kernel)
theorem zq_257 : zv_vM mc9_fault ∧ zv_vP (some 9) mc9_fault := ⟨zv_vM_of (ci := 9) rfl rfl zv_vPl_9 zk_257, rfl, (by decide +kernel), fun ci h => (by cases h; exact Or.inr ⟨_, (by decide), rfl, rfl⟩)⟩
theorem zk_258 : zv_chk 9 mc9_leaves = true := zy_chk_ok (by decide +kernel)
theorem zq_258 : zv_vM mc9_leaves ∧ zv_vP (some 9) mc9_leaves := ⟨zv_vM_of (ci := 9) rfl rfl zv_vPl_9 zk_258, rfl, (by decide +kernel), fun ci h => (by cases h; exact Or.inr ⟨_, (by decide), rfl, rfl⟩)⟩
theorem zk_259 : zv_chk 9 mc9_groups = true := zy_chk_ok (by decide +kernel)
theorem zq_259 : zv_vM mc9_groups ∧ zv_vP (some 9) mc9_groups := ⟨zv_vM_of (ci := 9) rfl rfl zv_vPl_9 zk_259, rfl, (by decide +kernel), fun ci h => (by cases h; exact Or.inr ⟨_, (by decide), rfl, rfl⟩)⟩
theorem zk_260 : zv_chk 9 mc9_gone = true := zy_chk_ok (by decide +kernel)
theorem zq_260 : zv_vM mc9_gone ∧ zv_vP (some 9) mc9_gone := ⟨zv_vM_of (ci := 9) rfl rfl zv_vPl_9 zk_260, rfl, (by decide +kernel), fun ci h => (by cases h; exact Or.inr ⟨_, (by decide), rfl, rfl⟩)⟩
theorem zk_261 : zv_chk 9 mc9_many = true := zy_chk_ok (by decide +kernel)
theorem zq_261 : zv_vM mc9_many ∧ zv_vP (some 9) mc9_many := ⟨zv_vM_of (ci := 9) rfl rfl zv_vPl_9 zk_261, rfl, (by decide +kernel), fun ci h => (by cases h; exact Or.inr ⟨_, (by decide), rfl, rfl⟩)⟩
theorem zk_262 : zv_chk 9 mc9_letter = true := zy_chk_ok (by decide +kernel)
theorem zq_262 : zv_vM mc9_letter ∧ zv_vP (some 9) mc9_letter := ⟨zv_vM_of (ci := 9) rfl rfl zv_vPl_9 zk_262, rfl, (by decide +kernel), fun ci h => (by cases h; exact Or.inr ⟨_, (by decide), rfl, rfl⟩)⟩
theorem zk_263 : zv_chk 9 mc9_namesOf = true := zy_chk_ok (by decide +kernel)
theorem zq_263 : zv_vM mc9_namesOf ∧ zv_vP (some 9) mc9_namesOf := ⟨zv_vM_of (ci := 9) rfl rfl zv_vPl_9 zk_263, rfl, (by decide +kernel), fun ci h => (by cases h; exact Or.inr ⟨_, (by decide), rfl, rfl⟩)⟩
theorem zk_264 : zv_chk 9 mc9_state = true := zy_chk_ok (by decide +kernel)
theorem zq_264 : zv_vM mc9_state ∧ zv_vP (some 9) mc9_state := ⟨zv_vM_of (ci := 9) rfl rfl zv_vPl_9 zk_264, rfl, (by decide +kernel), fun ci h => (by cases h; exact Or.inr ⟨_, (by decide), rfl, rfl⟩)⟩
theorem zk_265 : zv_chk 9 mc9_child = true := zy_chk_ok (by decide +kernel)
theorem zq_265 : zv_vM mc9_child ∧ zv_vP (some 9) mc9_child := ⟨zv_vM_of (ci := 9) rfl rfl zv_vPl_9 zk_265, rfl, (by decide +kernel), fun ci h => (by cases h; exact Or.inr ⟨_, (by decide), rfl, rfl⟩)⟩
theorem zk_266 : zv_chk 9 mc9_force = true := zy_chk_ok (by decide +kernel)
theorem zq_266 : zv_vM mc9_force ∧ zv_vP (some 9) mc9_force := ⟨zv_vM_of (ci := 9) rfl rfl zv_vPl_9 zk_266, rfl, (by decide +kernel), fun ci h => (by cases h; exact Or.inr ⟨_, (by decide), rfl, rfl⟩)⟩
theorem zk_267 : zv_chk 9 mc9_blame = true := zy_chk_ok (by decide +kernel)
theorem zq_267 : zv_vM mc9_blame ∧ zv_vP (some 9) mc9_blame := ⟨zv_vM_of (ci := 9) rfl rfl zv_vPl_9 zk_267, rfl, (by decide +kernel), fun ci h => (by cases h; exact Or.inr ⟨_, (by decide), rfl, rfl⟩)⟩
theorem zk_268 : zv_chk 9 mc9_cutsOf = true := zy_chk_ok (by decide +kernel)
theorem zq_268 : zv_vM mc9_cutsOf ∧ zv_vP (some 9) mc9_cutsOf := ⟨zv_vM_of (ci := 9) rfl rfl zv_vPl_9 zk_268, rfl, (by decide +kernel), fun ci h => (by cases h; exact Or.inr ⟨_, (by decide), rfl, rfl⟩)⟩
theorem zk_269 : zv_chk 9 mc9_row = true := zy_chk_ok (by decide +kernel)
theorem zq_269 : zv_vM mc9_row ∧ zv_vP (some 9) mc9_row := ⟨zv_vM_of (ci := 9) rfl rfl zv_vPl_9 zk_269, rfl, (by decide +kernel), fun ci h => (by cases h; exact Or.inr ⟨_, (by decide), rfl, rfl⟩)⟩
theorem zk_270 : zv_chk 9 mc9_visit = true := zy_chk_ok (by decide +kernel)
theorem zq_270 : zv_vM mc9_visit ∧ zv_vP (some 9) mc9_visit := ⟨zv_vM_of (ci := 9) rfl rfl zv_vPl_9 zk_270, rfl, (by decide +kernel), fun ci h => (by cases h; exact Or.inr ⟨_, (by decide), rfl, rfl⟩)⟩
theorem zk_271 : zv_chk 9 mc9_named = true := zy_chk_ok (by decide +kernel)
theorem zq_271 : zv_vM mc9_named ∧ zv_vP (some 9) mc9_named := ⟨zv_vM_of (ci := 9) rfl rfl zv_vPl_9 zk_271, rfl, (by decide +kernel), fun ci h => (by cases h; exact Or.inr ⟨_, (by decide), rfl, rfl⟩)⟩
theorem zk_272 : zv_chk 9 mc9_leans = true := zy_chk_ok (by decide +kernel)
theorem zq_272 : zv_vM mc9_leans ∧ zv_vP (some 9) mc9_leans := ⟨zv_vM_of (ci := 9) rfl rfl zv_vPl_9 zk_272, rfl, (by decide +kernel), fun ci h => (by cases h; exact Or.inr ⟨_, (by decide), rfl, rfl⟩)⟩
theorem zk_273 : zv_chk 9 mc9_put = true := zy_chk_ok (by decide +kernel)
theorem zq_273 : zv_vM mc9_put ∧ zv_vP (some 9) mc9_put := ⟨zv_vM_of (ci := 9) rfl rfl zv_vPl_9 zk_273, rfl, (by decide +kernel), fun ci h => (by cases h; exact Or.inr ⟨_, (by decide), rfl, rfl⟩)⟩
theorem zk_274 : zv_chk 9 mc9_cut = true := zy_chk_ok (by decide +kernel)
theorem zq_274 : zv_vM mc9_cut ∧ zv_vP (some 9) mc9_cut := ⟨zv_vM_of (ci := 9) rfl rfl zv_vPl_9 zk_274, rfl, (by decide +kernel), fun ci h => (by cases h; exact Or.inr ⟨_, (by decide), rfl, rfl⟩)⟩
theorem zk_275 : zv_chk 9 mc9_wait = true := zy_chk_ok (by decide +kernel)
theorem zq_275 : zv_vM mc9_wait ∧ zv_vP (some 9) mc9_wait := ⟨zv_vM_of (ci := 9) rfl rfl zv_vPl_9 zk_275, rfl, (by decide +kernel), fun ci h => (by cases h; exact Or.inr ⟨_, (by decide), rfl, rfl⟩)⟩
theorem zk_276 : zv_chk 9 mc9_undo = true := zy_chk_ok (by decide +kernel)
theorem zq_276 : zv_vM mc9_undo ∧ zv_vP (some 9) mc9_undo := ⟨zv_vM_of (ci := 9) rfl rfl zv_vPl_9 zk_276, rfl, (by decide +kernel), fun ci h => (by cases h; exact Or.inr ⟨_, (by decide), rfl, rfl⟩)⟩
theorem zk_277 : zv_chk 9 mc9_redo = true := zy_chk_ok (by decide +kernel)
theorem zq_277 : zv_vM mc9_redo ∧ zv_vP (some 9) mc9_redo := ⟨zv_vM_of (ci := 9) rfl rfl zv_vPl_9 zk_277, rfl, (by decide +kernel), fun ci h => (by cases h; exact Or.inr ⟨_, (by decide), rfl, rfl⟩)⟩
theorem zk_278 : zv_chk 9 mc9_go = true := zy_chk_ok (by decide +kernel)
theorem zq_278 : zv_vM mc9_go ∧ zv_vP (some 9) mc9_go := ⟨zv_vM_of (ci := 9) rfl rfl zv_vPl_9 zk_278, rfl, (by decide +kernel), fun ci h => (by cases h; exact Or.inr ⟨_, (by decide), rfl, rfl⟩)⟩
theorem zk_279 : zv_chk 9 mc9_name = true := zy_chk_ok (by decide +kernel)
theorem zq_279 : zv_vM mc9_name ∧ zv_vP (some 9) mc9_name := ⟨zv_vM_of (ci := 9) rfl rfl zv_vPl_9 zk_279, rfl, (by decide +kernel), fun ci h => (by cases h; exact Or.inr ⟨_, (by decide), rfl, rfl⟩)⟩
theorem zk_280 : zv_chk 9 mc9_unname = true := zy_chk_ok (by decide +kernel)
theorem zq_280 : zv_vM mc9_unname ∧ zv_vP (some 9) mc9_unname := ⟨zv_vM_of (ci := 9) rfl rfl zv_vPl_9 zk_280, rfl, (by decide +kernel), fun ci h => (by cases h; exact Or.inr ⟨_, (by decide), rfl, rfl⟩)⟩
theorem zk_281 : zv_chk 9 mc9_withdraw = true := zy_chk_ok (by decide +kernel)
theorem zq_281 : zv_vM mc9_withdraw ∧ zv_vP (some 9) mc9_withdraw := ⟨zv_vM_of (ci := 9) rfl rfl zv_vPl_9 zk_281, rfl, (by decide +kernel), fun ci h => (by cases h; exact Or.inr ⟨_, (by decide), rfl, rfl⟩)⟩
theorem zk_282 : zv_chk 9 mc9_restore = true := zy_chk_ok (by decide +kernel)
theorem zq_282 : zv_vM mc9_restore ∧ zv_vP (some 9) mc9_restore := ⟨zv_vM_of (ci := 9) rfl rfl zv_vPl_9 zk_282, rfl, (by decide +kernel), fun ci h => (by cases h; exact Or.inr ⟨_, (by decide), rfl, rfl⟩)⟩
theorem zk_283 : zv_chk 9 mc9_firstOut = true := zy_chk_ok (by decide +kernel)
theorem zq_283 : zv_vM mc9_firstOut ∧ zv_vP (some 9) mc9_firstOut := ⟨zv_vM_of (ci := 9) rfl rfl zv_vPl_9 zk_283, rfl, (by decide +kernel), fun ci h => (by cases h; exact Or.inr ⟨_, (by decide), rfl, rfl⟩)⟩
theorem zk_284 : zv_chk 9 mc9_carry = true := zy_chk_ok (by decide +kernel)
theorem zq_284 : zv_vM mc9_carry ∧ zv_vP (some 9) mc9_carry := ⟨zv_vM_of (ci := 9) rfl rfl zv_vPl_9 zk_284, rfl, (by decide +kernel), fun ci h => (by cases h; exact Or.inr ⟨_, (by decide), rfl, rfl⟩)⟩
theorem zk_285 : zv_chk 9 mc9_merge = true := zy_chk_ok (by decide +kernel)
theorem zq_285 : zv_vM mc9_merge ∧ zv_vP (some 9) mc9_merge := ⟨zv_vM_of (ci := 9) rfl rfl zv_vPl_9 zk_285, rfl, (by decide +kernel), fun ci h => (by cases h; exact Or.inr ⟨_, (by decide), rfl, rfl⟩)⟩
theorem zk_286 : zv_chk 9 mc9_prune = true := zy_chk_ok (by decide +kernel)
theorem zq_286 : zv_vM mc9_prune ∧ zv_vP (some 9) mc9_prune := ⟨zv_vM_of (ci := 9) rfl rfl zv_vPl_9 zk_286, rfl, (by decide +kernel), fun ci h => (by cases h; exact Or.inr ⟨_, (by decide), rfl, rfl⟩)⟩
theorem zk_287 : zv_chk 9 mc9_pruneNow = true := zy_chk_ok (by decide +kernel)
theorem zq_287 : zv_vM mc9_pruneNow ∧ zv_vP (some 9) mc9_pruneNow := ⟨zv_vM_of (ci := 9) rfl rfl zv_vPl_9 zk_287, rfl, (by decide +kernel), fun ci h => (by cases h; exact Or.inr ⟨_, (by decide), rfl, rfl⟩)⟩
theorem zk_288 : zv_chk 9 mc9_common = true := zy_chk_ok (by decide +kernel)
theorem zq_288 : zv_vM mc9_common ∧ zv_vP (some 9) mc9_common := ⟨zv_vM_of (ci := 9) rfl rfl zv_vPl_9 zk_288, rfl, (by decide +kernel), fun ci h => (by cases h; exact Or.inr ⟨_, (by decide), rfl, rfl⟩)⟩
theorem zk_289 : zv_chk 9 mc9_way = true := zy_chk_ok (by decide +kernel)
theorem zq_289 : zv_vM mc9_way ∧ zv_vP (some 9) mc9_way := ⟨zv_vM_of (ci := 9) rfl rfl zv_vPl_9 zk_289, rfl, (by decide +kernel), fun ci h => (by cases h; exact Or.inr ⟨_, (by decide), rfl, rfl⟩)⟩
theorem zk_290 : zv_chk 9 mc9_keysOf = true := zy_chk_ok (by decide +kernel)
theorem zq_290 : zv_vM mc9_keysOf ∧ zv_vP (some 9) mc9_keysOf := ⟨zv_vM_of (ci := 9) rfl rfl zv_vPl_9 zk_290, rfl, (by decide +kernel), fun ci h => (by cases h; exact Or.inr ⟨_, (by decide), rfl, rfl⟩)⟩
theorem zk_291 : zv_chk 9 mc9_keptOf = true := zy_chk_ok (by decide +kernel)
theorem zq_291 : zv_vM mc9_keptOf ∧ zv_vP (some 9) mc9_keptOf := ⟨zv_vM_of (ci := 9) rfl rfl zv_vPl_9 zk_291, rfl, (by decide +kernel), fun ci h => (by cases h; exact Or.inr ⟨_, (by decide), rfl, rfl⟩)⟩
theorem zk_292 : zv_chk 9 mc9_differ = true := zy_chk_ok (by decide +kernel)
theorem zq_292 : zv_vM mc9_differ ∧ zv_vP (some 9) mc9_differ := ⟨zv_vM_of (ci := 9) rfl rfl zv_vPl_9 zk_292, rfl, (by decide +kernel), fun ci h => (by cases h; exact Or.inr ⟨_, (by decide), rfl, rfl⟩)⟩
theorem zk_293 : zv_chk 9 mc9_between = true := zy_chk_ok (by decide +kernel)
theorem zq_293 : zv_vM mc9_between ∧ zv_vP (some 9) mc9_between := ⟨zv_vM_of (ci := 9) rfl rfl zv_vPl_9 zk_293, rfl, (by decide +kernel), fun ci h => (by cases h; exact Or.inr ⟨_, (by decide), rfl, rfl⟩)⟩
theorem zk_294 : zv_chk 9 mc9_least = true := zy_chk_ok (by decide +kernel)
theorem zq_294 : zv_vM mc9_least ∧ zv_vP (some 9) mc9_least := ⟨zv_vM_of (ci := 9) rfl rfl zv_vPl_9 zk_294, rfl, (by decide +kernel), fun ci h => (by cases h; exact Or.inr ⟨_, (by decide), rfl, rfl⟩)⟩
theorem zk_295 : zv_chk 9 mc9_merges = true := zy_chk_ok (by decide +kernel)
theorem zq_295 : zv_vM mc9_merges ∧ zv_vP (some 9) mc9_merges := ⟨zv_vM_of (ci := 9) rfl rfl zv_vPl_9 zk_295, rfl, (by decide +kernel), fun ci h => (by cases h; exact Or.inr ⟨_, (by decide), rfl, rfl⟩)⟩
theorem zk_296 : zv_chk 9 mc9_tells = true := zy_chk_ok (by decide +kernel)
theorem zq_296 : zv_vM mc9_tells ∧ zv_vP (some 9) mc9_tells := ⟨zv_vM_of (ci := 9) rfl rfl zv_vPl_9 zk_296, rfl, (by decide +kernel), fun ci h => (by cases h; exact Or.inr ⟨_, (by decide), rfl, rfl⟩)⟩
theorem zk_297 : zv_chk 9 mc9_tellsNumber = true := zy_chk_ok (by decide +kernel)
theorem zq_297 : zv_vM mc9_tellsNumber ∧ zv_vP (some 9) mc9_tellsNumber := ⟨zv_vM_of (ci := 9) rfl rfl zv_vPl_9 zk_297, rfl, (by decide +kernel), fun ci h => (by cases h; exact Or.inr ⟨_, (by decide), rfl, rfl⟩)⟩
theorem zk_298 : zv_chk 9 mc9_tellsNames = true := zy_chk_ok (by decide +kernel)
theorem zq_298 : zv_vM mc9_tellsNames ∧ zv_vP (some 9) mc9_tellsNames := ⟨zv_vM_of (ci := 9) rfl rfl zv_vPl_9 zk_298, rfl, (by decide +kernel), fun ci h => (by cases h; exact Or.inr ⟨_, (by decide), rfl, rfl⟩)⟩
theorem zk_299 : zv_chk 9 mc9_tell = true := zy_chk_ok (by decide +kernel)
theorem zq_299 : zv_vM mc9_tell ∧ zv_vP (some 9) mc9_tell := ⟨zv_vM_of (ci := 9) rfl rfl zv_vPl_9 zk_299, rfl, (by decide +kernel), fun ci h => (by cases h; exact Or.inr ⟨_, (by decide), rfl, rfl⟩)⟩
theorem zk_300 : zv_chk 9 mc9_out = true := zy_chk_ok (by decide +kernel)
theorem zq_300 : zv_vM mc9_out ∧ zv_vP (some 9) mc9_out := ⟨zv_vM_of (ci := 9) rfl rfl zv_vPl_9 zk_300, rfl, (by decide +kernel), fun ci h => (by cases h; exact Or.inr ⟨_, (by decide), rfl, rfl⟩)⟩
theorem zk_301 : zv_chk 9 mc9_leaning = true := zy_chk_ok (by decide +kernel)
theorem zq_301 : zv_vM mc9_leaning ∧ zv_vP (some 9) mc9_leaning := ⟨zv_vM_of (ci := 9) rfl rfl zv_vPl_9 zk_301, rfl, (by decide +kernel), fun ci h => (by cases h; exact Or.inr ⟨_, (by decide), rfl, rfl⟩)⟩
theorem zk_302 : zv_chk 9 mc9_placeIn = true := zy_chk_ok (by decide +kernel)
theorem zq_302 : zv_vM mc9_placeIn ∧ zv_vP (some 9) mc9_placeIn := ⟨zv_vM_of (ci := 9) rfl rfl zv_vPl_9 zk_302, rfl, (by decide +kernel), fun ci h => (by cases h; exact Or.inr ⟨_, (by decide), rfl, rfl⟩)⟩
theorem zk_303 : zv_chk 9 mc9_find = true := zy_chk_ok (by decide +kernel)
theorem zq_303 : zv_vM mc9_find ∧ zv_vP (some 9) mc9_find := ⟨zv_vM_of (ci := 9) rfl rfl zv_vPl_9 zk_303, rfl, (by decide +kernel), fun ci h => (by cases h; exact Or.inr ⟨_, (by decide), rfl, rfl⟩)⟩
theorem zk_304 : zv_chk 9 mc9_first = true := zy_chk_ok (by decide +kernel)
theorem zq_304 : zv_vM mc9_first ∧ zv_vP (some 9) mc9_first := ⟨zv_vM_of (ci := 9) rfl rfl zv_vPl_9 zk_304, rfl, (by decide +kernel), fun ci h => (by cases h; exact Or.inr ⟨_, (by decide), rfl, rfl⟩)⟩
theorem zk_305 : zv_chk 9 mc9_twin = true := zy_chk_ok (by decide +kernel)
theorem zq_305 : zv_vM mc9_twin ∧ zv_vP (some 9) mc9_twin := ⟨zv_vM_of (ci := 9) rfl rfl zv_vPl_9 zk_305, rfl, (by decide +kernel), fun ci h => (by cases h; exact Or.inr ⟨_, (by decide), rfl, rfl⟩)⟩
theorem zk_306 : zv_chk 9 mc9_back = true := zy_chk_ok (by decide +kernel)
theorem zq_306 : zv_vM mc9_back ∧ zv_vP (some 9) mc9_back := ⟨zv_vM_of (ci := 9) rfl rfl zv_vPl_9 zk_306, rfl, (by decide +kernel), fun ci h => (by cases h; exact Or.inr ⟨_, (by decide), rfl, rfl⟩)⟩
theorem zk_307 : zv_chk 99 mc12_bitCount = true := zy_chk_ok (by decide +kernel)
theorem zq_307 : zv_vM mc12_bitCount ∧ zv_vP none mc12_bitCount := ⟨zv_vM_of2 zv_vPl_12 (fun q hq => absurd hq List.not_mem_nil) zk_307, rfl, (by decide +kernel), fun ci h => (by cases h)⟩
theorem zk_308 : zv_chk 99 mc13_coder = true := zy_chk_ok (by decide +kernel)
theorem zq_308 : zv_vM mc13_coder ∧ zv_vP (some 10) mc13_coder := ⟨zv_vM_of2 zv_vPl_13 (List.forall_mem_cons.mpr ⟨Or.inr rfl, List.forall_mem_cons.mpr ⟨Or.inl rfl, fun _ h => absurd h List.not_mem_nil⟩⟩) zk_308, rfl, (by decide +kernel), fun ci h => (by cases h; exact Or.inl ⟨rfl, rfl⟩)⟩
theorem zk_309 : zv_chk 99 mc13_isLatin1 = true := zy_chk_ok (by decide +kernel)
theorem zq_309 : zv_vM mc13_isLatin1 ∧ zv_vP (some 10) mc13_isLatin1 := ⟨zv_vM_of2 zv_vPl_13 (List.forall_mem_cons.mpr ⟨Or.inr rfl, List.forall_mem_cons.mpr ⟨Or.inl rfl, fun _ h => absurd h List.not_mem_nil⟩⟩) zk_309, rfl, (by decide +kernel), fun ci h => (by cases h; exact Or.inl ⟨rfl, rfl⟩)⟩
theorem zk_310 : zv_chk 99 mc13_length = true := zy_chk_ok (by decide +kernel)
theorem zq_310 : zv_vM mc13_length ∧ zv_vP (some 10) mc13_length := ⟨zv_vM_of2 zv_vPl_13 (List.forall_mem_cons.mpr ⟨Or.inr rfl, List.forall_mem_cons.mpr ⟨Or.inl rfl, fun _ h => absurd h List.not_mem_nil⟩⟩) zk_310, rfl, (by decide +kernel), fun ci h => (by cases h; exact Or.inl ⟨rfl, rfl⟩)⟩
theorem zk_311 : zv_chk 99 mc14_charAt = true := zy_chk_ok (by decide +kernel)
theorem zq_311 : zv_vM mc14_charAt ∧ zv_vP none mc14_charAt := ⟨zv_vM_of2 zv_vPl_14 (fun q hq => absurd hq List.not_mem_nil) zk_311, rfl, (by decide +kernel), fun ci h => (by cases h)⟩
theorem zk_312 : zv_chk 99 mc13_charAt = true := zy_chk_ok (by decide +kernel)
theorem zq_312 : zv_vM mc13_charAt ∧ zv_vP (some 10) mc13_charAt := ⟨zv_vM_of2 zv_vPl_13 (List.forall_mem_cons.mpr ⟨Or.inr rfl, List.forall_mem_cons.mpr ⟨Or.inl rfl, fun _ h => absurd h List.not_mem_nil⟩⟩) zk_312, rfl, (by decide +kernel), fun ci h => (by cases h; exact Or.inl ⟨rfl, rfl⟩)⟩
theorem zk_313 : zv_chk 99 mc14_canEncode = true := zy_chk_ok (by decide +kernel)
theorem zq_313 : zv_vM mc14_canEncode ∧ zv_vP none mc14_canEncode := ⟨zv_vM_of2 zv_vPl_14 (fun q hq => absurd hq List.not_mem_nil) zk_313, rfl, (by decide +kernel), fun ci h => (by cases h)⟩
theorem zk_314 : zv_chk 99 mc14_indexOfChar = true := zy_chk_ok (by decide +kernel)
theorem zq_314 : zv_vM mc14_indexOfChar ∧ zv_vP none mc14_indexOfChar := ⟨zv_vM_of2 zv_vPl_14 (fun q hq => absurd hq List.not_mem_nil) zk_314, rfl, (by decide +kernel), fun ci h => (by cases h)⟩
theorem zk_315 : zv_chk 99 mc14_indexOf = true := zy_chk_ok (by decide +kernel)
theorem zq_315 : zv_vM mc14_indexOf ∧ zv_vP none mc14_indexOf := ⟨zv_vM_of2 zv_vPl_14 (fun q hq => absurd hq List.not_mem_nil) zk_315, rfl, (by decide +kernel), fun ci h => (by cases h)⟩
theorem zk_316 : zv_chk 99 mc13_indexOf2 = true := zy_chk_ok (by decide +kernel)
theorem zq_316 : zv_vM mc13_indexOf2 ∧ zv_vP (some 10) mc13_indexOf2 := ⟨zv_vM_of2 zv_vPl_13 (List.forall_mem_cons.mpr ⟨Or.inr rfl, List.forall_mem_cons.mpr ⟨Or.inl rfl, fun _ h => absurd h List.not_mem_nil⟩⟩) zk_316, rfl, (by decide +kernel), fun ci h => (by cases h; exact Or.inl ⟨rfl, rfl⟩)⟩
theorem zk_317 : zv_chk 99 mc13_indexOf = true := zy_chk_ok (by decide +kernel)
theorem zq_317 : zv_vM mc13_indexOf ∧ zv_vP (some 10) mc13_indexOf := ⟨zv_vM_of2 zv_vPl_13 (List.forall_mem_cons.mpr ⟨Or.inr rfl, List.forall_mem_cons.mpr ⟨Or.inl rfl, fun _ h => absurd h List.not_mem_nil⟩⟩) zk_317, rfl, (by decide +kernel), fun ci h => (by cases h; exact Or.inl ⟨rfl, rfl⟩)⟩
theorem zu_0 : ∀ q ∈ zp_c0, zv_vM q.2 ∧ zv_vP q.1 q.2 := (List.forall_mem_cons.mpr ⟨zq_0, (List.forall_mem_cons.mpr ⟨zq_1, (List.forall_mem_cons.mpr ⟨zq_2, (List.forall_mem_cons.mpr ⟨zq_3, (List.forall_mem_cons.mpr ⟨zq_4, (List.forall_mem_cons.mpr ⟨zq_5, (List.forall_mem_cons.mpr ⟨zq_6, (List.forall_mem_cons.mpr ⟨zq_7, (List.forall_mem_cons.mpr ⟨zq_8, (List.forall_mem_cons.mpr ⟨zq_9, (List.forall_mem_cons.mpr ⟨zq_10, (List.forall_mem_cons.mpr ⟨zq_11, (List.forall_mem_cons.mpr ⟨zq_12, (List.forall_mem_cons.mpr ⟨zq_13, (List.forall_mem_cons.mpr ⟨zq_14, (List.forall_mem_cons.mpr ⟨zq_15, (fun _ h => absurd h List.not_mem_nil)⟩)⟩)⟩)⟩)⟩)⟩)⟩)⟩)⟩)⟩)⟩)⟩)⟩)⟩)⟩)⟩)
theorem zu_1 : ∀ q ∈ zp_c1, zv_vM q.2 ∧ zv_vP q.1 q.2 := (List.forall_mem_cons.mpr ⟨zq_16, (List.forall_mem_cons.mpr ⟨zq_17, (List.forall_mem_cons.mpr ⟨zq_18, (List.forall_mem_cons.mpr ⟨zq_19, (List.forall_mem_cons.mpr ⟨zq_20, (List.forall_mem_cons.mpr ⟨zq_21, (List.forall_mem_cons.mpr ⟨zq_22, (List.forall_mem_cons.mpr ⟨zq_23, (List.forall_mem_cons.mpr ⟨zq_24, (List.forall_mem_cons.mpr ⟨zq_25, (List.forall_mem_cons.mpr ⟨zq_26, (List.forall_mem_cons.mpr ⟨zq_27, (List.forall_mem_cons.mpr ⟨zq_28, (List.forall_mem_cons.mpr ⟨zq_29, (List.forall_mem_cons.mpr ⟨zq_30, (List.forall_mem_cons.mpr ⟨zq_31, (fun _ h => absurd h List.not_mem_nil)⟩)⟩)⟩)⟩)⟩)⟩)⟩)⟩)⟩)⟩)⟩)⟩)⟩)⟩)⟩)⟩)
theorem zu_2 : ∀ q ∈ zp_c2, zv_vM q.2 ∧ zv_vP q.1 q.2 := (List.forall_mem_cons.mpr ⟨zq_32, (List.forall_mem_cons.mpr ⟨zq_33, (List.forall_mem_cons.mpr ⟨zq_34, (List.forall_mem_cons.mpr ⟨zq_35, (List.forall_mem_cons.mpr ⟨zq_36, (List.forall_mem_cons.mpr ⟨zq_37, (List.forall_mem_cons.mpr ⟨zq_38, (List.forall_mem_cons.mpr ⟨zq_39, (List.forall_mem_cons.mpr ⟨zq_40, (List.forall_mem_cons.mpr ⟨zq_41, (List.forall_mem_cons.mpr ⟨zq_42, (List.forall_mem_cons.mpr ⟨zq_43, (List.forall_mem_cons.mpr ⟨zq_44, (List.forall_mem_cons.mpr ⟨zq_45, (List.forall_mem_cons.mpr ⟨zq_46, (List.forall_mem_cons.mpr ⟨zq_47, (fun _ h => absurd h List.not_mem_nil)⟩)⟩)⟩)⟩)⟩)⟩)⟩)⟩)⟩)⟩)⟩)⟩)⟩)⟩)⟩)⟩)
theorem zu_3 : ∀ q ∈ zp_c3, zv_vM q.2 ∧ zv_vP q.1 q.2 := (List.forall_mem_cons.mpr ⟨zq_48, (List.forall_mem_cons.mpr ⟨zq_49, (List.forall_mem_cons.mpr ⟨zq_50, (List.forall_mem_cons.mpr ⟨zq_51, (List.forall_mem_cons.mpr ⟨zq_52, (List.forall_mem_cons.mpr ⟨zq_53, (List.forall_mem_cons.mpr ⟨zq_54, (List.forall_mem_cons.mpr ⟨zq_55, (List.forall_mem_cons.mpr ⟨zq_56, (List.forall_mem_cons.mpr ⟨zq_57, (List.forall_mem_cons.mpr ⟨zq_58, (List.forall_mem_cons.mpr ⟨zq_59, (List.forall_mem_cons.mpr ⟨zq_60, (List.forall_mem_cons.mpr ⟨zq_61, (List.forall_mem_cons.mpr ⟨zq_62, (List.forall_mem_cons.mpr ⟨zq_63, (fun _ h => absurd h List.not_mem_nil)⟩)⟩)⟩)⟩)⟩)⟩)⟩)⟩)⟩)⟩)⟩)⟩)⟩)⟩)⟩)⟩)
theorem zu_4 : ∀ q ∈ zp_c4, zv_vM q.2 ∧ zv_vP q.1 q.2 := (List.forall_mem_cons.mpr ⟨zq_64, (List.forall_mem_cons.mpr ⟨zq_65, (List.forall_mem_cons.mpr ⟨zq_66, (List.forall_mem_cons.mpr ⟨zq_67, (List.forall_mem_cons.mpr ⟨zq_68, (List.forall_mem_cons.mpr ⟨zq_69, (List.forall_mem_cons.mpr ⟨zq_70, (List.forall_mem_cons.mpr ⟨zq_71, (List.forall_mem_cons.mpr ⟨zq_72, (List.forall_mem_cons.mpr ⟨zq_73, (List.forall_mem_cons.mpr ⟨zq_74, (List.forall_mem_cons.mpr ⟨zq_75, (List.forall_mem_cons.mpr ⟨zq_76, (List.forall_mem_cons.mpr ⟨zq_77, (List.forall_mem_cons.mpr ⟨zq_78, (List.forall_mem_cons.mpr ⟨zq_79, (fun _ h => absurd h List.not_mem_nil)⟩)⟩)⟩)⟩)⟩)⟩)⟩)⟩)⟩)⟩)⟩)⟩)⟩)⟩)⟩)⟩)
theorem zu_5 : ∀ q ∈ zp_c5, zv_vM q.2 ∧ zv_vP q.1 q.2 := (List.forall_mem_cons.mpr ⟨zq_80, (List.forall_mem_cons.mpr ⟨zq_81, (List.forall_mem_cons.mpr ⟨zq_82, (List.forall_mem_cons.mpr ⟨zq_83, (List.forall_mem_cons.mpr ⟨zq_84, (List.forall_mem_cons.mpr ⟨zq_85, (List.forall_mem_cons.mpr ⟨zq_86, (List.forall_mem_cons.mpr ⟨zq_87, (List.forall_mem_cons.mpr ⟨zq_88, (List.forall_mem_cons.mpr ⟨zq_89, (List.forall_mem_cons.mpr ⟨zq_90, (List.forall_mem_cons.mpr ⟨zq_91, (List.forall_mem_cons.mpr ⟨zq_92, (List.forall_mem_cons.mpr ⟨zq_93, (List.forall_mem_cons.mpr ⟨zq_94, (List.forall_mem_cons.mpr ⟨zq_95, (fun _ h => absurd h List.not_mem_nil)⟩)⟩)⟩)⟩)⟩)⟩)⟩)⟩)⟩)⟩)⟩)⟩)⟩)⟩)⟩)⟩)
theorem zu_6 : ∀ q ∈ zp_c6, zv_vM q.2 ∧ zv_vP q.1 q.2 := (List.forall_mem_cons.mpr ⟨zq_96, (List.forall_mem_cons.mpr ⟨zq_97, (List.forall_mem_cons.mpr ⟨zq_98, (List.forall_mem_cons.mpr ⟨zq_99, (List.forall_mem_cons.mpr ⟨zq_100, (List.forall_mem_cons.mpr ⟨zq_101, (List.forall_mem_cons.mpr ⟨zq_102, (List.forall_mem_cons.mpr ⟨zq_103, (List.forall_mem_cons.mpr ⟨zq_104, (List.forall_mem_cons.mpr ⟨zq_105, (List.forall_mem_cons.mpr ⟨zq_106, (List.forall_mem_cons.mpr ⟨zq_107, (List.forall_mem_cons.mpr ⟨zq_108, (List.forall_mem_cons.mpr ⟨zq_109, (List.forall_mem_cons.mpr ⟨zq_110, (List.forall_mem_cons.mpr ⟨zq_111, (fun _ h => absurd h List.not_mem_nil)⟩)⟩)⟩)⟩)⟩)⟩)⟩)⟩)⟩)⟩)⟩)⟩)⟩)⟩)⟩)⟩)
theorem zu_7 : ∀ q ∈ zp_c7, zv_vM q.2 ∧ zv_vP q.1 q.2 := (List.forall_mem_cons.mpr ⟨zq_112, (List.forall_mem_cons.mpr ⟨zq_113, (List.forall_mem_cons.mpr ⟨zq_114, (List.forall_mem_cons.mpr ⟨zq_115, (List.forall_mem_cons.mpr ⟨zq_116, (List.forall_mem_cons.mpr ⟨zq_117, (List.forall_mem_cons.mpr ⟨zq_118, (List.forall_mem_cons.mpr ⟨zq_119, (List.forall_mem_cons.mpr ⟨zq_120, (List.forall_mem_cons.mpr ⟨zq_121, (List.forall_mem_cons.mpr ⟨zq_122, (List.forall_mem_cons.mpr ⟨zq_123, (List.forall_mem_cons.mpr ⟨zq_124, (List.forall_mem_cons.mpr ⟨zq_125, (List.forall_mem_cons.mpr ⟨zq_126, (List.forall_mem_cons.mpr ⟨zq_127, (fun _ h => absurd h List.not_mem_nil)⟩)⟩)⟩)⟩)⟩)⟩)⟩)⟩)⟩)⟩)⟩)⟩)⟩)⟩)⟩)⟩)
theorem zu_8 : ∀ q ∈ zp_c8, zv_vM q.2 ∧ zv_vP q.1 q.2 := (List.forall_mem_cons.mpr ⟨zq_128, (List.forall_mem_cons.mpr ⟨zq_129, (List.forall_mem_cons.mpr ⟨zq_130, (List.forall_mem_cons.mpr ⟨zq_131, (List.forall_mem_cons.mpr ⟨zq_132, (List.forall_mem_cons.mpr ⟨zq_133, (List.forall_mem_cons.mpr ⟨zq_134, (List.forall_mem_cons.mpr ⟨zq_135, (List.forall_mem_cons.mpr ⟨zq_136, (List.forall_mem_cons.mpr ⟨zq_137, (List.forall_mem_cons.mpr ⟨zq_138, (List.forall_mem_cons.mpr ⟨zq_139, (List.forall_mem_cons.mpr ⟨zq_140, (List.forall_mem_cons.mpr ⟨zq_141, (List.forall_mem_cons.mpr ⟨zq_142, (List.forall_mem_cons.mpr ⟨zq_143, (fun _ h => absurd h List.not_mem_nil)⟩)⟩)⟩)⟩)⟩)⟩)⟩)⟩)⟩)⟩)⟩)⟩)⟩)⟩)⟩)⟩)
theorem zu_9 : ∀ q ∈ zp_c9, zv_vM q.2 ∧ zv_vP q.1 q.2 := (List.forall_mem_cons.mpr ⟨zq_144, (List.forall_mem_cons.mpr ⟨zq_145, (List.forall_mem_cons.mpr ⟨zq_146, (List.forall_mem_cons.mpr ⟨zq_147, (List.forall_mem_cons.mpr ⟨zq_148, (List.forall_mem_cons.mpr ⟨zq_149, (List.forall_mem_cons.mpr ⟨zq_150, (List.forall_mem_cons.mpr ⟨zq_151, (List.forall_mem_cons.mpr ⟨zq_152, (List.forall_mem_cons.mpr ⟨zq_153, (List.forall_mem_cons.mpr ⟨zq_154, (List.forall_mem_cons.mpr ⟨zq_155, (List.forall_mem_cons.mpr ⟨zq_156, (List.forall_mem_cons.mpr ⟨zq_157, (List.forall_mem_cons.mpr ⟨zq_158, (List.forall_mem_cons.mpr ⟨zq_159, (fun _ h => absurd h List.not_mem_nil)⟩)⟩)⟩)⟩)⟩)⟩)⟩)⟩)⟩)⟩)⟩)⟩)⟩)⟩)⟩)⟩)
theorem zu_10 : ∀ q ∈ zp_c10, zv_vM q.2 ∧ zv_vP q.1 q.2 := (List.forall_mem_cons.mpr ⟨zq_160, (List.forall_mem_cons.mpr ⟨zq_161, (List.forall_mem_cons.mpr ⟨zq_162, (List.forall_mem_cons.mpr ⟨zq_163, (List.forall_mem_cons.mpr ⟨zq_164, (List.forall_mem_cons.mpr ⟨zq_165, (List.forall_mem_cons.mpr ⟨zq_166, (List.forall_mem_cons.mpr ⟨zq_167, (List.forall_mem_cons.mpr ⟨zq_168, (List.forall_mem_cons.mpr ⟨zq_169, (List.forall_mem_cons.mpr ⟨zq_170, (List.forall_mem_cons.mpr ⟨zq_171, (List.forall_mem_cons.mpr ⟨zq_172, (List.forall_mem_cons.mpr ⟨zq_173, (List.forall_mem_cons.mpr ⟨zq_174, (List.forall_mem_cons.mpr ⟨zq_175, (fun _ h => absurd h List.not_mem_nil)⟩)⟩)⟩)⟩)⟩)⟩)⟩)⟩)⟩)⟩)⟩)⟩)⟩)⟩)⟩)⟩)
theorem zu_11 : ∀ q ∈ zp_c11, zv_vM q.2 ∧ zv_vP q.1 q.2 := (List.forall_mem_cons.mpr ⟨zq_176, (List.forall_mem_cons.mpr ⟨zq_177, (List.forall_mem_cons.mpr ⟨zq_178, (List.forall_mem_cons.mpr ⟨zq_179, (List.forall_mem_cons.mpr ⟨zq_180, (List.forall_mem_cons.mpr ⟨zq_181, (List.forall_mem_cons.mpr ⟨zq_182, (List.forall_mem_cons.mpr ⟨zq_183, (List.forall_mem_cons.mpr ⟨zq_184, (List.forall_mem_cons.mpr ⟨zq_185, (List.forall_mem_cons.mpr ⟨zq_186, (List.forall_mem_cons.mpr ⟨zq_187, (List.forall_mem_cons.mpr ⟨zq_188, (List.forall_mem_cons.mpr ⟨zq_189, (List.forall_mem_cons.mpr ⟨zq_190, (List.forall_mem_cons.mpr ⟨zq_191, (fun _ h => absurd h List.not_mem_nil)⟩)⟩)⟩)⟩)⟩)⟩)⟩)⟩)⟩)⟩)⟩)⟩)⟩)⟩)⟩)⟩)
theorem zu_12 : ∀ q ∈ zp_c12, zv_vM q.2 ∧ zv_vP q.1 q.2 := (List.forall_mem_cons.mpr ⟨zq_192, (List.forall_mem_cons.mpr ⟨zq_193, (List.forall_mem_cons.mpr ⟨zq_194, (List.forall_mem_cons.mpr ⟨zq_195, (List.forall_mem_cons.mpr ⟨zq_196, (List.forall_mem_cons.mpr ⟨zq_197, (List.forall_mem_cons.mpr ⟨zq_198, (List.forall_mem_cons.mpr ⟨zq_199, (List.forall_mem_cons.mpr ⟨zq_200, (List.forall_mem_cons.mpr ⟨zq_201, (List.forall_mem_cons.mpr ⟨zq_202, (List.forall_mem_cons.mpr ⟨zq_203, (List.forall_mem_cons.mpr ⟨zq_204, (List.forall_mem_cons.mpr ⟨zq_205, (List.forall_mem_cons.mpr ⟨zq_206, (List.forall_mem_cons.mpr ⟨zq_207, (fun _ h => absurd h List.not_mem_nil)⟩)⟩)⟩)⟩)⟩)⟩)⟩)⟩)⟩)⟩)⟩)⟩)⟩)⟩)⟩)⟩)
theorem zu_13 : ∀ q ∈ zp_c13, zv_vM q.2 ∧ zv_vP q.1 q.2 := (List.forall_mem_cons.mpr ⟨zq_208, (List.forall_mem_cons.mpr ⟨zq_209, (List.forall_mem_cons.mpr ⟨zq_210, (List.forall_mem_cons.mpr ⟨zq_211, (List.forall_mem_cons.mpr ⟨zq_212, (List.forall_mem_cons.mpr ⟨zq_213, (List.forall_mem_cons.mpr ⟨zq_214, (List.forall_mem_cons.mpr ⟨zq_215, (List.forall_mem_cons.mpr ⟨zq_216, (List.forall_mem_cons.mpr ⟨zq_217, (List.forall_mem_cons.mpr ⟨zq_218, (List.forall_mem_cons.mpr ⟨zq_219, (List.forall_mem_cons.mpr ⟨zq_220, (List.forall_mem_cons.mpr ⟨zq_221, (List.forall_mem_cons.mpr ⟨zq_222, (List.forall_mem_cons.mpr ⟨zq_223, (fun _ h => absurd h List.not_mem_nil)⟩)⟩)⟩)⟩)⟩)⟩)⟩)⟩)⟩)⟩)⟩)⟩)⟩)⟩)⟩)⟩)
theorem zu_14 : ∀ q ∈ zp_c14, zv_vM q.2 ∧ zv_vP q.1 q.2 := (List.forall_mem_cons.mpr ⟨zq_224, (List.forall_mem_cons.mpr ⟨zq_225, (List.forall_mem_cons.mpr ⟨zq_226, (List.forall_mem_cons.mpr ⟨zq_227, (List.forall_mem_cons.mpr ⟨zq_228, (List.forall_mem_cons.mpr ⟨zq_229, (List.forall_mem_cons.mpr ⟨zq_230, (List.forall_mem_cons.mpr ⟨zq_231, (List.forall_mem_cons.mpr ⟨zq_232, (List.forall_mem_cons.mpr ⟨zq_233, (List.forall_mem_cons.mpr ⟨zq_234, (List.forall_mem_cons.mpr ⟨zq_235, (List.forall_mem_cons.mpr ⟨zq_236, (List.forall_mem_cons.mpr ⟨zq_237, (List.forall_mem_cons.mpr ⟨zq_238, (List.forall_mem_cons.mpr ⟨zq_239, (fun _ h => absurd h List.not_mem_nil)⟩)⟩)⟩)⟩)⟩)⟩)⟩)⟩)⟩)⟩)⟩)⟩)⟩)⟩)⟩)⟩)
theorem zu_15 : ∀ q ∈ zp_c15, zv_vM q.2 ∧ zv_vP q.1 q.2 := (List.forall_mem_cons.mpr ⟨zq_240, (List.forall_mem_cons.mpr ⟨zq_241, (List.forall_mem_cons.mpr ⟨zq_242, (List.forall_mem_cons.mpr ⟨zq_243, (List.forall_mem_cons.mpr ⟨zq_244, (List.forall_mem_cons.mpr ⟨zq_245, (List.forall_mem_cons.mpr ⟨zq_246, (List.forall_mem_cons.mpr ⟨zq_247, (List.forall_mem_cons.mpr ⟨zq_248, (List.forall_mem_cons.mpr ⟨zq_249, (List.forall_mem_cons.mpr ⟨zq_250, (List.forall_mem_cons.mpr ⟨zq_251, (List.forall_mem_cons.mpr ⟨zq_252, (List.forall_mem_cons.mpr ⟨zq_253, (List.forall_mem_cons.mpr ⟨zq_254, (List.forall_mem_cons.mpr ⟨zq_255, (fun _ h => absurd h List.not_mem_nil)⟩)⟩)⟩)⟩)⟩)⟩)⟩)⟩)⟩)⟩)⟩)⟩)⟩)⟩)⟩)⟩)
theorem zu_16 : ∀ q ∈ zp_c16, zv_vM q.2 ∧ zv_vP q.1 q.2 := (List.forall_mem_cons.mpr ⟨zq_256, (List.forall_mem_cons.mpr ⟨zq_257, (List.forall_mem_cons.mpr ⟨zq_258, (List.forall_mem_cons.mpr ⟨zq_259, (List.forall_mem_cons.mpr ⟨zq_260, (List.forall_mem_cons.mpr ⟨zq_261, (List.forall_mem_cons.mpr ⟨zq_262, (List.forall_mem_cons.mpr ⟨zq_263, (List.forall_mem_cons.mpr ⟨zq_264, (List.forall_mem_cons.mpr ⟨zq_265, (List.forall_mem_cons.mpr ⟨zq_266, (List.forall_mem_cons.mpr ⟨zq_267, (List.forall_mem_cons.mpr ⟨zq_268, (List.forall_mem_cons.mpr ⟨zq_269, (List.forall_mem_cons.mpr ⟨zq_270, (List.forall_mem_cons.mpr ⟨zq_271, (fun _ h => absurd h List.not_mem_nil)⟩)⟩)⟩)⟩)⟩)⟩)⟩)⟩)⟩)⟩)⟩)⟩)⟩)⟩)⟩)⟩)
theorem zu_17 : ∀ q ∈ zp_c17, zv_vM q.2 ∧ zv_vP q.1 q.2 := (List.forall_mem_cons.mpr ⟨zq_272, (List.forall_mem_cons.mpr ⟨zq_273, (List.forall_mem_cons.mpr ⟨zq_274, (List.forall_mem_cons.mpr ⟨zq_275, (List.forall_mem_cons.mpr ⟨zq_276, (List.forall_mem_cons.mpr ⟨zq_277, (List.forall_mem_cons.mpr ⟨zq_278, (List.forall_mem_cons.mpr ⟨zq_279, (List.forall_mem_cons.mpr ⟨zq_280, (List.forall_mem_cons.mpr ⟨zq_281, (List.forall_mem_cons.mpr ⟨zq_282, (List.forall_mem_cons.mpr ⟨zq_283, (List.forall_mem_cons.mpr ⟨zq_284, (List.forall_mem_cons.mpr ⟨zq_285, (List.forall_mem_cons.mpr ⟨zq_286, (List.forall_mem_cons.mpr ⟨zq_287, (fun _ h => absurd h List.not_mem_nil)⟩)⟩)⟩)⟩)⟩)⟩)⟩)⟩)⟩)⟩)⟩)⟩)⟩)⟩)⟩)⟩)
theorem zu_18 : ∀ q ∈ zp_c18, zv_vM q.2 ∧ zv_vP q.1 q.2 := (List.forall_mem_cons.mpr ⟨zq_288, (List.forall_mem_cons.mpr ⟨zq_289, (List.forall_mem_cons.mpr ⟨zq_290, (List.forall_mem_cons.mpr ⟨zq_291, (List.forall_mem_cons.mpr ⟨zq_292, (List.forall_mem_cons.mpr ⟨zq_293, (List.forall_mem_cons.mpr ⟨zq_294, (List.forall_mem_cons.mpr ⟨zq_295, (List.forall_mem_cons.mpr ⟨zq_296, (List.forall_mem_cons.mpr ⟨zq_297, (List.forall_mem_cons.mpr ⟨zq_298, (List.forall_mem_cons.mpr ⟨zq_299, (List.forall_mem_cons.mpr ⟨zq_300, (List.forall_mem_cons.mpr ⟨zq_301, (List.forall_mem_cons.mpr ⟨zq_302, (List.forall_mem_cons.mpr ⟨zq_303, (fun _ h => absurd h List.not_mem_nil)⟩)⟩)⟩)⟩)⟩)⟩)⟩)⟩)⟩)⟩)⟩)⟩)⟩)⟩)⟩)⟩)
theorem zu_19 : ∀ q ∈ zp_c19, zv_vM q.2 ∧ zv_vP q.1 q.2 := (List.forall_mem_cons.mpr ⟨zq_304, (List.forall_mem_cons.mpr ⟨zq_305, (List.forall_mem_cons.mpr ⟨zq_306, (List.forall_mem_cons.mpr ⟨zq_307, (List.forall_mem_cons.mpr ⟨zq_308, (List.forall_mem_cons.mpr ⟨zq_309, (List.forall_mem_cons.mpr ⟨zq_310, (List.forall_mem_cons.mpr ⟨zq_311, (List.forall_mem_cons.mpr ⟨zq_312, (List.forall_mem_cons.mpr ⟨zq_313, (List.forall_mem_cons.mpr ⟨zq_314, (List.forall_mem_cons.mpr ⟨zq_315, (List.forall_mem_cons.mpr ⟨zq_316, (List.forall_mem_cons.mpr ⟨zq_317, (fun _ h => absurd h List.not_mem_nil)⟩)⟩)⟩)⟩)⟩)⟩)⟩)⟩)⟩)⟩)⟩)⟩)⟩)⟩)
theorem zv_allP : ∀ id o M, zv_prog id = some (o, M) → zv_vM M ∧ zv_vP o M := by
  intro id o M h
  unfold zv_prog at h
  have hm := List.mem_of_getElem? h
  unfold zp_ch at hm
  split at hm
  · exact zu_0 _ hm
  · exact zu_1 _ hm
  · exact zu_2 _ hm
  · exact zu_3 _ hm
  · exact zu_4 _ hm
  · exact zu_5 _ hm
  · exact zu_6 _ hm
  · exact zu_7 _ hm
  · exact zu_8 _ hm
  · exact zu_9 _ hm
  · exact zu_10 _ hm
  · exact zu_11 _ hm
  · exact zu_12 _ hm
  · exact zu_13 _ hm
  · exact zu_14 _ hm
  · exact zu_15 _ hm
  · exact zu_16 _ hm
  · exact zu_17 _ hm
  · exact zu_18 _ hm
  · exact zu_19 _ hm
  · cases hm
end
