/-! a method's instructions held against its bytes in one walk -/
theorem zy_u1 {code : ByteArray} {p : Nat} {b : UInt8} (h : code.data.toList[p]? = some b) : (Reader.u1 : Decoder Nat) code p = .ok (b.toNat, p + 1) := by
  have hp : p < code.size := by
    have := (List.getElem?_eq_some_iff.mp h).1
    simpa using this
  have hb : code[p] = b := by
    have := (List.getElem?_eq_some_iff.mp h).2
    show code.data[p] = b
    simpa using this
  have e : (Reader.u1 : Decoder Nat) code p = (dite (p < code.size) (fun h => (Except.ok (code[p].toNat, p + 1) : Except DecodeError (Nat × Nat))) (fun _ => Except.error (HasTruncated.truncated p))) := by
    unfold Reader.u1
    by_cases hq : p < code.size
    · rw [dif_pos hq]
      show (dite (p < code.size) _ _ : Decoder Nat) code p = _
      rw [dif_pos hq]
      rfl
    · exact absurd hp hq
  rw [e, dif_pos hp, hb]
theorem zy_s1 {code : ByteArray} {p b : Nat} (h : (Reader.u1 : Decoder Nat) code p = .ok (b, p + 1)) : (Reader.s1 : Decoder Int) code p = .ok (Reader.signed 8 b, p + 1) := by
  unfold Reader.s1
  show Except.bind ((Reader.u1 : Decoder Nat) code p) _ = _
  rw [h]
  rfl
theorem zy_u2 {code : ByteArray} {p a b : Nat} (h : (Reader.u1 : Decoder Nat) code p = .ok (a, p + 1)) (h' : (Reader.u1 : Decoder Nat) code (p + 1) = .ok (b, p + 1 + 1)) : (Reader.u2 : Decoder Nat) code p = .ok (a * 256 + b, p + 1 + 1) := by
  unfold Reader.u2
  show Except.bind ((Reader.u1 : Decoder Nat) code p) _ = _
  rw [h]
  show Except.bind ((Reader.u1 : Decoder Nat) code (p + 1)) _ = _
  rw [h']
  rfl
theorem zy_s2 {code : ByteArray} {p x : Nat} (h : (Reader.u2 : Decoder Nat) code p = .ok (x, p + 1 + 1)) : (Reader.s2 : Decoder Int) code p = .ok (Reader.signed 16 x, p + 1 + 1) := by
  unfold Reader.s2
  show Except.bind ((Reader.u2 : Decoder Nat) code p) _ = _
  rw [h]
  rfl
theorem zy_dec {code : ByteArray} {pc n : Nat} {i : Instr} (h : Decoder.instr pc code pc = .ok (i, pc + n)) : decode code pc = .ok (i, n) := by
  unfold decode Reader.runAt
  show Except.bind (Decoder.instr pc code pc) _ = _
  rw [h]
  show (Except.ok (i, pc + n - pc) : Except DecodeError (Instr × Nat)) = _
  rw [Nat.add_sub_cancel_left]
theorem zy_aconst_null {code : ByteArray} {pc  : Nat} (hA : (Reader.u1 : Decoder Nat) code pc = .ok (1, pc + 1)) : decode code pc = .ok (.aconst_null, 1) := by
  refine zy_dec ?_
  show Except.bind ((Reader.u1 : Decoder Nat) code pc) _ = _
  rw [hA]
  rfl
theorem zy_iaload {code : ByteArray} {pc  : Nat} (hA : (Reader.u1 : Decoder Nat) code pc = .ok (46, pc + 1)) : decode code pc = .ok (.iaload, 1) := by
  refine zy_dec ?_
  show Except.bind ((Reader.u1 : Decoder Nat) code pc) _ = _
  rw [hA]
  rfl
theorem zy_laload {code : ByteArray} {pc  : Nat} (hA : (Reader.u1 : Decoder Nat) code pc = .ok (47, pc + 1)) : decode code pc = .ok (.laload, 1) := by
  refine zy_dec ?_
  show Except.bind ((Reader.u1 : Decoder Nat) code pc) _ = _
  rw [hA]
  rfl
theorem zy_aaload {code : ByteArray} {pc  : Nat} (hA : (Reader.u1 : Decoder Nat) code pc = .ok (50, pc + 1)) : decode code pc = .ok (.aaload, 1) := by
  refine zy_dec ?_
  show Except.bind ((Reader.u1 : Decoder Nat) code pc) _ = _
  rw [hA]
  rfl
theorem zy_baload {code : ByteArray} {pc  : Nat} (hA : (Reader.u1 : Decoder Nat) code pc = .ok (51, pc + 1)) : decode code pc = .ok (.baload, 1) := by
  refine zy_dec ?_
  show Except.bind ((Reader.u1 : Decoder Nat) code pc) _ = _
  rw [hA]
  rfl
theorem zy_iastore {code : ByteArray} {pc  : Nat} (hA : (Reader.u1 : Decoder Nat) code pc = .ok (79, pc + 1)) : decode code pc = .ok (.iastore, 1) := by
  refine zy_dec ?_
  show Except.bind ((Reader.u1 : Decoder Nat) code pc) _ = _
  rw [hA]
  rfl
theorem zy_lastore {code : ByteArray} {pc  : Nat} (hA : (Reader.u1 : Decoder Nat) code pc = .ok (80, pc + 1)) : decode code pc = .ok (.lastore, 1) := by
  refine zy_dec ?_
  show Except.bind ((Reader.u1 : Decoder Nat) code pc) _ = _
  rw [hA]
  rfl
theorem zy_aastore {code : ByteArray} {pc  : Nat} (hA : (Reader.u1 : Decoder Nat) code pc = .ok (83, pc + 1)) : decode code pc = .ok (.aastore, 1) := by
  refine zy_dec ?_
  show Except.bind ((Reader.u1 : Decoder Nat) code pc) _ = _
  rw [hA]
  rfl
theorem zy_bastore {code : ByteArray} {pc  : Nat} (hA : (Reader.u1 : Decoder Nat) code pc = .ok (84, pc + 1)) : decode code pc = .ok (.bastore, 1) := by
  refine zy_dec ?_
  show Except.bind ((Reader.u1 : Decoder Nat) code pc) _ = _
  rw [hA]
  rfl
theorem zy_pop {code : ByteArray} {pc  : Nat} (hA : (Reader.u1 : Decoder Nat) code pc = .ok (87, pc + 1)) : decode code pc = .ok (.pop, 1) := by
  refine zy_dec ?_
  show Except.bind ((Reader.u1 : Decoder Nat) code pc) _ = _
  rw [hA]
  rfl
theorem zy_dup {code : ByteArray} {pc  : Nat} (hA : (Reader.u1 : Decoder Nat) code pc = .ok (89, pc + 1)) : decode code pc = .ok (.dup, 1) := by
  refine zy_dec ?_
  show Except.bind ((Reader.u1 : Decoder Nat) code pc) _ = _
  rw [hA]
  rfl
theorem zy_dup2 {code : ByteArray} {pc  : Nat} (hA : (Reader.u1 : Decoder Nat) code pc = .ok (92, pc + 1)) : decode code pc = .ok (.dup2, 1) := by
  refine zy_dec ?_
  show Except.bind ((Reader.u1 : Decoder Nat) code pc) _ = _
  rw [hA]
  rfl
theorem zy_iadd {code : ByteArray} {pc  : Nat} (hA : (Reader.u1 : Decoder Nat) code pc = .ok (96, pc + 1)) : decode code pc = .ok (.iadd, 1) := by
  refine zy_dec ?_
  show Except.bind ((Reader.u1 : Decoder Nat) code pc) _ = _
  rw [hA]
  rfl
theorem zy_ladd {code : ByteArray} {pc  : Nat} (hA : (Reader.u1 : Decoder Nat) code pc = .ok (97, pc + 1)) : decode code pc = .ok (.ladd, 1) := by
  refine zy_dec ?_
  show Except.bind ((Reader.u1 : Decoder Nat) code pc) _ = _
  rw [hA]
  rfl
theorem zy_isub {code : ByteArray} {pc  : Nat} (hA : (Reader.u1 : Decoder Nat) code pc = .ok (100, pc + 1)) : decode code pc = .ok (.isub, 1) := by
  refine zy_dec ?_
  show Except.bind ((Reader.u1 : Decoder Nat) code pc) _ = _
  rw [hA]
  rfl
theorem zy_lsub {code : ByteArray} {pc  : Nat} (hA : (Reader.u1 : Decoder Nat) code pc = .ok (101, pc + 1)) : decode code pc = .ok (.lsub, 1) := by
  refine zy_dec ?_
  show Except.bind ((Reader.u1 : Decoder Nat) code pc) _ = _
  rw [hA]
  rfl
theorem zy_imul {code : ByteArray} {pc  : Nat} (hA : (Reader.u1 : Decoder Nat) code pc = .ok (104, pc + 1)) : decode code pc = .ok (.imul, 1) := by
  refine zy_dec ?_
  show Except.bind ((Reader.u1 : Decoder Nat) code pc) _ = _
  rw [hA]
  rfl
theorem zy_lmul {code : ByteArray} {pc  : Nat} (hA : (Reader.u1 : Decoder Nat) code pc = .ok (105, pc + 1)) : decode code pc = .ok (.lmul, 1) := by
  refine zy_dec ?_
  show Except.bind ((Reader.u1 : Decoder Nat) code pc) _ = _
  rw [hA]
  rfl
theorem zy_idiv {code : ByteArray} {pc  : Nat} (hA : (Reader.u1 : Decoder Nat) code pc = .ok (108, pc + 1)) : decode code pc = .ok (.idiv, 1) := by
  refine zy_dec ?_
  show Except.bind ((Reader.u1 : Decoder Nat) code pc) _ = _
  rw [hA]
  rfl
theorem zy_irem {code : ByteArray} {pc  : Nat} (hA : (Reader.u1 : Decoder Nat) code pc = .ok (112, pc + 1)) : decode code pc = .ok (.irem, 1) := by
  refine zy_dec ?_
  show Except.bind ((Reader.u1 : Decoder Nat) code pc) _ = _
  rw [hA]
  rfl
theorem zy_ineg {code : ByteArray} {pc  : Nat} (hA : (Reader.u1 : Decoder Nat) code pc = .ok (116, pc + 1)) : decode code pc = .ok (.ineg, 1) := by
  refine zy_dec ?_
  show Except.bind ((Reader.u1 : Decoder Nat) code pc) _ = _
  rw [hA]
  rfl
theorem zy_ishl {code : ByteArray} {pc  : Nat} (hA : (Reader.u1 : Decoder Nat) code pc = .ok (120, pc + 1)) : decode code pc = .ok (.ishl, 1) := by
  refine zy_dec ?_
  show Except.bind ((Reader.u1 : Decoder Nat) code pc) _ = _
  rw [hA]
  rfl
theorem zy_lshl {code : ByteArray} {pc  : Nat} (hA : (Reader.u1 : Decoder Nat) code pc = .ok (121, pc + 1)) : decode code pc = .ok (.lshl, 1) := by
  refine zy_dec ?_
  show Except.bind ((Reader.u1 : Decoder Nat) code pc) _ = _
  rw [hA]
  rfl
theorem zy_ishr {code : ByteArray} {pc  : Nat} (hA : (Reader.u1 : Decoder Nat) code pc = .ok (122, pc + 1)) : decode code pc = .ok (.ishr, 1) := by
  refine zy_dec ?_
  show Except.bind ((Reader.u1 : Decoder Nat) code pc) _ = _
  rw [hA]
  rfl
theorem zy_iushr {code : ByteArray} {pc  : Nat} (hA : (Reader.u1 : Decoder Nat) code pc = .ok (124, pc + 1)) : decode code pc = .ok (.iushr, 1) := by
  refine zy_dec ?_
  show Except.bind ((Reader.u1 : Decoder Nat) code pc) _ = _
  rw [hA]
  rfl
theorem zy_lushr {code : ByteArray} {pc  : Nat} (hA : (Reader.u1 : Decoder Nat) code pc = .ok (125, pc + 1)) : decode code pc = .ok (.lushr, 1) := by
  refine zy_dec ?_
  show Except.bind ((Reader.u1 : Decoder Nat) code pc) _ = _
  rw [hA]
  rfl
theorem zy_iand {code : ByteArray} {pc  : Nat} (hA : (Reader.u1 : Decoder Nat) code pc = .ok (126, pc + 1)) : decode code pc = .ok (.iand, 1) := by
  refine zy_dec ?_
  show Except.bind ((Reader.u1 : Decoder Nat) code pc) _ = _
  rw [hA]
  rfl
theorem zy_land {code : ByteArray} {pc  : Nat} (hA : (Reader.u1 : Decoder Nat) code pc = .ok (127, pc + 1)) : decode code pc = .ok (.land, 1) := by
  refine zy_dec ?_
  show Except.bind ((Reader.u1 : Decoder Nat) code pc) _ = _
  rw [hA]
  rfl
theorem zy_ior {code : ByteArray} {pc  : Nat} (hA : (Reader.u1 : Decoder Nat) code pc = .ok (128, pc + 1)) : decode code pc = .ok (.ior, 1) := by
  refine zy_dec ?_
  show Except.bind ((Reader.u1 : Decoder Nat) code pc) _ = _
  rw [hA]
  rfl
theorem zy_lor {code : ByteArray} {pc  : Nat} (hA : (Reader.u1 : Decoder Nat) code pc = .ok (129, pc + 1)) : decode code pc = .ok (.lor, 1) := by
  refine zy_dec ?_
  show Except.bind ((Reader.u1 : Decoder Nat) code pc) _ = _
  rw [hA]
  rfl
theorem zy_ixor {code : ByteArray} {pc  : Nat} (hA : (Reader.u1 : Decoder Nat) code pc = .ok (130, pc + 1)) : decode code pc = .ok (.ixor, 1) := by
  refine zy_dec ?_
  show Except.bind ((Reader.u1 : Decoder Nat) code pc) _ = _
  rw [hA]
  rfl
theorem zy_lxor {code : ByteArray} {pc  : Nat} (hA : (Reader.u1 : Decoder Nat) code pc = .ok (131, pc + 1)) : decode code pc = .ok (.lxor, 1) := by
  refine zy_dec ?_
  show Except.bind ((Reader.u1 : Decoder Nat) code pc) _ = _
  rw [hA]
  rfl
theorem zy_i2l {code : ByteArray} {pc  : Nat} (hA : (Reader.u1 : Decoder Nat) code pc = .ok (133, pc + 1)) : decode code pc = .ok (.i2l, 1) := by
  refine zy_dec ?_
  show Except.bind ((Reader.u1 : Decoder Nat) code pc) _ = _
  rw [hA]
  rfl
theorem zy_l2i {code : ByteArray} {pc  : Nat} (hA : (Reader.u1 : Decoder Nat) code pc = .ok (136, pc + 1)) : decode code pc = .ok (.l2i, 1) := by
  refine zy_dec ?_
  show Except.bind ((Reader.u1 : Decoder Nat) code pc) _ = _
  rw [hA]
  rfl
theorem zy_i2b {code : ByteArray} {pc  : Nat} (hA : (Reader.u1 : Decoder Nat) code pc = .ok (145, pc + 1)) : decode code pc = .ok (.i2b, 1) := by
  refine zy_dec ?_
  show Except.bind ((Reader.u1 : Decoder Nat) code pc) _ = _
  rw [hA]
  rfl
theorem zy_i2c {code : ByteArray} {pc  : Nat} (hA : (Reader.u1 : Decoder Nat) code pc = .ok (146, pc + 1)) : decode code pc = .ok (.i2c, 1) := by
  refine zy_dec ?_
  show Except.bind ((Reader.u1 : Decoder Nat) code pc) _ = _
  rw [hA]
  rfl
theorem zy_lcmp {code : ByteArray} {pc  : Nat} (hA : (Reader.u1 : Decoder Nat) code pc = .ok (148, pc + 1)) : decode code pc = .ok (.lcmp, 1) := by
  refine zy_dec ?_
  show Except.bind ((Reader.u1 : Decoder Nat) code pc) _ = _
  rw [hA]
  rfl
theorem zy_ireturn {code : ByteArray} {pc  : Nat} (hA : (Reader.u1 : Decoder Nat) code pc = .ok (172, pc + 1)) : decode code pc = .ok (.ireturn, 1) := by
  refine zy_dec ?_
  show Except.bind ((Reader.u1 : Decoder Nat) code pc) _ = _
  rw [hA]
  rfl
theorem zy_lreturn {code : ByteArray} {pc  : Nat} (hA : (Reader.u1 : Decoder Nat) code pc = .ok (173, pc + 1)) : decode code pc = .ok (.lreturn, 1) := by
  refine zy_dec ?_
  show Except.bind ((Reader.u1 : Decoder Nat) code pc) _ = _
  rw [hA]
  rfl
theorem zy_areturn {code : ByteArray} {pc  : Nat} (hA : (Reader.u1 : Decoder Nat) code pc = .ok (176, pc + 1)) : decode code pc = .ok (.areturn, 1) := by
  refine zy_dec ?_
  show Except.bind ((Reader.u1 : Decoder Nat) code pc) _ = _
  rw [hA]
  rfl
theorem zy_return_ {code : ByteArray} {pc  : Nat} (hA : (Reader.u1 : Decoder Nat) code pc = .ok (177, pc + 1)) : decode code pc = .ok (.return_, 1) := by
  refine zy_dec ?_
  show Except.bind ((Reader.u1 : Decoder Nat) code pc) _ = _
  rw [hA]
  rfl
theorem zy_arraylength {code : ByteArray} {pc  : Nat} (hA : (Reader.u1 : Decoder Nat) code pc = .ok (190, pc + 1)) : decode code pc = .ok (.arraylength, 1) := by
  refine zy_dec ?_
  show Except.bind ((Reader.u1 : Decoder Nat) code pc) _ = _
  rw [hA]
  rfl
theorem zy_iconst_0 {code : ByteArray} {pc  : Nat} (hA : (Reader.u1 : Decoder Nat) code pc = .ok (2, pc + 1)) : decode code pc = .ok (.iconst (-1), 1) := by
  refine zy_dec ?_
  show Except.bind ((Reader.u1 : Decoder Nat) code pc) _ = _
  rw [hA]
  rfl
theorem zy_iconst_1 {code : ByteArray} {pc  : Nat} (hA : (Reader.u1 : Decoder Nat) code pc = .ok (3, pc + 1)) : decode code pc = .ok (.iconst (0), 1) := by
  refine zy_dec ?_
  show Except.bind ((Reader.u1 : Decoder Nat) code pc) _ = _
  rw [hA]
  rfl
theorem zy_iconst_2 {code : ByteArray} {pc  : Nat} (hA : (Reader.u1 : Decoder Nat) code pc = .ok (4, pc + 1)) : decode code pc = .ok (.iconst (1), 1) := by
  refine zy_dec ?_
  show Except.bind ((Reader.u1 : Decoder Nat) code pc) _ = _
  rw [hA]
  rfl
theorem zy_iconst_3 {code : ByteArray} {pc  : Nat} (hA : (Reader.u1 : Decoder Nat) code pc = .ok (5, pc + 1)) : decode code pc = .ok (.iconst (2), 1) := by
  refine zy_dec ?_
  show Except.bind ((Reader.u1 : Decoder Nat) code pc) _ = _
  rw [hA]
  rfl
theorem zy_iconst_4 {code : ByteArray} {pc  : Nat} (hA : (Reader.u1 : Decoder Nat) code pc = .ok (6, pc + 1)) : decode code pc = .ok (.iconst (3), 1) := by
  refine zy_dec ?_
  show Except.bind ((Reader.u1 : Decoder Nat) code pc) _ = _
  rw [hA]
  rfl
theorem zy_iconst_5 {code : ByteArray} {pc  : Nat} (hA : (Reader.u1 : Decoder Nat) code pc = .ok (7, pc + 1)) : decode code pc = .ok (.iconst (4), 1) := by
  refine zy_dec ?_
  show Except.bind ((Reader.u1 : Decoder Nat) code pc) _ = _
  rw [hA]
  rfl
theorem zy_iconst_6 {code : ByteArray} {pc  : Nat} (hA : (Reader.u1 : Decoder Nat) code pc = .ok (8, pc + 1)) : decode code pc = .ok (.iconst (5), 1) := by
  refine zy_dec ?_
  show Except.bind ((Reader.u1 : Decoder Nat) code pc) _ = _
  rw [hA]
  rfl
theorem zy_lconst_0 {code : ByteArray} {pc  : Nat} (hA : (Reader.u1 : Decoder Nat) code pc = .ok (9, pc + 1)) : decode code pc = .ok (.lconst 0, 1) := by
  refine zy_dec ?_
  show Except.bind ((Reader.u1 : Decoder Nat) code pc) _ = _
  rw [hA]
  rfl
theorem zy_lconst_1 {code : ByteArray} {pc  : Nat} (hA : (Reader.u1 : Decoder Nat) code pc = .ok (10, pc + 1)) : decode code pc = .ok (.lconst 1, 1) := by
  refine zy_dec ?_
  show Except.bind ((Reader.u1 : Decoder Nat) code pc) _ = _
  rw [hA]
  rfl
theorem zy_iload_n_0 {code : ByteArray} {pc  : Nat} (hA : (Reader.u1 : Decoder Nat) code pc = .ok (26, pc + 1)) : decode code pc = .ok (.iload_n 0, 1) := by
  refine zy_dec ?_
  show Except.bind ((Reader.u1 : Decoder Nat) code pc) _ = _
  rw [hA]
  rfl
theorem zy_iload_n_1 {code : ByteArray} {pc  : Nat} (hA : (Reader.u1 : Decoder Nat) code pc = .ok (27, pc + 1)) : decode code pc = .ok (.iload_n 1, 1) := by
  refine zy_dec ?_
  show Except.bind ((Reader.u1 : Decoder Nat) code pc) _ = _
  rw [hA]
  rfl
theorem zy_iload_n_2 {code : ByteArray} {pc  : Nat} (hA : (Reader.u1 : Decoder Nat) code pc = .ok (28, pc + 1)) : decode code pc = .ok (.iload_n 2, 1) := by
  refine zy_dec ?_
  show Except.bind ((Reader.u1 : Decoder Nat) code pc) _ = _
  rw [hA]
  rfl
theorem zy_iload_n_3 {code : ByteArray} {pc  : Nat} (hA : (Reader.u1 : Decoder Nat) code pc = .ok (29, pc + 1)) : decode code pc = .ok (.iload_n 3, 1) := by
  refine zy_dec ?_
  show Except.bind ((Reader.u1 : Decoder Nat) code pc) _ = _
  rw [hA]
  rfl
theorem zy_lload_n_0 {code : ByteArray} {pc  : Nat} (hA : (Reader.u1 : Decoder Nat) code pc = .ok (30, pc + 1)) : decode code pc = .ok (.lload_n 0, 1) := by
  refine zy_dec ?_
  show Except.bind ((Reader.u1 : Decoder Nat) code pc) _ = _
  rw [hA]
  rfl
theorem zy_lload_n_1 {code : ByteArray} {pc  : Nat} (hA : (Reader.u1 : Decoder Nat) code pc = .ok (31, pc + 1)) : decode code pc = .ok (.lload_n 1, 1) := by
  refine zy_dec ?_
  show Except.bind ((Reader.u1 : Decoder Nat) code pc) _ = _
  rw [hA]
  rfl
theorem zy_lload_n_2 {code : ByteArray} {pc  : Nat} (hA : (Reader.u1 : Decoder Nat) code pc = .ok (32, pc + 1)) : decode code pc = .ok (.lload_n 2, 1) := by
  refine zy_dec ?_
  show Except.bind ((Reader.u1 : Decoder Nat) code pc) _ = _
  rw [hA]
  rfl
theorem zy_lload_n_3 {code : ByteArray} {pc  : Nat} (hA : (Reader.u1 : Decoder Nat) code pc = .ok (33, pc + 1)) : decode code pc = .ok (.lload_n 3, 1) := by
  refine zy_dec ?_
  show Except.bind ((Reader.u1 : Decoder Nat) code pc) _ = _
  rw [hA]
  rfl
theorem zy_aload_n_0 {code : ByteArray} {pc  : Nat} (hA : (Reader.u1 : Decoder Nat) code pc = .ok (42, pc + 1)) : decode code pc = .ok (.aload_n 0, 1) := by
  refine zy_dec ?_
  show Except.bind ((Reader.u1 : Decoder Nat) code pc) _ = _
  rw [hA]
  rfl
theorem zy_aload_n_1 {code : ByteArray} {pc  : Nat} (hA : (Reader.u1 : Decoder Nat) code pc = .ok (43, pc + 1)) : decode code pc = .ok (.aload_n 1, 1) := by
  refine zy_dec ?_
  show Except.bind ((Reader.u1 : Decoder Nat) code pc) _ = _
  rw [hA]
  rfl
theorem zy_aload_n_2 {code : ByteArray} {pc  : Nat} (hA : (Reader.u1 : Decoder Nat) code pc = .ok (44, pc + 1)) : decode code pc = .ok (.aload_n 2, 1) := by
  refine zy_dec ?_
  show Except.bind ((Reader.u1 : Decoder Nat) code pc) _ = _
  rw [hA]
  rfl
theorem zy_aload_n_3 {code : ByteArray} {pc  : Nat} (hA : (Reader.u1 : Decoder Nat) code pc = .ok (45, pc + 1)) : decode code pc = .ok (.aload_n 3, 1) := by
  refine zy_dec ?_
  show Except.bind ((Reader.u1 : Decoder Nat) code pc) _ = _
  rw [hA]
  rfl
theorem zy_istore_n_0 {code : ByteArray} {pc  : Nat} (hA : (Reader.u1 : Decoder Nat) code pc = .ok (59, pc + 1)) : decode code pc = .ok (.istore_n 0, 1) := by
  refine zy_dec ?_
  show Except.bind ((Reader.u1 : Decoder Nat) code pc) _ = _
  rw [hA]
  rfl
theorem zy_istore_n_1 {code : ByteArray} {pc  : Nat} (hA : (Reader.u1 : Decoder Nat) code pc = .ok (60, pc + 1)) : decode code pc = .ok (.istore_n 1, 1) := by
  refine zy_dec ?_
  show Except.bind ((Reader.u1 : Decoder Nat) code pc) _ = _
  rw [hA]
  rfl
theorem zy_istore_n_2 {code : ByteArray} {pc  : Nat} (hA : (Reader.u1 : Decoder Nat) code pc = .ok (61, pc + 1)) : decode code pc = .ok (.istore_n 2, 1) := by
  refine zy_dec ?_
  show Except.bind ((Reader.u1 : Decoder Nat) code pc) _ = _
  rw [hA]
  rfl
theorem zy_istore_n_3 {code : ByteArray} {pc  : Nat} (hA : (Reader.u1 : Decoder Nat) code pc = .ok (62, pc + 1)) : decode code pc = .ok (.istore_n 3, 1) := by
  refine zy_dec ?_
  show Except.bind ((Reader.u1 : Decoder Nat) code pc) _ = _
  rw [hA]
  rfl
theorem zy_lstore_n_0 {code : ByteArray} {pc  : Nat} (hA : (Reader.u1 : Decoder Nat) code pc = .ok (63, pc + 1)) : decode code pc = .ok (.lstore_n 0, 1) := by
  refine zy_dec ?_
  show Except.bind ((Reader.u1 : Decoder Nat) code pc) _ = _
  rw [hA]
  rfl
theorem zy_lstore_n_1 {code : ByteArray} {pc  : Nat} (hA : (Reader.u1 : Decoder Nat) code pc = .ok (64, pc + 1)) : decode code pc = .ok (.lstore_n 1, 1) := by
  refine zy_dec ?_
  show Except.bind ((Reader.u1 : Decoder Nat) code pc) _ = _
  rw [hA]
  rfl
theorem zy_lstore_n_2 {code : ByteArray} {pc  : Nat} (hA : (Reader.u1 : Decoder Nat) code pc = .ok (65, pc + 1)) : decode code pc = .ok (.lstore_n 2, 1) := by
  refine zy_dec ?_
  show Except.bind ((Reader.u1 : Decoder Nat) code pc) _ = _
  rw [hA]
  rfl
theorem zy_lstore_n_3 {code : ByteArray} {pc  : Nat} (hA : (Reader.u1 : Decoder Nat) code pc = .ok (66, pc + 1)) : decode code pc = .ok (.lstore_n 3, 1) := by
  refine zy_dec ?_
  show Except.bind ((Reader.u1 : Decoder Nat) code pc) _ = _
  rw [hA]
  rfl
theorem zy_astore_n_0 {code : ByteArray} {pc  : Nat} (hA : (Reader.u1 : Decoder Nat) code pc = .ok (75, pc + 1)) : decode code pc = .ok (.astore_n 0, 1) := by
  refine zy_dec ?_
  show Except.bind ((Reader.u1 : Decoder Nat) code pc) _ = _
  rw [hA]
  rfl
theorem zy_astore_n_1 {code : ByteArray} {pc  : Nat} (hA : (Reader.u1 : Decoder Nat) code pc = .ok (76, pc + 1)) : decode code pc = .ok (.astore_n 1, 1) := by
  refine zy_dec ?_
  show Except.bind ((Reader.u1 : Decoder Nat) code pc) _ = _
  rw [hA]
  rfl
theorem zy_astore_n_2 {code : ByteArray} {pc  : Nat} (hA : (Reader.u1 : Decoder Nat) code pc = .ok (77, pc + 1)) : decode code pc = .ok (.astore_n 2, 1) := by
  refine zy_dec ?_
  show Except.bind ((Reader.u1 : Decoder Nat) code pc) _ = _
  rw [hA]
  rfl
theorem zy_astore_n_3 {code : ByteArray} {pc  : Nat} (hA : (Reader.u1 : Decoder Nat) code pc = .ok (78, pc + 1)) : decode code pc = .ok (.astore_n 3, 1) := by
  refine zy_dec ?_
  show Except.bind ((Reader.u1 : Decoder Nat) code pc) _ = _
  rw [hA]
  rfl
theorem zy_ldc {code : ByteArray} {pc x : Nat} (hA : (Reader.u1 : Decoder Nat) code pc = .ok (18, pc + 1)) (hB : (Reader.u1 : Decoder Nat) code (pc + 1) = .ok (x, pc + 1 + 1)) : decode code pc = .ok (.ldc x, 2) := by
  refine zy_dec ?_
  show Except.bind ((Reader.u1 : Decoder Nat) code pc) _ = _
  rw [hA]
  show Except.bind ((Reader.u1 : Decoder Nat) code (pc + 1)) _ = _
  rw [hB]
  rfl
theorem zy_iload {code : ByteArray} {pc x : Nat} (hA : (Reader.u1 : Decoder Nat) code pc = .ok (21, pc + 1)) (hB : (Reader.u1 : Decoder Nat) code (pc + 1) = .ok (x, pc + 1 + 1)) : decode code pc = .ok (.iload x, 2) := by
  refine zy_dec ?_
  show Except.bind ((Reader.u1 : Decoder Nat) code pc) _ = _
  rw [hA]
  show Except.bind ((Reader.u1 : Decoder Nat) code (pc + 1)) _ = _
  rw [hB]
  rfl
theorem zy_lload {code : ByteArray} {pc x : Nat} (hA : (Reader.u1 : Decoder Nat) code pc = .ok (22, pc + 1)) (hB : (Reader.u1 : Decoder Nat) code (pc + 1) = .ok (x, pc + 1 + 1)) : decode code pc = .ok (.lload x, 2) := by
  refine zy_dec ?_
  show Except.bind ((Reader.u1 : Decoder Nat) code pc) _ = _
  rw [hA]
  show Except.bind ((Reader.u1 : Decoder Nat) code (pc + 1)) _ = _
  rw [hB]
  rfl
theorem zy_aload {code : ByteArray} {pc x : Nat} (hA : (Reader.u1 : Decoder Nat) code pc = .ok (25, pc + 1)) (hB : (Reader.u1 : Decoder Nat) code (pc + 1) = .ok (x, pc + 1 + 1)) : decode code pc = .ok (.aload x, 2) := by
  refine zy_dec ?_
  show Except.bind ((Reader.u1 : Decoder Nat) code pc) _ = _
  rw [hA]
  show Except.bind ((Reader.u1 : Decoder Nat) code (pc + 1)) _ = _
  rw [hB]
  rfl
theorem zy_istore {code : ByteArray} {pc x : Nat} (hA : (Reader.u1 : Decoder Nat) code pc = .ok (54, pc + 1)) (hB : (Reader.u1 : Decoder Nat) code (pc + 1) = .ok (x, pc + 1 + 1)) : decode code pc = .ok (.istore x, 2) := by
  refine zy_dec ?_
  show Except.bind ((Reader.u1 : Decoder Nat) code pc) _ = _
  rw [hA]
  show Except.bind ((Reader.u1 : Decoder Nat) code (pc + 1)) _ = _
  rw [hB]
  rfl
theorem zy_lstore {code : ByteArray} {pc x : Nat} (hA : (Reader.u1 : Decoder Nat) code pc = .ok (55, pc + 1)) (hB : (Reader.u1 : Decoder Nat) code (pc + 1) = .ok (x, pc + 1 + 1)) : decode code pc = .ok (.lstore x, 2) := by
  refine zy_dec ?_
  show Except.bind ((Reader.u1 : Decoder Nat) code pc) _ = _
  rw [hA]
  show Except.bind ((Reader.u1 : Decoder Nat) code (pc + 1)) _ = _
  rw [hB]
  rfl
theorem zy_astore {code : ByteArray} {pc x : Nat} (hA : (Reader.u1 : Decoder Nat) code pc = .ok (58, pc + 1)) (hB : (Reader.u1 : Decoder Nat) code (pc + 1) = .ok (x, pc + 1 + 1)) : decode code pc = .ok (.astore x, 2) := by
  refine zy_dec ?_
  show Except.bind ((Reader.u1 : Decoder Nat) code pc) _ = _
  rw [hA]
  show Except.bind ((Reader.u1 : Decoder Nat) code (pc + 1)) _ = _
  rw [hB]
  rfl
theorem zy_bipush {code : ByteArray} {pc x : Nat} (hA : (Reader.u1 : Decoder Nat) code pc = .ok (16, pc + 1)) (hB : (Reader.u1 : Decoder Nat) code (pc + 1) = .ok (x, pc + 1 + 1)) : decode code pc = .ok (.bipush (Reader.signed 8 x), 2) := by
  refine zy_dec ?_
  show Except.bind ((Reader.u1 : Decoder Nat) code pc) _ = _
  rw [hA]
  show Except.bind ((Reader.s1 : Decoder Int) code (pc + 1)) _ = _
  rw [zy_s1 hB]
  rfl
theorem zy_newarray_4 {code : ByteArray} {pc : Nat} (hA : (Reader.u1 : Decoder Nat) code pc = .ok (188, pc + 1)) (hB : (Reader.u1 : Decoder Nat) code (pc + 1) = .ok (4, pc + 1 + 1)) : decode code pc = .ok (.newarray .boolean, 2) := by
  refine zy_dec ?_
  show Except.bind ((Reader.u1 : Decoder Nat) code pc) _ = _
  rw [hA]
  show Except.bind ((Reader.u1 : Decoder Nat) code (pc + 1)) _ = _
  rw [hB]
  rfl
theorem zy_newarray_5 {code : ByteArray} {pc : Nat} (hA : (Reader.u1 : Decoder Nat) code pc = .ok (188, pc + 1)) (hB : (Reader.u1 : Decoder Nat) code (pc + 1) = .ok (5, pc + 1 + 1)) : decode code pc = .ok (.newarray .char, 2) := by
  refine zy_dec ?_
  show Except.bind ((Reader.u1 : Decoder Nat) code pc) _ = _
  rw [hA]
  show Except.bind ((Reader.u1 : Decoder Nat) code (pc + 1)) _ = _
  rw [hB]
  rfl
theorem zy_newarray_6 {code : ByteArray} {pc : Nat} (hA : (Reader.u1 : Decoder Nat) code pc = .ok (188, pc + 1)) (hB : (Reader.u1 : Decoder Nat) code (pc + 1) = .ok (6, pc + 1 + 1)) : decode code pc = .ok (.newarray .float, 2) := by
  refine zy_dec ?_
  show Except.bind ((Reader.u1 : Decoder Nat) code pc) _ = _
  rw [hA]
  show Except.bind ((Reader.u1 : Decoder Nat) code (pc + 1)) _ = _
  rw [hB]
  rfl
theorem zy_newarray_7 {code : ByteArray} {pc : Nat} (hA : (Reader.u1 : Decoder Nat) code pc = .ok (188, pc + 1)) (hB : (Reader.u1 : Decoder Nat) code (pc + 1) = .ok (7, pc + 1 + 1)) : decode code pc = .ok (.newarray .double, 2) := by
  refine zy_dec ?_
  show Except.bind ((Reader.u1 : Decoder Nat) code pc) _ = _
  rw [hA]
  show Except.bind ((Reader.u1 : Decoder Nat) code (pc + 1)) _ = _
  rw [hB]
  rfl
theorem zy_newarray_8 {code : ByteArray} {pc : Nat} (hA : (Reader.u1 : Decoder Nat) code pc = .ok (188, pc + 1)) (hB : (Reader.u1 : Decoder Nat) code (pc + 1) = .ok (8, pc + 1 + 1)) : decode code pc = .ok (.newarray .byte, 2) := by
  refine zy_dec ?_
  show Except.bind ((Reader.u1 : Decoder Nat) code pc) _ = _
  rw [hA]
  show Except.bind ((Reader.u1 : Decoder Nat) code (pc + 1)) _ = _
  rw [hB]
  rfl
theorem zy_newarray_9 {code : ByteArray} {pc : Nat} (hA : (Reader.u1 : Decoder Nat) code pc = .ok (188, pc + 1)) (hB : (Reader.u1 : Decoder Nat) code (pc + 1) = .ok (9, pc + 1 + 1)) : decode code pc = .ok (.newarray .short, 2) := by
  refine zy_dec ?_
  show Except.bind ((Reader.u1 : Decoder Nat) code pc) _ = _
  rw [hA]
  show Except.bind ((Reader.u1 : Decoder Nat) code (pc + 1)) _ = _
  rw [hB]
  rfl
theorem zy_newarray_10 {code : ByteArray} {pc : Nat} (hA : (Reader.u1 : Decoder Nat) code pc = .ok (188, pc + 1)) (hB : (Reader.u1 : Decoder Nat) code (pc + 1) = .ok (10, pc + 1 + 1)) : decode code pc = .ok (.newarray .int, 2) := by
  refine zy_dec ?_
  show Except.bind ((Reader.u1 : Decoder Nat) code pc) _ = _
  rw [hA]
  show Except.bind ((Reader.u1 : Decoder Nat) code (pc + 1)) _ = _
  rw [hB]
  rfl
theorem zy_newarray_11 {code : ByteArray} {pc : Nat} (hA : (Reader.u1 : Decoder Nat) code pc = .ok (188, pc + 1)) (hB : (Reader.u1 : Decoder Nat) code (pc + 1) = .ok (11, pc + 1 + 1)) : decode code pc = .ok (.newarray .long, 2) := by
  refine zy_dec ?_
  show Except.bind ((Reader.u1 : Decoder Nat) code pc) _ = _
  rw [hA]
  show Except.bind ((Reader.u1 : Decoder Nat) code (pc + 1)) _ = _
  rw [hB]
  rfl
theorem zy_ldc_w {code : ByteArray} {pc x : Nat} (hA : (Reader.u1 : Decoder Nat) code pc = .ok (19, pc + 1)) (hB : (Reader.u2 : Decoder Nat) code (pc + 1) = .ok (x, pc + 1 + 1 + 1)) : decode code pc = .ok (.ldc_w x, 3) := by
  refine zy_dec ?_
  show Except.bind ((Reader.u1 : Decoder Nat) code pc) _ = _
  rw [hA]
  show Except.bind ((Reader.u2 : Decoder Nat) code (pc + 1)) _ = _
  rw [hB]
  rfl
theorem zy_ldc2_w {code : ByteArray} {pc x : Nat} (hA : (Reader.u1 : Decoder Nat) code pc = .ok (20, pc + 1)) (hB : (Reader.u2 : Decoder Nat) code (pc + 1) = .ok (x, pc + 1 + 1 + 1)) : decode code pc = .ok (.ldc2_w x, 3) := by
  refine zy_dec ?_
  show Except.bind ((Reader.u1 : Decoder Nat) code pc) _ = _
  rw [hA]
  show Except.bind ((Reader.u2 : Decoder Nat) code (pc + 1)) _ = _
  rw [hB]
  rfl
theorem zy_getstatic {code : ByteArray} {pc x : Nat} (hA : (Reader.u1 : Decoder Nat) code pc = .ok (178, pc + 1)) (hB : (Reader.u2 : Decoder Nat) code (pc + 1) = .ok (x, pc + 1 + 1 + 1)) : decode code pc = .ok (.getstatic x, 3) := by
  refine zy_dec ?_
  show Except.bind ((Reader.u1 : Decoder Nat) code pc) _ = _
  rw [hA]
  show Except.bind ((Reader.u2 : Decoder Nat) code (pc + 1)) _ = _
  rw [hB]
  rfl
theorem zy_getfield {code : ByteArray} {pc x : Nat} (hA : (Reader.u1 : Decoder Nat) code pc = .ok (180, pc + 1)) (hB : (Reader.u2 : Decoder Nat) code (pc + 1) = .ok (x, pc + 1 + 1 + 1)) : decode code pc = .ok (.getfield x, 3) := by
  refine zy_dec ?_
  show Except.bind ((Reader.u1 : Decoder Nat) code pc) _ = _
  rw [hA]
  show Except.bind ((Reader.u2 : Decoder Nat) code (pc + 1)) _ = _
  rw [hB]
  rfl
theorem zy_putfield {code : ByteArray} {pc x : Nat} (hA : (Reader.u1 : Decoder Nat) code pc = .ok (181, pc + 1)) (hB : (Reader.u2 : Decoder Nat) code (pc + 1) = .ok (x, pc + 1 + 1 + 1)) : decode code pc = .ok (.putfield x, 3) := by
  refine zy_dec ?_
  show Except.bind ((Reader.u1 : Decoder Nat) code pc) _ = _
  rw [hA]
  show Except.bind ((Reader.u2 : Decoder Nat) code (pc + 1)) _ = _
  rw [hB]
  rfl
theorem zy_invokevirtual {code : ByteArray} {pc x : Nat} (hA : (Reader.u1 : Decoder Nat) code pc = .ok (182, pc + 1)) (hB : (Reader.u2 : Decoder Nat) code (pc + 1) = .ok (x, pc + 1 + 1 + 1)) : decode code pc = .ok (.invokevirtual x, 3) := by
  refine zy_dec ?_
  show Except.bind ((Reader.u1 : Decoder Nat) code pc) _ = _
  rw [hA]
  show Except.bind ((Reader.u2 : Decoder Nat) code (pc + 1)) _ = _
  rw [hB]
  rfl
theorem zy_invokespecial {code : ByteArray} {pc x : Nat} (hA : (Reader.u1 : Decoder Nat) code pc = .ok (183, pc + 1)) (hB : (Reader.u2 : Decoder Nat) code (pc + 1) = .ok (x, pc + 1 + 1 + 1)) : decode code pc = .ok (.invokespecial x, 3) := by
  refine zy_dec ?_
  show Except.bind ((Reader.u1 : Decoder Nat) code pc) _ = _
  rw [hA]
  show Except.bind ((Reader.u2 : Decoder Nat) code (pc + 1)) _ = _
  rw [hB]
  rfl
theorem zy_invokestatic {code : ByteArray} {pc x : Nat} (hA : (Reader.u1 : Decoder Nat) code pc = .ok (184, pc + 1)) (hB : (Reader.u2 : Decoder Nat) code (pc + 1) = .ok (x, pc + 1 + 1 + 1)) : decode code pc = .ok (.invokestatic x, 3) := by
  refine zy_dec ?_
  show Except.bind ((Reader.u1 : Decoder Nat) code pc) _ = _
  rw [hA]
  show Except.bind ((Reader.u2 : Decoder Nat) code (pc + 1)) _ = _
  rw [hB]
  rfl
theorem zy_new {code : ByteArray} {pc x : Nat} (hA : (Reader.u1 : Decoder Nat) code pc = .ok (187, pc + 1)) (hB : (Reader.u2 : Decoder Nat) code (pc + 1) = .ok (x, pc + 1 + 1 + 1)) : decode code pc = .ok (.new x, 3) := by
  refine zy_dec ?_
  show Except.bind ((Reader.u1 : Decoder Nat) code pc) _ = _
  rw [hA]
  show Except.bind ((Reader.u2 : Decoder Nat) code (pc + 1)) _ = _
  rw [hB]
  rfl
theorem zy_anewarray {code : ByteArray} {pc x : Nat} (hA : (Reader.u1 : Decoder Nat) code pc = .ok (189, pc + 1)) (hB : (Reader.u2 : Decoder Nat) code (pc + 1) = .ok (x, pc + 1 + 1 + 1)) : decode code pc = .ok (.anewarray x, 3) := by
  refine zy_dec ?_
  show Except.bind ((Reader.u1 : Decoder Nat) code pc) _ = _
  rw [hA]
  show Except.bind ((Reader.u2 : Decoder Nat) code (pc + 1)) _ = _
  rw [hB]
  rfl
theorem zy_sipush {code : ByteArray} {pc x : Nat} (hA : (Reader.u1 : Decoder Nat) code pc = .ok (17, pc + 1)) (hB : (Reader.u2 : Decoder Nat) code (pc + 1) = .ok (x, pc + 1 + 1 + 1)) : decode code pc = .ok (.sipush (Reader.signed 16 x), 3) := by
  refine zy_dec ?_
  show Except.bind ((Reader.u1 : Decoder Nat) code pc) _ = _
  rw [hA]
  show Except.bind ((Reader.s2 : Decoder Int) code (pc + 1)) _ = _
  rw [zy_s2 hB]
  rfl
theorem zy_goto {code : ByteArray} {pc x : Nat} (hA : (Reader.u1 : Decoder Nat) code pc = .ok (167, pc + 1)) (hB : (Reader.u2 : Decoder Nat) code (pc + 1) = .ok (x, pc + 1 + 1 + 1)) : decode code pc = .ok (.goto (Reader.signed 16 x), 3) := by
  refine zy_dec ?_
  show Except.bind ((Reader.u1 : Decoder Nat) code pc) _ = _
  rw [hA]
  show Except.bind ((Reader.s2 : Decoder Int) code (pc + 1)) _ = _
  rw [zy_s2 hB]
  rfl
theorem zy_ifnull {code : ByteArray} {pc x : Nat} (hA : (Reader.u1 : Decoder Nat) code pc = .ok (198, pc + 1)) (hB : (Reader.u2 : Decoder Nat) code (pc + 1) = .ok (x, pc + 1 + 1 + 1)) : decode code pc = .ok (.ifnull (Reader.signed 16 x), 3) := by
  refine zy_dec ?_
  show Except.bind ((Reader.u1 : Decoder Nat) code pc) _ = _
  rw [hA]
  show Except.bind ((Reader.s2 : Decoder Int) code (pc + 1)) _ = _
  rw [zy_s2 hB]
  rfl
theorem zy_ifnonnull {code : ByteArray} {pc x : Nat} (hA : (Reader.u1 : Decoder Nat) code pc = .ok (199, pc + 1)) (hB : (Reader.u2 : Decoder Nat) code (pc + 1) = .ok (x, pc + 1 + 1 + 1)) : decode code pc = .ok (.ifnonnull (Reader.signed 16 x), 3) := by
  refine zy_dec ?_
  show Except.bind ((Reader.u1 : Decoder Nat) code pc) _ = _
  rw [hA]
  show Except.bind ((Reader.s2 : Decoder Int) code (pc + 1)) _ = _
  rw [zy_s2 hB]
  rfl
theorem zy_ifCond_eq {code : ByteArray} {pc x : Nat} (hA : (Reader.u1 : Decoder Nat) code pc = .ok (153, pc + 1)) (hB : (Reader.u2 : Decoder Nat) code (pc + 1) = .ok (x, pc + 1 + 1 + 1)) : decode code pc = .ok (.ifCond .eq (Reader.signed 16 x), 3) := by
  refine zy_dec ?_
  show Except.bind ((Reader.u1 : Decoder Nat) code pc) _ = _
  rw [hA]
  show Except.bind ((Reader.s2 : Decoder Int) code (pc + 1)) _ = _
  rw [zy_s2 hB]
  rfl
theorem zy_if_icmp_eq {code : ByteArray} {pc x : Nat} (hA : (Reader.u1 : Decoder Nat) code pc = .ok (159, pc + 1)) (hB : (Reader.u2 : Decoder Nat) code (pc + 1) = .ok (x, pc + 1 + 1 + 1)) : decode code pc = .ok (.if_icmp .eq (Reader.signed 16 x), 3) := by
  refine zy_dec ?_
  show Except.bind ((Reader.u1 : Decoder Nat) code pc) _ = _
  rw [hA]
  show Except.bind ((Reader.s2 : Decoder Int) code (pc + 1)) _ = _
  rw [zy_s2 hB]
  rfl
theorem zy_ifCond_ne {code : ByteArray} {pc x : Nat} (hA : (Reader.u1 : Decoder Nat) code pc = .ok (154, pc + 1)) (hB : (Reader.u2 : Decoder Nat) code (pc + 1) = .ok (x, pc + 1 + 1 + 1)) : decode code pc = .ok (.ifCond .ne (Reader.signed 16 x), 3) := by
  refine zy_dec ?_
  show Except.bind ((Reader.u1 : Decoder Nat) code pc) _ = _
  rw [hA]
  show Except.bind ((Reader.s2 : Decoder Int) code (pc + 1)) _ = _
  rw [zy_s2 hB]
  rfl
theorem zy_if_icmp_ne {code : ByteArray} {pc x : Nat} (hA : (Reader.u1 : Decoder Nat) code pc = .ok (160, pc + 1)) (hB : (Reader.u2 : Decoder Nat) code (pc + 1) = .ok (x, pc + 1 + 1 + 1)) : decode code pc = .ok (.if_icmp .ne (Reader.signed 16 x), 3) := by
  refine zy_dec ?_
  show Except.bind ((Reader.u1 : Decoder Nat) code pc) _ = _
  rw [hA]
  show Except.bind ((Reader.s2 : Decoder Int) code (pc + 1)) _ = _
  rw [zy_s2 hB]
  rfl
theorem zy_ifCond_lt {code : ByteArray} {pc x : Nat} (hA : (Reader.u1 : Decoder Nat) code pc = .ok (155, pc + 1)) (hB : (Reader.u2 : Decoder Nat) code (pc + 1) = .ok (x, pc + 1 + 1 + 1)) : decode code pc = .ok (.ifCond .lt (Reader.signed 16 x), 3) := by
  refine zy_dec ?_
  show Except.bind ((Reader.u1 : Decoder Nat) code pc) _ = _
  rw [hA]
  show Except.bind ((Reader.s2 : Decoder Int) code (pc + 1)) _ = _
  rw [zy_s2 hB]
  rfl
theorem zy_if_icmp_lt {code : ByteArray} {pc x : Nat} (hA : (Reader.u1 : Decoder Nat) code pc = .ok (161, pc + 1)) (hB : (Reader.u2 : Decoder Nat) code (pc + 1) = .ok (x, pc + 1 + 1 + 1)) : decode code pc = .ok (.if_icmp .lt (Reader.signed 16 x), 3) := by
  refine zy_dec ?_
  show Except.bind ((Reader.u1 : Decoder Nat) code pc) _ = _
  rw [hA]
  show Except.bind ((Reader.s2 : Decoder Int) code (pc + 1)) _ = _
  rw [zy_s2 hB]
  rfl
theorem zy_ifCond_ge {code : ByteArray} {pc x : Nat} (hA : (Reader.u1 : Decoder Nat) code pc = .ok (156, pc + 1)) (hB : (Reader.u2 : Decoder Nat) code (pc + 1) = .ok (x, pc + 1 + 1 + 1)) : decode code pc = .ok (.ifCond .ge (Reader.signed 16 x), 3) := by
  refine zy_dec ?_
  show Except.bind ((Reader.u1 : Decoder Nat) code pc) _ = _
  rw [hA]
  show Except.bind ((Reader.s2 : Decoder Int) code (pc + 1)) _ = _
  rw [zy_s2 hB]
  rfl
theorem zy_if_icmp_ge {code : ByteArray} {pc x : Nat} (hA : (Reader.u1 : Decoder Nat) code pc = .ok (162, pc + 1)) (hB : (Reader.u2 : Decoder Nat) code (pc + 1) = .ok (x, pc + 1 + 1 + 1)) : decode code pc = .ok (.if_icmp .ge (Reader.signed 16 x), 3) := by
  refine zy_dec ?_
  show Except.bind ((Reader.u1 : Decoder Nat) code pc) _ = _
  rw [hA]
  show Except.bind ((Reader.s2 : Decoder Int) code (pc + 1)) _ = _
  rw [zy_s2 hB]
  rfl
theorem zy_ifCond_gt {code : ByteArray} {pc x : Nat} (hA : (Reader.u1 : Decoder Nat) code pc = .ok (157, pc + 1)) (hB : (Reader.u2 : Decoder Nat) code (pc + 1) = .ok (x, pc + 1 + 1 + 1)) : decode code pc = .ok (.ifCond .gt (Reader.signed 16 x), 3) := by
  refine zy_dec ?_
  show Except.bind ((Reader.u1 : Decoder Nat) code pc) _ = _
  rw [hA]
  show Except.bind ((Reader.s2 : Decoder Int) code (pc + 1)) _ = _
  rw [zy_s2 hB]
  rfl
theorem zy_if_icmp_gt {code : ByteArray} {pc x : Nat} (hA : (Reader.u1 : Decoder Nat) code pc = .ok (163, pc + 1)) (hB : (Reader.u2 : Decoder Nat) code (pc + 1) = .ok (x, pc + 1 + 1 + 1)) : decode code pc = .ok (.if_icmp .gt (Reader.signed 16 x), 3) := by
  refine zy_dec ?_
  show Except.bind ((Reader.u1 : Decoder Nat) code pc) _ = _
  rw [hA]
  show Except.bind ((Reader.s2 : Decoder Int) code (pc + 1)) _ = _
  rw [zy_s2 hB]
  rfl
theorem zy_ifCond_le {code : ByteArray} {pc x : Nat} (hA : (Reader.u1 : Decoder Nat) code pc = .ok (158, pc + 1)) (hB : (Reader.u2 : Decoder Nat) code (pc + 1) = .ok (x, pc + 1 + 1 + 1)) : decode code pc = .ok (.ifCond .le (Reader.signed 16 x), 3) := by
  refine zy_dec ?_
  show Except.bind ((Reader.u1 : Decoder Nat) code pc) _ = _
  rw [hA]
  show Except.bind ((Reader.s2 : Decoder Int) code (pc + 1)) _ = _
  rw [zy_s2 hB]
  rfl
theorem zy_if_icmp_le {code : ByteArray} {pc x : Nat} (hA : (Reader.u1 : Decoder Nat) code pc = .ok (164, pc + 1)) (hB : (Reader.u2 : Decoder Nat) code (pc + 1) = .ok (x, pc + 1 + 1 + 1)) : decode code pc = .ok (.if_icmp .le (Reader.signed 16 x), 3) := by
  refine zy_dec ?_
  show Except.bind ((Reader.u1 : Decoder Nat) code pc) _ = _
  rw [hA]
  show Except.bind ((Reader.s2 : Decoder Int) code (pc + 1)) _ = _
  rw [zy_s2 hB]
  rfl
theorem zy_if_acmp_eq {code : ByteArray} {pc x : Nat} (hA : (Reader.u1 : Decoder Nat) code pc = .ok (165, pc + 1)) (hB : (Reader.u2 : Decoder Nat) code (pc + 1) = .ok (x, pc + 1 + 1 + 1)) : decode code pc = .ok (.if_acmp .eq (Reader.signed 16 x), 3) := by
  refine zy_dec ?_
  show Except.bind ((Reader.u1 : Decoder Nat) code pc) _ = _
  rw [hA]
  show Except.bind ((Reader.s2 : Decoder Int) code (pc + 1)) _ = _
  rw [zy_s2 hB]
  rfl
theorem zy_if_acmp_ne {code : ByteArray} {pc x : Nat} (hA : (Reader.u1 : Decoder Nat) code pc = .ok (166, pc + 1)) (hB : (Reader.u2 : Decoder Nat) code (pc + 1) = .ok (x, pc + 1 + 1 + 1)) : decode code pc = .ok (.if_acmp .ne (Reader.signed 16 x), 3) := by
  refine zy_dec ?_
  show Except.bind ((Reader.u1 : Decoder Nat) code pc) _ = _
  rw [hA]
  show Except.bind ((Reader.s2 : Decoder Int) code (pc + 1)) _ = _
  rw [zy_s2 hB]
  rfl
theorem zy_iinc {code : ByteArray} {pc x y : Nat} (hA : (Reader.u1 : Decoder Nat) code pc = .ok (132, pc + 1)) (hB : (Reader.u1 : Decoder Nat) code (pc + 1) = .ok (x, pc + 1 + 1)) (hC : (Reader.u1 : Decoder Nat) code (pc + 1 + 1) = .ok (y, pc + 1 + 1 + 1)) : decode code pc = .ok (.iinc x (Reader.signed 8 y), 3) := by
  refine zy_dec ?_
  show Except.bind ((Reader.u1 : Decoder Nat) code pc) _ = _
  rw [hA]
  show Except.bind ((Reader.u1 : Decoder Nat) code (pc + 1)) _ = _
  rw [hB]
  show Except.bind ((Reader.s1 : Decoder Int) code (pc + 1 + 1)) _ = _
  rw [zy_s1 hC]
  rfl
def zy_co : Jvm.ClassFile.Cond → Nat
  | .eq => 0
  | .ne => 1
  | .lt => 2
  | .ge => 3
  | .gt => 4
  | .le => 5
def zy_fit (i : Instr) (a b c : Nat) : Bool := match i with
  | .aconst_null => Nat.beq a 1
  | .iaload => Nat.beq a 46
  | .laload => Nat.beq a 47
  | .aaload => Nat.beq a 50
  | .baload => Nat.beq a 51
  | .iastore => Nat.beq a 79
  | .lastore => Nat.beq a 80
  | .aastore => Nat.beq a 83
  | .bastore => Nat.beq a 84
  | .pop => Nat.beq a 87
  | .dup => Nat.beq a 89
  | .dup2 => Nat.beq a 92
  | .iadd => Nat.beq a 96
  | .ladd => Nat.beq a 97
  | .isub => Nat.beq a 100
  | .lsub => Nat.beq a 101
  | .imul => Nat.beq a 104
  | .lmul => Nat.beq a 105
  | .idiv => Nat.beq a 108
  | .irem => Nat.beq a 112
  | .ineg => Nat.beq a 116
  | .ishl => Nat.beq a 120
  | .lshl => Nat.beq a 121
  | .ishr => Nat.beq a 122
  | .iushr => Nat.beq a 124
  | .lushr => Nat.beq a 125
  | .iand => Nat.beq a 126
  | .land => Nat.beq a 127
  | .ior => Nat.beq a 128
  | .lor => Nat.beq a 129
  | .ixor => Nat.beq a 130
  | .lxor => Nat.beq a 131
  | .i2l => Nat.beq a 133
  | .l2i => Nat.beq a 136
  | .i2b => Nat.beq a 145
  | .i2c => Nat.beq a 146
  | .lcmp => Nat.beq a 148
  | .ireturn => Nat.beq a 172
  | .lreturn => Nat.beq a 173
  | .areturn => Nat.beq a 176
  | .return_ => Nat.beq a 177
  | .arraylength => Nat.beq a 190
  | .iconst n => Nat.ble 2 a && (Nat.ble a 8 && decide (n = (a : Int) - 3))
  | .lconst n => Nat.beq a (9 + n.val)
  | .iload_n n => Nat.beq a (26 + n.val)
  | .lload_n n => Nat.beq a (30 + n.val)
  | .aload_n n => Nat.beq a (42 + n.val)
  | .istore_n n => Nat.beq a (59 + n.val)
  | .lstore_n n => Nat.beq a (63 + n.val)
  | .astore_n n => Nat.beq a (75 + n.val)
  | .ldc n => Nat.beq a 18 && Nat.beq b n
  | .iload n => Nat.beq a 21 && Nat.beq b n
  | .lload n => Nat.beq a 22 && Nat.beq b n
  | .aload n => Nat.beq a 25 && Nat.beq b n
  | .istore n => Nat.beq a 54 && Nat.beq b n
  | .lstore n => Nat.beq a 55 && Nat.beq b n
  | .astore n => Nat.beq a 58 && Nat.beq b n
  | .bipush n => Nat.beq a 16 && decide (Reader.signed 8 b = n)
  | .newarray t => Nat.beq a 188 && Nat.beq b (match t with | .boolean => 4 | .char => 5 | .float => 6 | .double => 7 | .byte => 8 | .short => 9 | .int => 10 | .long => 11)
  | .ldc_w n => Nat.beq a 19 && Nat.beq (b * 256 + c) n
  | .ldc2_w n => Nat.beq a 20 && Nat.beq (b * 256 + c) n
  | .getstatic n => Nat.beq a 178 && Nat.beq (b * 256 + c) n
  | .getfield n => Nat.beq a 180 && Nat.beq (b * 256 + c) n
  | .putfield n => Nat.beq a 181 && Nat.beq (b * 256 + c) n
  | .invokevirtual n => Nat.beq a 182 && Nat.beq (b * 256 + c) n
  | .invokespecial n => Nat.beq a 183 && Nat.beq (b * 256 + c) n
  | .invokestatic n => Nat.beq a 184 && Nat.beq (b * 256 + c) n
  | .new n => Nat.beq a 187 && Nat.beq (b * 256 + c) n
  | .anewarray n => Nat.beq a 189 && Nat.beq (b * 256 + c) n
  | .sipush n => Nat.beq a 17 && decide (Reader.signed 16 (b * 256 + c) = n)
  | .goto n => Nat.beq a 167 && decide (Reader.signed 16 (b * 256 + c) = n)
  | .ifnull n => Nat.beq a 198 && decide (Reader.signed 16 (b * 256 + c) = n)
  | .ifnonnull n => Nat.beq a 199 && decide (Reader.signed 16 (b * 256 + c) = n)
  | .ifCond k n => Nat.beq a (153 + zy_co k) && decide (Reader.signed 16 (b * 256 + c) = n)
  | .if_icmp k n => Nat.beq a (159 + zy_co k) && decide (Reader.signed 16 (b * 256 + c) = n)
  | .if_acmp k n => Nat.beq a (match k with | .eq => 165 | .ne => 166) && decide (Reader.signed 16 (b * 256 + c) = n)
  | .iinc n m => Nat.beq a 132 && (Nat.beq b n && decide (Reader.signed 8 c = m))
  | _ => false
theorem zy_and {a b : Bool} (h : (a && b) = true) : a = true ∧ b = true := by
  cases a
  · cases h
  · exact ⟨rfl, h⟩
theorem zy_fit_ok {code : ByteArray} {pc a b c : Nat} {i : Instr} (hf : zy_fit i a b c = true) (hA : (Reader.u1 : Decoder Nat) code pc = .ok (a, pc + 1)) (hB : 2 ≤ zv_len i → (Reader.u1 : Decoder Nat) code (pc + 1) = .ok (b, pc + 1 + 1)) (hC : 3 ≤ zv_len i → (Reader.u1 : Decoder Nat) code (pc + 1 + 1) = .ok (c, pc + 1 + 1 + 1)) : decode code pc = .ok (i, zv_len i) := by
  cases i
  case aconst_null =>
    rw [show a = 1 from Nat.eq_of_beq_eq_true hf] at hA
    exact zy_aconst_null hA
  case iaload =>
    rw [show a = 46 from Nat.eq_of_beq_eq_true hf] at hA
    exact zy_iaload hA
  case laload =>
    rw [show a = 47 from Nat.eq_of_beq_eq_true hf] at hA
    exact zy_laload hA
  case aaload =>
    rw [show a = 50 from Nat.eq_of_beq_eq_true hf] at hA
    exact zy_aaload hA
  case baload =>
    rw [show a = 51 from Nat.eq_of_beq_eq_true hf] at hA
    exact zy_baload hA
  case iastore =>
    rw [show a = 79 from Nat.eq_of_beq_eq_true hf] at hA
    exact zy_iastore hA
  case lastore =>
    rw [show a = 80 from Nat.eq_of_beq_eq_true hf] at hA
    exact zy_lastore hA
  case aastore =>
    rw [show a = 83 from Nat.eq_of_beq_eq_true hf] at hA
    exact zy_aastore hA
  case bastore =>
    rw [show a = 84 from Nat.eq_of_beq_eq_true hf] at hA
    exact zy_bastore hA
  case pop =>
    rw [show a = 87 from Nat.eq_of_beq_eq_true hf] at hA
    exact zy_pop hA
  case dup =>
    rw [show a = 89 from Nat.eq_of_beq_eq_true hf] at hA
    exact zy_dup hA
  case dup2 =>
    rw [show a = 92 from Nat.eq_of_beq_eq_true hf] at hA
    exact zy_dup2 hA
  case iadd =>
    rw [show a = 96 from Nat.eq_of_beq_eq_true hf] at hA
    exact zy_iadd hA
  case ladd =>
    rw [show a = 97 from Nat.eq_of_beq_eq_true hf] at hA
    exact zy_ladd hA
  case isub =>
    rw [show a = 100 from Nat.eq_of_beq_eq_true hf] at hA
    exact zy_isub hA
  case lsub =>
    rw [show a = 101 from Nat.eq_of_beq_eq_true hf] at hA
    exact zy_lsub hA
  case imul =>
    rw [show a = 104 from Nat.eq_of_beq_eq_true hf] at hA
    exact zy_imul hA
  case lmul =>
    rw [show a = 105 from Nat.eq_of_beq_eq_true hf] at hA
    exact zy_lmul hA
  case idiv =>
    rw [show a = 108 from Nat.eq_of_beq_eq_true hf] at hA
    exact zy_idiv hA
  case irem =>
    rw [show a = 112 from Nat.eq_of_beq_eq_true hf] at hA
    exact zy_irem hA
  case ineg =>
    rw [show a = 116 from Nat.eq_of_beq_eq_true hf] at hA
    exact zy_ineg hA
  case ishl =>
    rw [show a = 120 from Nat.eq_of_beq_eq_true hf] at hA
    exact zy_ishl hA
  case lshl =>
    rw [show a = 121 from Nat.eq_of_beq_eq_true hf] at hA
    exact zy_lshl hA
  case ishr =>
    rw [show a = 122 from Nat.eq_of_beq_eq_true hf] at hA
    exact zy_ishr hA
  case iushr =>
    rw [show a = 124 from Nat.eq_of_beq_eq_true hf] at hA
    exact zy_iushr hA
  case lushr =>
    rw [show a = 125 from Nat.eq_of_beq_eq_true hf] at hA
    exact zy_lushr hA
  case iand =>
    rw [show a = 126 from Nat.eq_of_beq_eq_true hf] at hA
    exact zy_iand hA
  case land =>
    rw [show a = 127 from Nat.eq_of_beq_eq_true hf] at hA
    exact zy_land hA
  case ior =>
    rw [show a = 128 from Nat.eq_of_beq_eq_true hf] at hA
    exact zy_ior hA
  case lor =>
    rw [show a = 129 from Nat.eq_of_beq_eq_true hf] at hA
    exact zy_lor hA
  case ixor =>
    rw [show a = 130 from Nat.eq_of_beq_eq_true hf] at hA
    exact zy_ixor hA
  case lxor =>
    rw [show a = 131 from Nat.eq_of_beq_eq_true hf] at hA
    exact zy_lxor hA
  case i2l =>
    rw [show a = 133 from Nat.eq_of_beq_eq_true hf] at hA
    exact zy_i2l hA
  case l2i =>
    rw [show a = 136 from Nat.eq_of_beq_eq_true hf] at hA
    exact zy_l2i hA
  case i2b =>
    rw [show a = 145 from Nat.eq_of_beq_eq_true hf] at hA
    exact zy_i2b hA
  case i2c =>
    rw [show a = 146 from Nat.eq_of_beq_eq_true hf] at hA
    exact zy_i2c hA
  case lcmp =>
    rw [show a = 148 from Nat.eq_of_beq_eq_true hf] at hA
    exact zy_lcmp hA
  case ireturn =>
    rw [show a = 172 from Nat.eq_of_beq_eq_true hf] at hA
    exact zy_ireturn hA
  case lreturn =>
    rw [show a = 173 from Nat.eq_of_beq_eq_true hf] at hA
    exact zy_lreturn hA
  case areturn =>
    rw [show a = 176 from Nat.eq_of_beq_eq_true hf] at hA
    exact zy_areturn hA
  case return_ =>
    rw [show a = 177 from Nat.eq_of_beq_eq_true hf] at hA
    exact zy_return_ hA
  case arraylength =>
    rw [show a = 190 from Nat.eq_of_beq_eq_true hf] at hA
    exact zy_arraylength hA
  case iconst n =>
    obtain ⟨h1, h2⟩ := zy_and hf
    obtain ⟨h2, h3⟩ := zy_and h2
    have h1 := Nat.le_of_ble_eq_true h1
    have h2 := Nat.le_of_ble_eq_true h2
    have h3 := of_decide_eq_true h3
    have hk : a = 2 ∨ a = 3 ∨ a = 4 ∨ a = 5 ∨ a = 6 ∨ a = 7 ∨ a = 8 := by omega
    rcases hk with e | e | e | e | e | e | e
    · rw [show n = (-1) by omega]; rw [e] at hA; exact zy_iconst_0 hA
    · rw [show n = (0) by omega]; rw [e] at hA; exact zy_iconst_1 hA
    · rw [show n = (1) by omega]; rw [e] at hA; exact zy_iconst_2 hA
    · rw [show n = (2) by omega]; rw [e] at hA; exact zy_iconst_3 hA
    · rw [show n = (3) by omega]; rw [e] at hA; exact zy_iconst_4 hA
    · rw [show n = (4) by omega]; rw [e] at hA; exact zy_iconst_5 hA
    · rw [show n = (5) by omega]; rw [e] at hA; exact zy_iconst_6 hA
  case lconst n =>
    obtain ⟨v, hv⟩ := n
    have e := Nat.eq_of_beq_eq_true hf
    match v, hv, e with
    | 0, _, e => rw [show a = 9 from e] at hA; exact zy_lconst_0 hA
    | 1, _, e => rw [show a = 10 from e] at hA; exact zy_lconst_1 hA
  case iload_n n =>
    obtain ⟨v, hv⟩ := n
    have e := Nat.eq_of_beq_eq_true hf
    match v, hv, e with
    | 0, _, e => rw [show a = 26 from e] at hA; exact zy_iload_n_0 hA
    | 1, _, e => rw [show a = 27 from e] at hA; exact zy_iload_n_1 hA
    | 2, _, e => rw [show a = 28 from e] at hA; exact zy_iload_n_2 hA
    | 3, _, e => rw [show a = 29 from e] at hA; exact zy_iload_n_3 hA
  case lload_n n =>
    obtain ⟨v, hv⟩ := n
    have e := Nat.eq_of_beq_eq_true hf
    match v, hv, e with
    | 0, _, e => rw [show a = 30 from e] at hA; exact zy_lload_n_0 hA
    | 1, _, e => rw [show a = 31 from e] at hA; exact zy_lload_n_1 hA
    | 2, _, e => rw [show a = 32 from e] at hA; exact zy_lload_n_2 hA
    | 3, _, e => rw [show a = 33 from e] at hA; exact zy_lload_n_3 hA
  case aload_n n =>
    obtain ⟨v, hv⟩ := n
    have e := Nat.eq_of_beq_eq_true hf
    match v, hv, e with
    | 0, _, e => rw [show a = 42 from e] at hA; exact zy_aload_n_0 hA
    | 1, _, e => rw [show a = 43 from e] at hA; exact zy_aload_n_1 hA
    | 2, _, e => rw [show a = 44 from e] at hA; exact zy_aload_n_2 hA
    | 3, _, e => rw [show a = 45 from e] at hA; exact zy_aload_n_3 hA
  case istore_n n =>
    obtain ⟨v, hv⟩ := n
    have e := Nat.eq_of_beq_eq_true hf
    match v, hv, e with
    | 0, _, e => rw [show a = 59 from e] at hA; exact zy_istore_n_0 hA
    | 1, _, e => rw [show a = 60 from e] at hA; exact zy_istore_n_1 hA
    | 2, _, e => rw [show a = 61 from e] at hA; exact zy_istore_n_2 hA
    | 3, _, e => rw [show a = 62 from e] at hA; exact zy_istore_n_3 hA
  case lstore_n n =>
    obtain ⟨v, hv⟩ := n
    have e := Nat.eq_of_beq_eq_true hf
    match v, hv, e with
    | 0, _, e => rw [show a = 63 from e] at hA; exact zy_lstore_n_0 hA
    | 1, _, e => rw [show a = 64 from e] at hA; exact zy_lstore_n_1 hA
    | 2, _, e => rw [show a = 65 from e] at hA; exact zy_lstore_n_2 hA
    | 3, _, e => rw [show a = 66 from e] at hA; exact zy_lstore_n_3 hA
  case astore_n n =>
    obtain ⟨v, hv⟩ := n
    have e := Nat.eq_of_beq_eq_true hf
    match v, hv, e with
    | 0, _, e => rw [show a = 75 from e] at hA; exact zy_astore_n_0 hA
    | 1, _, e => rw [show a = 76 from e] at hA; exact zy_astore_n_1 hA
    | 2, _, e => rw [show a = 77 from e] at hA; exact zy_astore_n_2 hA
    | 3, _, e => rw [show a = 78 from e] at hA; exact zy_astore_n_3 hA
  case ldc n =>
    obtain ⟨h1, h2⟩ := zy_and hf
    rw [show a = 18 from Nat.eq_of_beq_eq_true h1] at hA
    rw [← Nat.eq_of_beq_eq_true h2]
    exact zy_ldc hA (hB (Nat.le_of_ble_eq_true rfl))
  case iload n =>
    obtain ⟨h1, h2⟩ := zy_and hf
    rw [show a = 21 from Nat.eq_of_beq_eq_true h1] at hA
    rw [← Nat.eq_of_beq_eq_true h2]
    exact zy_iload hA (hB (Nat.le_of_ble_eq_true rfl))
  case lload n =>
    obtain ⟨h1, h2⟩ := zy_and hf
    rw [show a = 22 from Nat.eq_of_beq_eq_true h1] at hA
    rw [← Nat.eq_of_beq_eq_true h2]
    exact zy_lload hA (hB (Nat.le_of_ble_eq_true rfl))
  case aload n =>
    obtain ⟨h1, h2⟩ := zy_and hf
    rw [show a = 25 from Nat.eq_of_beq_eq_true h1] at hA
    rw [← Nat.eq_of_beq_eq_true h2]
    exact zy_aload hA (hB (Nat.le_of_ble_eq_true rfl))
  case istore n =>
    obtain ⟨h1, h2⟩ := zy_and hf
    rw [show a = 54 from Nat.eq_of_beq_eq_true h1] at hA
    rw [← Nat.eq_of_beq_eq_true h2]
    exact zy_istore hA (hB (Nat.le_of_ble_eq_true rfl))
  case lstore n =>
    obtain ⟨h1, h2⟩ := zy_and hf
    rw [show a = 55 from Nat.eq_of_beq_eq_true h1] at hA
    rw [← Nat.eq_of_beq_eq_true h2]
    exact zy_lstore hA (hB (Nat.le_of_ble_eq_true rfl))
  case astore n =>
    obtain ⟨h1, h2⟩ := zy_and hf
    rw [show a = 58 from Nat.eq_of_beq_eq_true h1] at hA
    rw [← Nat.eq_of_beq_eq_true h2]
    exact zy_astore hA (hB (Nat.le_of_ble_eq_true rfl))
  case bipush n =>
    obtain ⟨h1, h2⟩ := zy_and hf
    rw [show a = 16 from Nat.eq_of_beq_eq_true h1] at hA
    rw [← of_decide_eq_true h2]
    exact zy_bipush hA (hB (Nat.le_of_ble_eq_true rfl))
  case newarray t =>
    obtain ⟨h1, h2⟩ := zy_and hf
    rw [show a = 188 from Nat.eq_of_beq_eq_true h1] at hA
    have hB2 := hB (Nat.le_of_ble_eq_true rfl)
    have e := Nat.eq_of_beq_eq_true h2
    cases t
    · rw [show b = 4 from e] at hB2; exact zy_newarray_4 hA hB2
    · rw [show b = 5 from e] at hB2; exact zy_newarray_5 hA hB2
    · rw [show b = 6 from e] at hB2; exact zy_newarray_6 hA hB2
    · rw [show b = 7 from e] at hB2; exact zy_newarray_7 hA hB2
    · rw [show b = 8 from e] at hB2; exact zy_newarray_8 hA hB2
    · rw [show b = 9 from e] at hB2; exact zy_newarray_9 hA hB2
    · rw [show b = 10 from e] at hB2; exact zy_newarray_10 hA hB2
    · rw [show b = 11 from e] at hB2; exact zy_newarray_11 hA hB2
  case ldc_w n =>
    obtain ⟨h1, h2⟩ := zy_and hf
    rw [show a = 19 from Nat.eq_of_beq_eq_true h1] at hA
    have hB2 := zy_u2 (hB (Nat.le_of_ble_eq_true rfl)) (hC (Nat.le_of_ble_eq_true rfl))
    rw [← Nat.eq_of_beq_eq_true h2]
    exact zy_ldc_w hA hB2
  case ldc2_w n =>
    obtain ⟨h1, h2⟩ := zy_and hf
    rw [show a = 20 from Nat.eq_of_beq_eq_true h1] at hA
    have hB2 := zy_u2 (hB (Nat.le_of_ble_eq_true rfl)) (hC (Nat.le_of_ble_eq_true rfl))
    rw [← Nat.eq_of_beq_eq_true h2]
    exact zy_ldc2_w hA hB2
  case getstatic n =>
    obtain ⟨h1, h2⟩ := zy_and hf
    rw [show a = 178 from Nat.eq_of_beq_eq_true h1] at hA
    have hB2 := zy_u2 (hB (Nat.le_of_ble_eq_true rfl)) (hC (Nat.le_of_ble_eq_true rfl))
    rw [← Nat.eq_of_beq_eq_true h2]
    exact zy_getstatic hA hB2
  case getfield n =>
    obtain ⟨h1, h2⟩ := zy_and hf
    rw [show a = 180 from Nat.eq_of_beq_eq_true h1] at hA
    have hB2 := zy_u2 (hB (Nat.le_of_ble_eq_true rfl)) (hC (Nat.le_of_ble_eq_true rfl))
    rw [← Nat.eq_of_beq_eq_true h2]
    exact zy_getfield hA hB2
  case putfield n =>
    obtain ⟨h1, h2⟩ := zy_and hf
    rw [show a = 181 from Nat.eq_of_beq_eq_true h1] at hA
    have hB2 := zy_u2 (hB (Nat.le_of_ble_eq_true rfl)) (hC (Nat.le_of_ble_eq_true rfl))
    rw [← Nat.eq_of_beq_eq_true h2]
    exact zy_putfield hA hB2
  case invokevirtual n =>
    obtain ⟨h1, h2⟩ := zy_and hf
    rw [show a = 182 from Nat.eq_of_beq_eq_true h1] at hA
    have hB2 := zy_u2 (hB (Nat.le_of_ble_eq_true rfl)) (hC (Nat.le_of_ble_eq_true rfl))
    rw [← Nat.eq_of_beq_eq_true h2]
    exact zy_invokevirtual hA hB2
  case invokespecial n =>
    obtain ⟨h1, h2⟩ := zy_and hf
    rw [show a = 183 from Nat.eq_of_beq_eq_true h1] at hA
    have hB2 := zy_u2 (hB (Nat.le_of_ble_eq_true rfl)) (hC (Nat.le_of_ble_eq_true rfl))
    rw [← Nat.eq_of_beq_eq_true h2]
    exact zy_invokespecial hA hB2
  case invokestatic n =>
    obtain ⟨h1, h2⟩ := zy_and hf
    rw [show a = 184 from Nat.eq_of_beq_eq_true h1] at hA
    have hB2 := zy_u2 (hB (Nat.le_of_ble_eq_true rfl)) (hC (Nat.le_of_ble_eq_true rfl))
    rw [← Nat.eq_of_beq_eq_true h2]
    exact zy_invokestatic hA hB2
  case new n =>
    obtain ⟨h1, h2⟩ := zy_and hf
    rw [show a = 187 from Nat.eq_of_beq_eq_true h1] at hA
    have hB2 := zy_u2 (hB (Nat.le_of_ble_eq_true rfl)) (hC (Nat.le_of_ble_eq_true rfl))
    rw [← Nat.eq_of_beq_eq_true h2]
    exact zy_new hA hB2
  case anewarray n =>
    obtain ⟨h1, h2⟩ := zy_and hf
    rw [show a = 189 from Nat.eq_of_beq_eq_true h1] at hA
    have hB2 := zy_u2 (hB (Nat.le_of_ble_eq_true rfl)) (hC (Nat.le_of_ble_eq_true rfl))
    rw [← Nat.eq_of_beq_eq_true h2]
    exact zy_anewarray hA hB2
  case sipush n =>
    obtain ⟨h1, h2⟩ := zy_and hf
    rw [show a = 17 from Nat.eq_of_beq_eq_true h1] at hA
    have hB2 := zy_u2 (hB (Nat.le_of_ble_eq_true rfl)) (hC (Nat.le_of_ble_eq_true rfl))
    rw [← of_decide_eq_true h2]
    exact zy_sipush hA hB2
  case goto n =>
    obtain ⟨h1, h2⟩ := zy_and hf
    rw [show a = 167 from Nat.eq_of_beq_eq_true h1] at hA
    have hB2 := zy_u2 (hB (Nat.le_of_ble_eq_true rfl)) (hC (Nat.le_of_ble_eq_true rfl))
    rw [← of_decide_eq_true h2]
    exact zy_goto hA hB2
  case ifnull n =>
    obtain ⟨h1, h2⟩ := zy_and hf
    rw [show a = 198 from Nat.eq_of_beq_eq_true h1] at hA
    have hB2 := zy_u2 (hB (Nat.le_of_ble_eq_true rfl)) (hC (Nat.le_of_ble_eq_true rfl))
    rw [← of_decide_eq_true h2]
    exact zy_ifnull hA hB2
  case ifnonnull n =>
    obtain ⟨h1, h2⟩ := zy_and hf
    rw [show a = 199 from Nat.eq_of_beq_eq_true h1] at hA
    have hB2 := zy_u2 (hB (Nat.le_of_ble_eq_true rfl)) (hC (Nat.le_of_ble_eq_true rfl))
    rw [← of_decide_eq_true h2]
    exact zy_ifnonnull hA hB2
  case ifCond q n =>
    obtain ⟨h1, h2⟩ := zy_and hf
    have e := Nat.eq_of_beq_eq_true h1
    have hB2 := zy_u2 (hB (Nat.le_of_ble_eq_true rfl)) (hC (Nat.le_of_ble_eq_true rfl))
    rw [← of_decide_eq_true h2]
    cases q
    · rw [show a = 153 from e] at hA; exact zy_ifCond_eq hA hB2
    · rw [show a = 154 from e] at hA; exact zy_ifCond_ne hA hB2
    · rw [show a = 155 from e] at hA; exact zy_ifCond_lt hA hB2
    · rw [show a = 156 from e] at hA; exact zy_ifCond_ge hA hB2
    · rw [show a = 157 from e] at hA; exact zy_ifCond_gt hA hB2
    · rw [show a = 158 from e] at hA; exact zy_ifCond_le hA hB2
  case if_icmp q n =>
    obtain ⟨h1, h2⟩ := zy_and hf
    have e := Nat.eq_of_beq_eq_true h1
    have hB2 := zy_u2 (hB (Nat.le_of_ble_eq_true rfl)) (hC (Nat.le_of_ble_eq_true rfl))
    rw [← of_decide_eq_true h2]
    cases q
    · rw [show a = 159 from e] at hA; exact zy_if_icmp_eq hA hB2
    · rw [show a = 160 from e] at hA; exact zy_if_icmp_ne hA hB2
    · rw [show a = 161 from e] at hA; exact zy_if_icmp_lt hA hB2
    · rw [show a = 162 from e] at hA; exact zy_if_icmp_ge hA hB2
    · rw [show a = 163 from e] at hA; exact zy_if_icmp_gt hA hB2
    · rw [show a = 164 from e] at hA; exact zy_if_icmp_le hA hB2
  case if_acmp q n =>
    obtain ⟨h1, h2⟩ := zy_and hf
    have e := Nat.eq_of_beq_eq_true h1
    have hB2 := zy_u2 (hB (Nat.le_of_ble_eq_true rfl)) (hC (Nat.le_of_ble_eq_true rfl))
    rw [← of_decide_eq_true h2]
    cases q
    · rw [show a = 165 from e] at hA; exact zy_if_acmp_eq hA hB2
    · rw [show a = 166 from e] at hA; exact zy_if_acmp_ne hA hB2
  case iinc n m =>
    obtain ⟨h1, h2⟩ := zy_and hf
    obtain ⟨h2, h3⟩ := zy_and h2
    rw [show a = 132 from Nat.eq_of_beq_eq_true h1] at hA
    rw [← Nat.eq_of_beq_eq_true h2, ← of_decide_eq_true h3]
    exact zy_iinc hA (hB (Nat.le_of_ble_eq_true rfl)) (hC (Nat.le_of_ble_eq_true rfl))
  all_goals exact absurd (show false = true from hf) (by decide)
def zy_walk (code : ByteArray) : List (Nat × Instr) → Nat → List UInt8 → Bool
  | [], _, _ => true
  | (p, i) :: l, pc, rest => Nat.beq p pc && (match zv_sw i with
    | true => (match decode code p with
      | .ok (j, len) => decide (j = i) && zy_walk code l (p + len) (rest.drop len)
      | .error _ => false)
    | false => (match zv_len i, rest with
      | 1, a :: r => zy_fit i a.toNat 0 0 && zy_walk code l (p + 1) r
      | 2, a :: b :: r => zy_fit i a.toNat b.toNat 0 && zy_walk code l (p + 2) r
      | 3, a :: b :: c :: r => zy_fit i a.toNat b.toNat c.toNat && zy_walk code l (p + 3) r
      | _, _ => false))
theorem zy_walk_ok {code : ByteArray} : ∀ (l : List (Nat × Instr)) (pc : Nat) (rest : List UInt8), zy_walk code l pc rest = true → (∀ k, rest[k]? = code.data.toList[pc + k]?) →
    ∀ q ∈ l, ∃ len, decode code q.1 = .ok (q.2, len) ∧ (len = zv_len q.2 ∨ zv_sw q.2 = true)
  | [], _, _, _, _ => fun q hq => by cases hq
  | (p, i) :: l, pc, rest, h, hr => by
    unfold zy_walk at h
    obtain ⟨h1, h2⟩ := zy_and h
    have e : p = pc := Nat.eq_of_beq_eq_true h1
    subst e
    have key : (∃ len, decode code p = .ok (i, len) ∧ (len = zv_len i ∨ zv_sw i = true)) ∧ ∀ q ∈ l, ∃ len, decode code q.1 = .ok (q.2, len) ∧ (len = zv_len q.2 ∨ zv_sw q.2 = true) := by
      have hl : ∀ n : Nat, (∀ k, (rest.drop n)[k]? = code.data.toList[p + n + k]?) := fun n k => by
        rw [List.getElem?_drop, hr, Nat.add_assoc]
      split at h2
      · rename_i hs
        split at h2
        · rename_i j len hd
          obtain ⟨h3, h4⟩ := zy_and h2
          have h3 := of_decide_eq_true h3
          subst h3
          exact ⟨⟨len, hd, Or.inr hs⟩, zy_walk_ok l _ _ h4 (hl len)⟩
        · cases h2
      · split at h2
        · rename_i a r hn
          obtain ⟨h3, h4⟩ := zy_and h2
          refine ⟨⟨_, zy_fit_ok h3 (zy_u1 (by rw [← Nat.add_zero p, ← hr]; rfl)) (fun z => absurd z (by omega)) (fun z => absurd z (by omega)), Or.inl rfl⟩, zy_walk_ok l _ _ h4 (hl 1)⟩
        · rename_i a b r hn
          obtain ⟨h3, h4⟩ := zy_and h2
          refine ⟨⟨_, zy_fit_ok h3 (zy_u1 (by rw [← Nat.add_zero p, ← hr]; rfl)) (fun _ => zy_u1 (by rw [← hr]; rfl)) (fun z => absurd z (by omega)), Or.inl rfl⟩, zy_walk_ok l _ _ h4 (hl 2)⟩
        · rename_i a b c r hn
          obtain ⟨h3, h4⟩ := zy_and h2
          refine ⟨⟨_, zy_fit_ok h3 (zy_u1 (by rw [← Nat.add_zero p, ← hr]; rfl)) (fun _ => zy_u1 (by rw [← hr]; rfl)) (fun _ => zy_u1 (by rw [Nat.add_assoc, ← hr]; rfl)), Or.inl rfl⟩, zy_walk_ok l _ _ h4 (hl 3)⟩
        · cases h2
    intro q hq
    rcases List.mem_cons.mp hq with e | hq
    · subst e
      exact key.1
    · exact key.2 q hq
def zy_chk (ci : Nat) (M : zv_M) : Bool :=
  zy_walk M.1.2.2.1 M.2.1 0 M.1.2.2.1.data.toList && ((M.2.1.all fun q => match q.2 with
    | .putfield ix => match zv_lk M.2.2.2.1 ix with
      | some f => !(zv_fin f.1 f.2.1) || (decide (M.1.2.1.name = "<init>") && (Nat.beq f.1 ci && !f.2.2))
      | none => true
    | _ => true) && Nat.ble M.1.2.2.2.1 40)
theorem zy_chk_ok {ci : Nat} {M : zv_M} (h : zy_chk ci M = true) : zv_chk ci M = true := by
  obtain ⟨h1, h2⟩ := zy_and h
  obtain ⟨h2, h3⟩ := zy_and h2
  have hw := zy_walk_ok _ _ _ h1 (fun k => by rw [Nat.zero_add])
  have h4 : (M.2.1.all fun q => match decode M.1.2.2.1 q.1 with
      | .ok (i, len) => decide (i = q.2) && (Nat.beq len (zv_len i) || zv_sw i)
      | .error _ => false) = true := by
    refine List.all_eq_true.mpr fun q hq => ?_
    obtain ⟨len, e1, e2⟩ := hw q hq
    rw [e1]
    rcases e2 with z | z
    · subst z
      show (decide (q.2 = q.2) && (Nat.beq _ _ || _)) = true
      rw [decide_eq_true rfl, Nat.beq_refl]
      rfl
    · show (decide (q.2 = q.2) && (Nat.beq _ _ || zv_sw q.2)) = true
      rw [decide_eq_true rfl, z, Bool.or_true]
      rfl
  unfold zv_chk
  simp only [Bool.and_eq_true]
  exact ⟨⟨h4, h2⟩, h3⟩
