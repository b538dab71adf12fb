set_option maxRecDepth 100000 in
theorem qE12_bitCount (d : Nat) (a0 : Int64) (h : zv_H) : E12_bitCount d a0 h =
  (some (some (zv_i (zv_and (zv_l2i ((((((((a0 - ((zv_lushr a0 (1 : Int)) &&& (6148914691236517205 : Int64))) &&& (3689348814741910323 : Int64)) + ((zv_lushr (a0 - ((zv_lushr a0 (1 : Int)) &&& (6148914691236517205 : Int64))) (2 : Int)) &&& (3689348814741910323 : Int64))) + (zv_lushr (((a0 - ((zv_lushr a0 (1 : Int)) &&& (6148914691236517205 : Int64))) &&& (3689348814741910323 : Int64)) + ((zv_lushr (a0 - ((zv_lushr a0 (1 : Int)) &&& (6148914691236517205 : Int64))) (2 : Int)) &&& (3689348814741910323 : Int64))) (4 : Int))) &&& (1085102592571150095 : Int64)) + (zv_lushr (((((a0 - ((zv_lushr a0 (1 : Int)) &&& (6148914691236517205 : Int64))) &&& (3689348814741910323 : Int64)) + ((zv_lushr (a0 - ((zv_lushr a0 (1 : Int)) &&& (6148914691236517205 : Int64))) (2 : Int)) &&& (3689348814741910323 : Int64))) + (zv_lushr (((a0 - ((zv_lushr a0 (1 : Int)) &&& (6148914691236517205 : Int64))) &&& (3689348814741910323 : Int64)) + ((zv_lushr (a0 - ((zv_lushr a0 (1 : Int)) &&& (6148914691236517205 : Int64))) (2 : Int)) &&& (3689348814741910323 : Int64))) (4 : Int))) &&& (1085102592571150095 : Int64)) (8 : Int))) + (zv_lushr ((((((a0 - ((zv_lushr a0 (1 : Int)) &&& (6148914691236517205 : Int64))) &&& (3689348814741910323 : Int64)) + ((zv_lushr (a0 - ((zv_lushr a0 (1 : Int)) &&& (6148914691236517205 : Int64))) (2 : Int)) &&& (3689348814741910323 : Int64))) + (zv_lushr (((a0 - ((zv_lushr a0 (1 : Int)) &&& (6148914691236517205 : Int64))) &&& (3689348814741910323 : Int64)) + ((zv_lushr (a0 - ((zv_lushr a0 (1 : Int)) &&& (6148914691236517205 : Int64))) (2 : Int)) &&& (3689348814741910323 : Int64))) (4 : Int))) &&& (1085102592571150095 : Int64)) + (zv_lushr (((((a0 - ((zv_lushr a0 (1 : Int)) &&& (6148914691236517205 : Int64))) &&& (3689348814741910323 : Int64)) + ((zv_lushr (a0 - ((zv_lushr a0 (1 : Int)) &&& (6148914691236517205 : Int64))) (2 : Int)) &&& (3689348814741910323 : Int64))) + (zv_lushr (((a0 - ((zv_lushr a0 (1 : Int)) &&& (6148914691236517205 : Int64))) &&& (3689348814741910323 : Int64)) + ((zv_lushr (a0 - ((zv_lushr a0 (1 : Int)) &&& (6148914691236517205 : Int64))) (2 : Int)) &&& (3689348814741910323 : Int64))) (4 : Int))) &&& (1085102592571150095 : Int64)) (8 : Int))) (16 : Int))) + (zv_lushr (((((((a0 - ((zv_lushr a0 (1 : Int)) &&& (6148914691236517205 : Int64))) &&& (3689348814741910323 : Int64)) + ((zv_lushr (a0 - ((zv_lushr a0 (1 : Int)) &&& (6148914691236517205 : Int64))) (2 : Int)) &&& (3689348814741910323 : Int64))) + (zv_lushr (((a0 - ((zv_lushr a0 (1 : Int)) &&& (6148914691236517205 : Int64))) &&& (3689348814741910323 : Int64)) + ((zv_lushr (a0 - ((zv_lushr a0 (1 : Int)) &&& (6148914691236517205 : Int64))) (2 : Int)) &&& (3689348814741910323 : Int64))) (4 : Int))) &&& (1085102592571150095 : Int64)) + (zv_lushr (((((a0 - ((zv_lushr a0 (1 : Int)) &&& (6148914691236517205 : Int64))) &&& (3689348814741910323 : Int64)) + ((zv_lushr (a0 - ((zv_lushr a0 (1 : Int)) &&& (6148914691236517205 : Int64))) (2 : Int)) &&& (3689348814741910323 : Int64))) + (zv_lushr (((a0 - ((zv_lushr a0 (1 : Int)) &&& (6148914691236517205 : Int64))) &&& (3689348814741910323 : Int64)) + ((zv_lushr (a0 - ((zv_lushr a0 (1 : Int)) &&& (6148914691236517205 : Int64))) (2 : Int)) &&& (3689348814741910323 : Int64))) (4 : Int))) &&& (1085102592571150095 : Int64)) (8 : Int))) + (zv_lushr ((((((a0 - ((zv_lushr a0 (1 : Int)) &&& (6148914691236517205 : Int64))) &&& (3689348814741910323 : Int64)) + ((zv_lushr (a0 - ((zv_lushr a0 (1 : Int)) &&& (6148914691236517205 : Int64))) (2 : Int)) &&& (3689348814741910323 : Int64))) + (zv_lushr (((a0 - ((zv_lushr a0 (1 : Int)) &&& (6148914691236517205 : Int64))) &&& (3689348814741910323 : Int64)) + ((zv_lushr (a0 - ((zv_lushr a0 (1 : Int)) &&& (6148914691236517205 : Int64))) (2 : Int)) &&& (3689348814741910323 : Int64))) (4 : Int))) &&& (1085102592571150095 : Int64)) + (zv_lushr (((((a0 - ((zv_lushr a0 (1 : Int)) &&& (6148914691236517205 : Int64))) &&& (3689348814741910323 : Int64)) + ((zv_lushr (a0 - ((zv_lushr a0 (1 : Int)) &&& (6148914691236517205 : Int64))) (2 : Int)) &&& (3689348814741910323 : Int64))) + (zv_lushr (((a0 - ((zv_lushr a0 (1 : Int)) &&& (6148914691236517205 : Int64))) &&& (3689348814741910323 : Int64)) + ((zv_lushr (a0 - ((zv_lushr a0 (1 : Int)) &&& (6148914691236517205 : Int64))) (2 : Int)) &&& (3689348814741910323 : Int64))) (4 : Int))) &&& (1085102592571150095 : Int64)) (8 : Int))) (16 : Int))) (32 : Int)))) (127 : Int))), h)) := by
  refine (zv_lim_eq _ _ _ _ _ _).trans ?_
  rfl
set_option maxRecDepth 100000 in
theorem qE13_coder (d : Nat) (a0 : Nat) (h : zv_H) : E13_coder d a0 h =
  ((zv_tC a0).bind fun v1 =>
  (if -128 ≤ v1 ∧ v1 ≤ 127 then some (some (zv_i v1), h) else none)) := by
  refine (zv_lim_eq _ _ _ _ _ _).trans ?_
  rfl
set_option maxRecDepth 100000 in
theorem qE13_isLatin1 (d : Nat) (a0 : Nat) (h : zv_H) : E13_isLatin1 d a0 h =
  ((zv_tC a0).bind fun v1 =>
  (if v1 = 0 then
    (some (some (zv_i (1 : Int)), h))
  else
    (some (some (zv_i (0 : Int)), h)))) := by
  refine (zv_lim_eq _ _ _ _ _ _).trans ?_
  rfl
set_option maxRecDepth 100000 in
theorem qE13_length (d : Nat) (a0 : Nat) (h : zv_H) : E13_length d a0 h =
  ((zv_tV a0).bind fun v1 =>
  ((zv_al h v1).bind fun v2 =>
  ((C13_coder d a0 h).bind fun q3 =>
  (some (some (zv_i (zv_shr v2 q3.1)), q3.2))))) := by
  refine (zv_lim_eq _ _ _ _ _ _).trans ?_
  rfl
set_option maxRecDepth 100000 in
theorem qE14_charAt (d : Nat) (a0 : Nat) (a1 : Int) (h : zv_H) : E14_charAt d a0 a1 h =
  ((zv_al h a0).bind fun v1 =>
  ((CJ_chk d a1 v1 h).bind fun g2 =>
  ((zv_aB g2 a0 a1).bind fun v3 =>
  (if 0 ≤ (zv_i2c (zv_and v3 (255 : Int))) ∧ (zv_i2c (zv_and v3 (255 : Int))) ≤ 65535 then some (some (zv_i (zv_i2c (zv_and v3 (255 : Int)))), g2) else none)))) := by
  refine (zv_lim_eq _ _ _ _ _ _).trans ?_
  rfl
set_option maxRecDepth 100000 in
theorem qE13_charAt (d : Nat) (a0 : Nat) (a1 : Int) (h : zv_H) : E13_charAt d a0 a1 h =
  ((C13_isLatin1 d a0 h).bind fun q1 =>
  (if q1.1 = 0 then
    ((zv_tV a0).bind fun v2 =>
    none)
  else
    ((zv_tV a0).bind fun v3 =>
    ((C14_charAt d v3 a1 q1.2).bind fun q4 =>
    (if 0 ≤ q4.1 ∧ q4.1 ≤ 65535 then some (some (zv_i q4.1), q4.2) else none))))) := by
  refine (zv_lim_eq _ _ _ _ _ _).trans ?_
  rfl
set_option maxRecDepth 100000 in
theorem qE14_canEncode (d : Nat) (a0 : Int) (h : zv_H) : E14_canEncode d a0 h =
  (if a0 < 0 then
    (some (some (zv_i (0 : Int)), h))
  else
    (if a0 ≤ (255 : Int) then
      (some (some (zv_i (1 : Int)), h))
    else
      (some (some (zv_i (0 : Int)), h)))) := by
  refine (zv_lim_eq _ _ _ _ _ _).trans ?_
  rfl
set_option maxRecDepth 100000 in
theorem qE14_indexOfChar (d : Nat) (a0 : Nat) (a1 : Int) (a2 : Int) (a3 : Int) (h : zv_H) : E14_indexOfChar d a0 a1 a2 a3 h =
  L14_indexOfChar_7 d a0 a3 (zv_i2b a1) a2 h := by
  refine (zv_lim_eq _ _ _ _ _ _).trans ?_
  rfl
set_option maxRecDepth 100000 in
theorem qL14_indexOfChar_7 (d : Nat) (a0 : Nat) (a3 : Int) (a4 : Int) (a5 : Int) (h : zv_H) : L14_indexOfChar_7 d a0 a3 a4 a5 h =
  (if a5 < a3 then
    ((zv_aB h a0 a5).bind fun v1 =>
    (if v1 = a4 then
      (some (some (zv_i a5), h))
    else
      L14_indexOfChar_7 d a0 a3 a4 (zv_w (a5 + 1)) h))
  else
    (some (some (zv_i (-1 : Int)), h))) := by
  refine (zv_lim_eq _ _ _ _ _ _).trans ?_
  rfl
set_option maxRecDepth 100000 in
theorem qE14_indexOf (d : Nat) (a0 : Nat) (a1 : Int) (a2 : Int) (a3 : Int) (h : zv_H) : E14_indexOf d a0 a1 a2 a3 h =
  ((C14_canEncode d a1 h).bind fun q1 =>
  (if q1.1 = 0 then
    (some (some (zv_i (-1 : Int)), q1.2))
  else
    ((zv_al q1.2 a0).bind fun v2 =>
    (if (max a2 (0 : Int)) < (min a3 v2) then
      ((C14_indexOfChar d a0 a1 (max a2 (0 : Int)) (min a3 v2) q1.2).bind fun q3 =>
      (some (some (zv_i q3.1), q3.2)))
    else
      (some (some (zv_i (-1 : Int)), q1.2)))))) := by
  refine (zv_lim_eq _ _ _ _ _ _).trans ?_
  rfl
set_option maxRecDepth 100000 in
theorem qE13_indexOf2 (d : Nat) (a0 : Nat) (a1 : Int) (a2 : Int) (h : zv_H) : E13_indexOf2 d a0 a1 a2 h =
  ((C13_isLatin1 d a0 h).bind fun q1 =>
  (if q1.1 = 0 then
    ((zv_tV a0).bind fun v2 =>
    ((C13_length d a0 q1.2).bind fun q3 =>
    none))
  else
    ((zv_tV a0).bind fun v4 =>
    ((C13_length d a0 q1.2).bind fun q5 =>
    ((C14_indexOf d v4 a1 a2 q5.1 q5.2).bind fun q6 =>
    (some (some (zv_i q6.1), q6.2))))))) := by
  refine (zv_lim_eq _ _ _ _ _ _).trans ?_
  rfl
set_option maxRecDepth 100000 in
theorem qE13_indexOf (d : Nat) (a0 : Nat) (a1 : Int) (h : zv_H) : E13_indexOf d a0 a1 h =
  ((C13_indexOf2 d a0 a1 (0 : Int) h).bind fun q1 =>
  (some (some (zv_i q1.1), q1.2))) := by
  refine (zv_lim_eq _ _ _ _ _ _).trans ?_
  rfl
