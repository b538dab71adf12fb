set_option maxRecDepth 100000 in
theorem qE3_init (d : Nat) (a0 : Nat) (h : zv_H) : E3_init d a0 h =
  (if a0 = 0 then none else
  ((zv_nA h 2 (700 : Int)).bind fun g1 =>
  ((zv_pR g1 a0 3 0 (zv_n h + 1)).bind fun g2 =>
  ((zv_nO g2 7).bind fun g3 =>
  ((C7_init d (zv_n g2 + 1) g3).bind fun g4 =>
  ((zv_pR g4 a0 3 1 (zv_n g2 + 1)).bind fun g5 =>
  (some (none, g5)))))))) := by
  refine (zv_lim_eq _ _ _ _ _ _).trans ?_
  rfl
set_option maxRecDepth 100000 in
theorem qE3_addByte (d : Nat) (a0 : Nat) (a1 : Int) (h : zv_H) : E3_addByte d a0 a1 h =
  ((zv_gI h a0 3 2).bind fun v1 =>
  (if v1 < 0 then
    (some (none, h))
  else
    ((zv_gI h a0 3 2).bind fun v2 =>
    (if v2 < (700 : Int) then
      ((zv_gR h a0 3 0).bind fun v3 =>
      ((zv_gI h a0 3 2).bind fun v4 =>
      ((zv_wI h v3 v4 a1).bind fun g5 =>
      ((zv_gI g5 a0 3 2).bind fun v6 =>
      ((zv_pI g5 a0 3 2 (zv_w (v6 + (1 : Int)))).bind fun g7 =>
      (some (none, g7)))))))
    else
      (some (none, h)))))) := by
  refine (zv_lim_eq _ _ _ _ _ _).trans ?_
  rfl
set_option maxRecDepth 100000 in
theorem qE3_byteAt (d : Nat) (a0 : Nat) (a1 : Int) (h : zv_H) : E3_byteAt d a0 a1 h =
  (if a1 < 0 then
    (some (some (zv_i (-1 : Int)), h))
  else
    ((zv_gI h a0 3 3).bind fun v1 =>
    (if a1 < v1 then
      (if a1 < (700 : Int) then
        ((zv_gR h a0 3 0).bind fun v2 =>
        ((zv_aI h v2 a1).bind fun v3 =>
        (some (some (zv_i v3), h))))
      else
        (some (some (zv_i (-1 : Int)), h)))
    else
      (some (some (zv_i (-1 : Int)), h))))) := by
  refine (zv_lim_eq _ _ _ _ _ _).trans ?_
  rfl
set_option maxRecDepth 100000 in
theorem qE3_fail (d : Nat) (a0 : Nat) (a1 : Int) (h : zv_H) : E3_fail d a0 a1 h =
  ((zv_pI h a0 3 8 a1).bind fun g1 =>
  ((zv_gI g1 a0 3 5).bind fun v2 =>
  ((zv_pI g1 a0 3 9 v2).bind fun g3 =>
  (some (some (zv_i (0 : Int)), g3))))) := by
  refine (zv_lim_eq _ _ _ _ _ _).trans ?_
  rfl
set_option maxRecDepth 100000 in
theorem qE3_more (d : Nat) (a0 : Nat) (h : zv_H) : E3_more d a0 h =
  ((zv_gI h a0 3 8).bind fun v1 =>
  (if v1 = 0 then
    ((zv_gI h a0 3 4).bind fun v2 =>
    (if v2 = 0 then
      (some (some (zv_i (0 : Int)), h))
    else
      (some (some (zv_i (1 : Int)), h))))
  else
    (some (some (zv_i (0 : Int)), h)))) := by
  refine (zv_lim_eq _ _ _ _ _ _).trans ?_
  rfl
set_option maxRecDepth 100000 in
theorem qE3_begin (d : Nat) (a0 : Nat) (a1 : Int) (h : zv_H) : E3_begin d a0 a1 h =
  ((zv_gI h a0 3 2).bind fun v1 =>
  ((zv_pI h a0 3 3 (min a1 v1)).bind fun g2 =>
  ((zv_pI g2 a0 3 2 (0 : Int)).bind fun g3 =>
  ((zv_pI g3 a0 3 8 (0 : Int)).bind fun g4 =>
  ((zv_pI g4 a0 3 9 (-1 : Int)).bind fun g5 =>
  ((zv_pI g5 a0 3 6 (0 : Int)).bind fun g6 =>
  ((C3_next d a0 g6).bind fun q7 =>
  (some (none, q7.2))))))))) := by
  refine (zv_lim_eq _ _ _ _ _ _).trans ?_
  rfl
set_option maxRecDepth 100000 in
theorem qE3_next (d : Nat) (a0 : Nat) (h : zv_H) : E3_next d a0 h =
  ((zv_gI h a0 3 6).bind fun v1 =>
  ((zv_pI h a0 3 5 v1).bind fun g2 =>
  L3_next_8 d a0 g2)) := by
  refine (zv_lim_eq _ _ _ _ _ _).trans ?_
  rfl
set_option maxRecDepth 100000 in
theorem qL3_next_8 (d : Nat) (a0 : Nat) (h : zv_H) : L3_next_8 d a0 h =
  ((zv_gI h a0 3 5).bind fun v1 =>
  ((zv_gI h a0 3 3).bind fun v2 =>
  (if v1 < v2 then
    ((zv_gI h a0 3 5).bind fun v3 =>
    ((C3_byteAt d a0 v3 h).bind fun q4 =>
    (if q4.1 = (32 : Int) then
      ((zv_gI q4.2 a0 3 5).bind fun v5 =>
      ((zv_pI q4.2 a0 3 5 (zv_w (v5 + (1 : Int)))).bind fun g6 =>
      L3_next_8 d a0 g6))
    else
      ((zv_gI q4.2 a0 3 5).bind fun v7 =>
      ((C3_byteAt d a0 v7 q4.2).bind fun q8 =>
      (if q8.1 = (10 : Int) then
        ((zv_gI q8.2 a0 3 5).bind fun v9 =>
        ((zv_pI q8.2 a0 3 5 (zv_w (v9 + (1 : Int)))).bind fun g10 =>
        L3_next_8 d a0 g10))
      else
        L3_next_58 d a0 q8.2))))))
  else
    L3_next_58 d a0 h))) := by
  refine (zv_lim_eq _ _ _ _ _ _).trans ?_
  rfl
set_option maxRecDepth 100000 in
theorem qL3_next_58 (d : Nat) (a0 : Nat) (h : zv_H) : L3_next_58 d a0 h =
  ((zv_gI h a0 3 5).bind fun v1 =>
  ((zv_pI h a0 3 6 v1).bind fun g2 =>
  ((zv_gI g2 a0 3 5).bind fun v3 =>
  ((C3_byteAt d a0 v3 g2).bind fun q4 =>
  ((zv_pI q4.2 a0 3 7 q4.1).bind fun g5 =>
  ((zv_gI g5 a0 3 7).bind fun v6 =>
  (if v6 = (-1 : Int) then
    ((zv_pI g5 a0 3 4 (0 : Int)).bind fun g7 =>
    (some (some (zv_i (1 : Int)), g7)))
  else
    ((zv_gI g5 a0 3 7).bind fun v8 =>
    ((C3_isSmall d v8 g5).bind fun q9 =>
    (if q9.1 = 0 then
      ((zv_gI q9.2 a0 3 7).bind fun v10 =>
      ((C3_isDigit d v10 q9.2).bind fun q11 =>
      (if q11.1 = 0 then
        ((zv_pI q11.2 a0 3 4 (3 : Int)).bind fun g12 =>
        ((zv_gI g12 a0 3 6).bind fun v13 =>
        ((zv_pI g12 a0 3 6 (zv_w (v13 + (1 : Int)))).bind fun g14 =>
        ((zv_gI g14 a0 3 7).bind fun v15 =>
        (if v15 < (59 : Int) then
          L3_next_302 d a0 g14
        else
          ((zv_gI g14 a0 3 7).bind fun v16 =>
          (if v16 ≤ (62 : Int) then
            (some (some (zv_i (1 : Int)), g14))
          else
            L3_next_302 d a0 g14)))))))
      else
        ((zv_pI q11.2 a0 3 4 (2 : Int)).bind fun g17 =>
        ((zv_pI g17 a0 3 7 (0 : Int)).bind fun g18 =>
        L3_next_168 d a0 g18)))))
    else
      ((zv_pI q9.2 a0 3 4 (1 : Int)).bind fun g19 =>
      L3_next_108 d a0 g19))))))))))) := by
  refine (zv_lim_eq _ _ _ _ _ _).trans ?_
  rfl
set_option maxRecDepth 100000 in
theorem qL3_next_108 (d : Nat) (a0 : Nat) (h : zv_H) : L3_next_108 d a0 h =
  ((zv_gI h a0 3 6).bind fun v1 =>
  ((zv_gI h a0 3 3).bind fun v2 =>
  (if v1 < v2 then
    ((zv_gI h a0 3 6).bind fun v3 =>
    ((C3_byteAt d a0 v3 h).bind fun q4 =>
    ((C3_isSmall d q4.1 q4.2).bind fun q5 =>
    (if q5.1 = 0 then
      (some (some (zv_i (1 : Int)), q5.2))
    else
      ((zv_gI q5.2 a0 3 6).bind fun v6 =>
      ((zv_pI q5.2 a0 3 6 (zv_w (v6 + (1 : Int)))).bind fun g7 =>
      L3_next_108 d a0 g7))))))
  else
    (some (some (zv_i (1 : Int)), h))))) := by
  refine (zv_lim_eq _ _ _ _ _ _).trans ?_
  rfl
set_option maxRecDepth 100000 in
theorem qL3_next_168 (d : Nat) (a0 : Nat) (h : zv_H) : L3_next_168 d a0 h =
  ((zv_gI h a0 3 6).bind fun v1 =>
  ((zv_gI h a0 3 3).bind fun v2 =>
  (if v1 < v2 then
    ((zv_gI h a0 3 6).bind fun v3 =>
    ((zv_gI h a0 3 5).bind fun v4 =>
    (if (zv_w (v3 - v4)) ≤ (3 : Int) then
      ((zv_gI h a0 3 6).bind fun v5 =>
      ((C3_byteAt d a0 v5 h).bind fun q6 =>
      ((C3_isDigit d q6.1 q6.2).bind fun q7 =>
      (if q7.1 = 0 then
        L3_next_242 d a0 q7.2
      else
        ((zv_gI q7.2 a0 3 7).bind fun v8 =>
        ((zv_gI q7.2 a0 3 6).bind fun v9 =>
        ((C3_byteAt d a0 v9 q7.2).bind fun q10 =>
        ((zv_pI q10.2 a0 3 7 (zv_w ((zv_w ((zv_w (v8 * (10 : Int))) + q10.1)) - (48 : Int)))).bind fun g11 =>
        ((zv_gI g11 a0 3 6).bind fun v12 =>
        ((zv_pI g11 a0 3 6 (zv_w (v12 + (1 : Int)))).bind fun g13 =>
        L3_next_168 d a0 g13))))))))))
    else
      L3_next_242 d a0 h)))
  else
    L3_next_242 d a0 h))) := by
  refine (zv_lim_eq _ _ _ _ _ _).trans ?_
  rfl
set_option maxRecDepth 100000 in
theorem qL3_next_242 (d : Nat) (a0 : Nat) (h : zv_H) : L3_next_242 d a0 h =
  ((zv_gI h a0 3 6).bind fun v1 =>
  ((zv_gI h a0 3 5).bind fun v2 =>
  (if (zv_w (v1 - v2)) ≤ (3 : Int) then
    (some (some (zv_i (1 : Int)), h))
  else
    ((C3_fail d a0 (1 : Int) h).bind fun q3 =>
    (if q3.1 = 0 then
      (some (some (zv_i (0 : Int)), q3.2))
    else
      (some (some (zv_i (1 : Int)), q3.2))))))) := by
  refine (zv_lim_eq _ _ _ _ _ _).trans ?_
  rfl
set_option maxRecDepth 100000 in
theorem qL3_next_302 (d : Nat) (a0 : Nat) (h : zv_H) : L3_next_302 d a0 h =
  ((zv_gI h a0 3 7).bind fun v1 =>
  (if v1 = (91 : Int) then
    (some (some (zv_i (1 : Int)), h))
  else
    ((zv_gI h a0 3 7).bind fun v2 =>
    (if v2 = (93 : Int) then
      (some (some (zv_i (1 : Int)), h))
    else
      ((C3_fail d a0 (1 : Int) h).bind fun q3 =>
      (if q3.1 = 0 then
        (some (some (zv_i (0 : Int)), q3.2))
      else
        (some (some (zv_i (1 : Int)), q3.2)))))))) := by
  refine (zv_lim_eq _ _ _ _ _ _).trans ?_
  rfl
set_option maxRecDepth 100000 in
theorem qE3_isSmall (d : Nat) (a0 : Int) (h : zv_H) : E3_isSmall d a0 h =
  (if a0 < (97 : Int) then
    (some (some (zv_i (0 : Int)), h))
  else
    (if a0 ≤ (122 : Int) then
      (some (some (zv_i (1 : Int)), h))
    else
      (some (some (zv_i (0 : Int)), h)))) := by
  refine (zv_lim_eq _ _ _ _ _ _).trans ?_
  rfl
set_option maxRecDepth 100000 in
theorem qE3_isDigit (d : Nat) (a0 : Int) (h : zv_H) : E3_isDigit d a0 h =
  (if a0 < (48 : Int) then
    (some (some (zv_i (0 : Int)), h))
  else
    (if a0 ≤ (57 : Int) then
      (some (some (zv_i (1 : Int)), h))
    else
      (some (some (zv_i (0 : Int)), h)))) := by
  refine (zv_lim_eq _ _ _ _ _ _).trans ?_
  rfl
set_option maxRecDepth 100000 in
theorem qE3_is (d : Nat) (a0 : Nat) (a1 : Nat) (h : zv_H) : E3_is d a0 a1 h =
  ((zv_gI h a0 3 4).bind fun v1 =>
  (if v1 = (1 : Int) then
    ((zv_gI h a0 3 6).bind fun v2 =>
    ((zv_gI h a0 3 5).bind fun v3 =>
    ((C13_length d a1 h).bind fun q4 =>
    (if (zv_w (v2 - v3)) = q4.1 then
      L3_is_28 d a0 a1 (0 : Int) q4.2
    else
      (some (some (zv_i (0 : Int)), q4.2))))))
  else
    (some (some (zv_i (0 : Int)), h)))) := by
  refine (zv_lim_eq _ _ _ _ _ _).trans ?_
  rfl
set_option maxRecDepth 100000 in
theorem qL3_is_28 (d : Nat) (a0 : Nat) (a1 : Nat) (a2 : Int) (h : zv_H) : L3_is_28 d a0 a1 a2 h =
  ((C13_length d a1 h).bind fun q1 =>
  (if a2 < q1.1 then
    ((zv_gI q1.2 a0 3 5).bind fun v2 =>
    ((C3_byteAt d a0 (zv_w (v2 + a2)) q1.2).bind fun q3 =>
    ((C13_charAt d a1 a2 q3.2).bind fun q4 =>
    (if q3.1 = q4.1 then
      L3_is_28 d a0 a1 (zv_w (a2 + 1)) q4.2
    else
      (some (some (zv_i (0 : Int)), q4.2))))))
  else
    (some (some (zv_i (1 : Int)), q1.2)))) := by
  refine (zv_lim_eq _ _ _ _ _ _).trans ?_
  rfl
set_option maxRecDepth 100000 in
theorem qE3_isSign (d : Nat) (a0 : Nat) (a1 : Int) (h : zv_H) : E3_isSign d a0 a1 h =
  ((zv_gI h a0 3 4).bind fun v1 =>
  (if v1 = (3 : Int) then
    ((zv_gI h a0 3 7).bind fun v2 =>
    (if v2 = a1 then
      (some (some (zv_i (1 : Int)), h))
    else
      (some (some (zv_i (0 : Int)), h))))
  else
    (some (some (zv_i (0 : Int)), h)))) := by
  refine (zv_lim_eq _ _ _ _ _ _).trans ?_
  rfl
set_option maxRecDepth 100000 in
theorem qE3_head (d : Nat) (a0 : Nat) (a1 : Nat) (h : zv_H) : E3_head d a0 a1 h =
  ((zv_gI h a0 3 8).bind fun v1 =>
  (if v1 = 0 then
    ((C3_is d a0 1000000 h).bind fun q2 =>
    (if q2.1 = 0 then
      L3_head_52 d a0 a1 q2.2
    else
      ((C3_next d a0 q2.2).bind fun q3 =>
      (if q3.1 = 0 then
        L3_head_52 d a0 a1 q3.2
      else
        ((C3_spelled d a0 (40 : Int) q3.2).bind fun q4 =>
        (if q4.1 = 0 then
          L3_head_52 d a0 a1 q4.2
        else
          ((C3_closed d a0 q4.2).bind fun q5 =>
          (if q5.1 = 0 then
            L3_head_52 d a0 a1 q5.2
          else
            ((zv_gR q5.2 a0 3 1).bind fun v6 =>
            ((C0_startWith d a1 v6 q5.2).bind fun g7 =>
            ((C3_next d a0 g7).bind fun q8 =>
            L3_head_52 d a0 a1 q8.2)))))))))))
  else
    L3_head_52 d a0 a1 h)) := by
  refine (zv_lim_eq _ _ _ _ _ _).trans ?_
  rfl
set_option maxRecDepth 100000 in
theorem qL3_head_52 (d : Nat) (a0 : Nat) (a1 : Nat) (h : zv_H) : L3_head_52 d a0 a1 h =
  ((zv_gI h a0 3 8).bind fun v1 =>
  (if v1 = 0 then
    ((C3_is d a0 1000001 h).bind fun q2 =>
    (if q2.1 = 0 then
      (some (none, q2.2))
    else
      ((C3_next d a0 q2.2).bind fun q3 =>
      (if q3.1 = 0 then
        (some (none, q3.2))
      else
        ((zv_gR q3.2 a1 0 8).bind fun v4 =>
        ((C1_clear d v4 q3.2).bind fun g5 =>
        ((zv_gR g5 a1 0 8).bind fun v6 =>
        ((C3_test d a0 v6 (0 : Int) g5).bind fun q7 =>
        (if q7.1 = 0 then
          (some (none, q7.2))
        else
          ((C3_closed d a0 q7.2).bind fun q8 =>
          (if q8.1 = 0 then
            (some (none, q8.2))
          else
            ((C3_next d a0 q8.2).bind fun q9 =>
            (some (none, q9.2))))))))))))))
  else
    (some (none, h)))) := by
  refine (zv_lim_eq _ _ _ _ _ _).trans ?_
  rfl
set_option maxRecDepth 100000 in
theorem qE3_closed (d : Nat) (a0 : Nat) (h : zv_H) : E3_closed d a0 h =
  ((C3_isSign d a0 (59 : Int) h).bind fun q1 =>
  (if q1.1 = 0 then
    ((C3_fail d a0 (2 : Int) q1.2).bind fun q2 =>
    (if q2.1 = 0 then
      (some (some (zv_i (0 : Int)), q2.2))
    else
      (some (some (zv_i (1 : Int)), q2.2))))
  else
    (some (some (zv_i (1 : Int)), q1.2)))) := by
  refine (zv_lim_eq _ _ _ _ _ _).trans ?_
  rfl
set_option maxRecDepth 100000 in
theorem qE3_spelled (d : Nat) (a0 : Nat) (a1 : Int) (h : zv_H) : E3_spelled d a0 a1 h =
  ((zv_gI h a0 3 4).bind fun v1 =>
  (if v1 = (1 : Int) then
    ((zv_gI h a0 3 6).bind fun v2 =>
    ((zv_gI h a0 3 5).bind fun v3 =>
    (if (zv_w (v2 - v3)) ≤ a1 then
      ((zv_gR h a0 3 1).bind fun v4 =>
      ((C7_clear d v4 h).bind fun g5 =>
      ((zv_gI g5 a0 3 5).bind fun v6 =>
      L3_spelled_45 d a0 v6 g5)))
    else
      ((C3_fail d a0 (4 : Int) h).bind fun q7 =>
      (if q7.1 = 0 ∨ q7.1 = 1 then some (some (zv_i q7.1), q7.2) else none)))))
  else
    ((C3_fail d a0 (2 : Int) h).bind fun q8 =>
    (if q8.1 = 0 ∨ q8.1 = 1 then some (some (zv_i q8.1), q8.2) else none)))) := by
  refine (zv_lim_eq _ _ _ _ _ _).trans ?_
  rfl
set_option maxRecDepth 100000 in
theorem qL3_spelled_45 (d : Nat) (a0 : Nat) (a2 : Int) (h : zv_H) : L3_spelled_45 d a0 a2 h =
  ((zv_gI h a0 3 6).bind fun v1 =>
  (if a2 < v1 then
    ((zv_gR h a0 3 1).bind fun v2 =>
    ((C3_byteAt d a0 a2 h).bind fun q3 =>
    ((C7_add d v2 (zv_w (q3.1 - (97 : Int))) q3.2).bind fun g4 =>
    L3_spelled_45 d a0 (zv_w (a2 + 1)) g4)))
  else
    ((C3_next d a0 h).bind fun q5 =>
    (if q5.1 = 0 ∨ q5.1 = 1 then some (some (zv_i q5.1), q5.2) else none)))) := by
  refine (zv_lim_eq _ _ _ _ _ _).trans ?_
  rfl
set_option maxRecDepth 100000 in
theorem qE3_test (d : Nat) (a0 : Nat) (a1 : Nat) (a2 : Int) (h : zv_H) : E3_test d a0 a1 a2 h =
  ((C3_side d a0 a1 a2 h).bind fun q1 =>
  L3_test_10 d a0 a1 a2 q1.1 (0 : Int) q1.2) := by
  refine (zv_lim_eq _ _ _ _ _ _).trans ?_
  rfl
set_option maxRecDepth 100000 in
theorem qL3_test_10 (d : Nat) (a0 : Nat) (a1 : Nat) (a2 : Int) (a3 : Int) (a4 : Int) (h : zv_H) : L3_test_10 d a0 a1 a2 a3 a4 h =
  (if a4 < (700 : Int) then
    (if a3 = 0 then
      (if a3 = 0 ∨ a3 = 1 then some (some (zv_i a3), h) else none)
    else
      ((C3_is d a0 1000010 h).bind fun q1 =>
      (if q1.1 = 0 then
        (if a3 = 0 ∨ a3 = 1 then some (some (zv_i a3), q1.2) else none)
      else
        ((C3_next d a0 q1.2).bind fun q2 =>
        (if q2.1 = 0 then
          L3_test_51 d a0 a1 a2 a4 q2.2
        else
          ((C3_side d a0 a1 a2 q2.2).bind fun q3 =>
          (if q3.1 = 0 then
            L3_test_51 d a0 a1 a2 a4 q3.2
          else
            L3_test_52 d a0 a1 a2 a4 (1 : Int) q3.2)))))))
  else
    (if a3 = 0 ∨ a3 = 1 then some (some (zv_i a3), h) else none)) := by
  refine (zv_lim_eq _ _ _ _ _ _).trans ?_
  rfl
set_option maxRecDepth 100000 in
theorem qL3_test_51 (d : Nat) (a0 : Nat) (a1 : Nat) (a2 : Int) (a4 : Int) (h : zv_H) : L3_test_51 d a0 a1 a2 a4 h =
  L3_test_52 d a0 a1 a2 a4 (0 : Int) h := by
  refine (zv_lim_eq _ _ _ _ _ _).trans ?_
  rfl
set_option maxRecDepth 100000 in
theorem qL3_test_52 (d : Nat) (a0 : Nat) (a1 : Nat) (a2 : Int) (a4 : Int) (e0 : Int) (h : zv_H) : L3_test_52 d a0 a1 a2 a4 e0 h =
  ((C1_add d a1 (20 : Int) (0 : Int) h).bind fun g1 =>
  L3_test_10 d a0 a1 a2 e0 (zv_w (a4 + 1)) g1) := by
  refine (zv_lim_eq _ _ _ _ _ _).trans ?_
  rfl
set_option maxRecDepth 100000 in
theorem qE3_side (d : Nat) (a0 : Nat) (a1 : Nat) (a2 : Int) (h : zv_H) : E3_side d a0 a1 a2 h =
  ((C3_fact d a0 a1 a2 h).bind fun q1 =>
  L3_side_10 d a0 a1 a2 q1.1 (0 : Int) q1.2) := by
  refine (zv_lim_eq _ _ _ _ _ _).trans ?_
  rfl
set_option maxRecDepth 100000 in
theorem qL3_side_10 (d : Nat) (a0 : Nat) (a1 : Nat) (a2 : Int) (a3 : Int) (a4 : Int) (h : zv_H) : L3_side_10 d a0 a1 a2 a3 a4 h =
  (if a4 < (700 : Int) then
    (if a3 = 0 then
      (if a3 = 0 ∨ a3 = 1 then some (some (zv_i a3), h) else none)
    else
      ((C3_is d a0 1000009 h).bind fun q1 =>
      (if q1.1 = 0 then
        (if a3 = 0 ∨ a3 = 1 then some (some (zv_i a3), q1.2) else none)
      else
        ((C3_next d a0 q1.2).bind fun q2 =>
        (if q2.1 = 0 then
          L3_side_51 d a0 a1 a2 a4 q2.2
        else
          ((C3_fact d a0 a1 a2 q2.2).bind fun q3 =>
          (if q3.1 = 0 then
            L3_side_51 d a0 a1 a2 a4 q3.2
          else
            L3_side_52 d a0 a1 a2 a4 (1 : Int) q3.2)))))))
  else
    (if a3 = 0 ∨ a3 = 1 then some (some (zv_i a3), h) else none)) := by
  refine (zv_lim_eq _ _ _ _ _ _).trans ?_
  rfl
set_option maxRecDepth 100000 in
theorem qL3_side_51 (d : Nat) (a0 : Nat) (a1 : Nat) (a2 : Int) (a4 : Int) (h : zv_H) : L3_side_51 d a0 a1 a2 a4 h =
  L3_side_52 d a0 a1 a2 a4 (0 : Int) h := by
  refine (zv_lim_eq _ _ _ _ _ _).trans ?_
  rfl
set_option maxRecDepth 100000 in
theorem qL3_side_52 (d : Nat) (a0 : Nat) (a1 : Nat) (a2 : Int) (a4 : Int) (e0 : Int) (h : zv_H) : L3_side_52 d a0 a1 a2 a4 e0 h =
  ((C1_add d a1 (19 : Int) (0 : Int) h).bind fun g1 =>
  L3_side_10 d a0 a1 a2 e0 (zv_w (a4 + 1)) g1) := by
  refine (zv_lim_eq _ _ _ _ _ _).trans ?_
  rfl
set_option maxRecDepth 100000 in
theorem qE3_fact (d : Nat) (a0 : Nat) (a1 : Nat) (a2 : Int) (h : zv_H) : E3_fact d a0 a1 a2 h =
  ((C3_is d a0 1000002 h).bind fun q1 =>
  (if q1.1 = 0 then
    ((C3_isSign d a0 (91 : Int) q1.2).bind fun q2 =>
    (if q2.1 = 0 then
      ((C3_asked d a0 q2.2).bind fun q3 =>
      ((C3_comparison d a0 a1 q3.1 q3.2).bind fun q4 =>
      (if q4.1 = 0 ∨ q4.1 = 1 then some (some (zv_i q4.1), q4.2) else none)))
    else
      L3_fact_30 d a0 a1 a2 q1.1 q2.2))
  else
    L3_fact_30 d a0 a1 a2 q1.1 q1.2)) := by
  refine (zv_lim_eq _ _ _ _ _ _).trans ?_
  rfl
set_option maxRecDepth 100000 in
theorem qL3_fact_30 (d : Nat) (a0 : Nat) (a1 : Nat) (a2 : Int) (a3 : Int) (h : zv_H) : L3_fact_30 d a0 a1 a2 a3 h =
  (if a2 < (6 : Int) then
    ((C3_next d a0 h).bind fun q1 =>
    (if q1.1 = 0 then
      (some (some (zv_i (0 : Int)), q1.2))
    else
      (if a3 = 0 then
        ((C3_test d a0 a1 (zv_w (a2 + (1 : Int))) q1.2).bind fun q2 =>
        (if q2.1 = 0 then
          (some (some (zv_i (0 : Int)), q2.2))
        else
          ((C3_isSign d a0 (93 : Int) q2.2).bind fun q3 =>
          (if q3.1 = 0 then
            ((C3_fail d a0 (2 : Int) q3.2).bind fun q4 =>
            (if q4.1 = 0 ∨ q4.1 = 1 then some (some (zv_i q4.1), q4.2) else none))
          else
            ((C3_next d a0 q3.2).bind fun q5 =>
            (if q5.1 = 0 ∨ q5.1 = 1 then some (some (zv_i q5.1), q5.2) else none))))))
      else
        ((C3_fact d a0 a1 (zv_w (a2 + (1 : Int))) q1.2).bind fun q6 =>
        ((C1_add d a1 (18 : Int) (0 : Int) q6.2).bind fun g7 =>
        (if q6.1 = 0 ∨ q6.1 = 1 then some (some (zv_i q6.1), g7) else none))))))
  else
    ((C3_fail d a0 (6 : Int) h).bind fun q8 =>
    (if q8.1 = 0 ∨ q8.1 = 1 then some (some (zv_i q8.1), q8.2) else none))) := by
  refine (zv_lim_eq _ _ _ _ _ _).trans ?_
  rfl
set_option maxRecDepth 100000 in
theorem qE3_comparison (d : Nat) (a0 : Nat) (a1 : Nat) (a2 : Int) (h : zv_H) : E3_comparison d a0 a1 a2 h =
  (if a2 = (-1 : Int) then
    ((C3_fail d a0 (2 : Int) h).bind fun q1 =>
    (if q1.1 = 0 ∨ q1.1 = 1 then some (some (zv_i q1.1), q1.2) else none))
  else
    ((C3_next d a0 h).bind fun q2 =>
    (if q2.1 = 0 then
      (some (some (zv_i (0 : Int)), q2.2))
    else
      ((zv_gI q2.2 a0 3 4).bind fun v3 =>
      (if v3 = (3 : Int) then
        ((zv_gI q2.2 a0 3 7).bind fun v4 =>
        (if v4 < (60 : Int) then
          L3_comparison_46 d a0 q2.2
        else
          ((zv_gI q2.2 a0 3 7).bind fun v5 =>
          (if v5 ≤ (62 : Int) then
            ((zv_gI q2.2 a0 3 7).bind fun v6 =>
            ((C3_next d a0 q2.2).bind fun q7 =>
            (if q7.1 = 0 then
              (some (some (zv_i (0 : Int)), q7.2))
            else
              ((zv_gI q7.2 a0 3 4).bind fun v8 =>
              (if v8 = (2 : Int) then
                ((zv_gI q7.2 a0 3 7).bind fun v9 =>
                ((C1_compare d a1 a2 (zv_w (v6 - (60 : Int))) v9 q7.2).bind fun g10 =>
                ((C3_next d a0 g10).bind fun q11 =>
                (if q11.1 = 0 ∨ q11.1 = 1 then some (some (zv_i q11.1), q11.2) else none))))
              else
                ((C3_fail d a0 (2 : Int) q7.2).bind fun q12 =>
                (if q12.1 = 0 ∨ q12.1 = 1 then some (some (zv_i q12.1), q12.2) else none)))))))
          else
            L3_comparison_46 d a0 q2.2))))
      else
        L3_comparison_46 d a0 q2.2))))) := by
  refine (zv_lim_eq _ _ _ _ _ _).trans ?_
  rfl
set_option maxRecDepth 100000 in
theorem qL3_comparison_46 (d : Nat) (a0 : Nat) (h : zv_H) : L3_comparison_46 d a0 h =
  ((C3_fail d a0 (2 : Int) h).bind fun q1 =>
  (if q1.1 = 0 ∨ q1.1 = 1 then some (some (zv_i q1.1), q1.2) else none)) := by
  refine (zv_lim_eq _ _ _ _ _ _).trans ?_
  rfl
set_option maxRecDepth 100000 in
theorem qE3_asked (d : Nat) (a0 : Nat) (h : zv_H) : E3_asked d a0 h =
  ((C3_is d a0 1000003 h).bind fun q1 =>
  (if q1.1 = 0 then
    ((C3_is d a0 1000004 q1.2).bind fun q2 =>
    (if q2.1 = 0 then
      ((C3_is d a0 1000005 q2.2).bind fun q3 =>
      (if q3.1 = 0 then
        ((C3_is d a0 1000006 q3.2).bind fun q4 =>
        (if q4.1 = 0 then
          ((C3_is d a0 1000007 q4.2).bind fun q5 =>
          (if q5.1 = 0 then
            ((C3_is d a0 1000008 q5.2).bind fun q6 =>
            (if q6.1 = 0 then
              (some (some (zv_i (-1 : Int)), q6.2))
            else
              (some (some (zv_i (5 : Int)), q6.2))))
          else
            (some (some (zv_i (4 : Int)), q5.2))))
        else
          (some (some (zv_i (3 : Int)), q4.2))))
      else
        (some (some (zv_i (2 : Int)), q3.2))))
    else
      (some (some (zv_i (1 : Int)), q2.2))))
  else
    (some (some (zv_i (0 : Int)), q1.2)))) := by
  refine (zv_lim_eq _ _ _ _ _ _).trans ?_
  rfl
set_option maxRecDepth 100000 in
theorem qE3_line (d : Nat) (a0 : Nat) (h : zv_H) : E3_line d a0 h =
  ((C3_verbHere d a0 h).bind fun q1 =>
  ((zv_pI q1.2 a0 3 10 q1.1).bind fun g2 =>
  ((zv_gI g2 a0 3 10).bind fun v3 =>
  (if v3 = (-1 : Int) then
    ((C3_fail d a0 (2 : Int) g2).bind fun q4 =>
    (if q4.1 = 0 ∨ q4.1 = 1 then some (some (zv_i q4.1), q4.2) else none))
  else
    ((C3_next d a0 g2).bind fun q5 =>
    (if q5.1 = 0 then
      L3_line_85 d a0 q5.1 q5.2
    else
      ((zv_gI q5.2 a0 3 10).bind fun v6 =>
      (if v6 = (3 : Int) then
        L3_line_85 d a0 q5.1 q5.2
      else
        ((zv_gI q5.2 a0 3 10).bind fun v7 =>
        (if v7 = (4 : Int) then
          L3_line_85 d a0 q5.1 q5.2
        else
          ((zv_gI q5.2 a0 3 10).bind fun v8 =>
          (if v8 = (6 : Int) then
            L3_line_85 d a0 q5.1 q5.2
          else
            ((zv_gI q5.2 a0 3 7).bind fun v9 =>
            ((zv_pI q5.2 a0 3 11 v9).bind fun g10 =>
            ((zv_gI g10 a0 3 4).bind fun v11 =>
            (if v11 = (2 : Int) then
              ((C3_next d a0 g10).bind fun q12 =>
              L3_line_84 d a0 q12.1 q12.2)
            else
              ((C3_fail d a0 (2 : Int) g10).bind fun q13 =>
              L3_line_84 d a0 q13.1 q13.2))))))))))))))))) := by
  refine (zv_lim_eq _ _ _ _ _ _).trans ?_
  rfl
set_option maxRecDepth 100000 in
theorem qL3_line_84 (d : Nat) (a0 : Nat) (e0 : Int) (h : zv_H) : L3_line_84 d a0 e0 h =
  L3_line_85 d a0 e0 h := by
  refine (zv_lim_eq _ _ _ _ _ _).trans ?_
  rfl
set_option maxRecDepth 100000 in
theorem qL3_line_85 (d : Nat) (a0 : Nat) (a1 : Int) (h : zv_H) : L3_line_85 d a0 a1 h =
  (if a1 = 0 then
    L3_line_126 d a0 a1 h
  else
    ((zv_gI h a0 3 10).bind fun v1 =>
    (if v1 = (1 : Int) then
      ((zv_gI h a0 3 7).bind fun v2 =>
      ((zv_pI h a0 3 12 v2).bind fun g3 =>
      ((zv_gI g3 a0 3 4).bind fun v4 =>
      (if v4 = (2 : Int) then
        ((C3_next d a0 g3).bind fun q5 =>
        L3_line_125 d a0 q5.1 q5.2)
      else
        ((C3_fail d a0 (2 : Int) g3).bind fun q6 =>
        L3_line_125 d a0 q6.1 q6.2)))))
    else
      L3_line_126 d a0 a1 h))) := by
  refine (zv_lim_eq _ _ _ _ _ _).trans ?_
  rfl
set_option maxRecDepth 100000 in
theorem qL3_line_125 (d : Nat) (a0 : Nat) (e0 : Int) (h : zv_H) : L3_line_125 d a0 e0 h =
  L3_line_126 d a0 e0 h := by
  refine (zv_lim_eq _ _ _ _ _ _).trans ?_
  rfl
set_option maxRecDepth 100000 in
theorem qL3_line_126 (d : Nat) (a0 : Nat) (a1 : Int) (h : zv_H) : L3_line_126 d a0 a1 h =
  (if a1 = 0 then
    L3_line_144 d a0 a1 h
  else
    ((zv_gI h a0 3 10).bind fun v1 =>
    (if v1 = 0 then
      ((C3_spelled d a0 (12 : Int) h).bind fun q2 =>
      L3_line_144 d a0 q2.1 q2.2)
    else
      L3_line_144 d a0 a1 h))) := by
  refine (zv_lim_eq _ _ _ _ _ _).trans ?_
  rfl
set_option maxRecDepth 100000 in
theorem qL3_line_144 (d : Nat) (a0 : Nat) (a1 : Int) (h : zv_H) : L3_line_144 d a0 a1 h =
  (if a1 = 0 then
    L3_line_164 d a0 a1 h
  else
    ((zv_gI h a0 3 10).bind fun v1 =>
    (if v1 = (6 : Int) then
      ((C3_spelled d a0 (6 : Int) h).bind fun q2 =>
      L3_line_164 d a0 q2.1 q2.2)
    else
      L3_line_164 d a0 a1 h))) := by
  refine (zv_lim_eq _ _ _ _ _ _).trans ?_
  rfl
set_option maxRecDepth 100000 in
theorem qL3_line_164 (d : Nat) (a0 : Nat) (a1 : Int) (h : zv_H) : L3_line_164 d a0 a1 h =
  (if a1 = 0 then
    (some (some (zv_i (0 : Int)), h))
  else
    ((C3_closed d a0 h).bind fun q1 =>
    (if q1.1 = 0 then
      (some (some (zv_i (0 : Int)), q1.2))
    else
      (some (some (zv_i (1 : Int)), q1.2))))) := by
  refine (zv_lim_eq _ _ _ _ _ _).trans ?_
  rfl
set_option maxRecDepth 100000 in
theorem qE3_verbHere (d : Nat) (a0 : Nat) (h : zv_H) : E3_verbHere d a0 h =
  ((C3_is d a0 1000011 h).bind fun q1 =>
  (if q1.1 = 0 then
    ((C3_is d a0 1000012 q1.2).bind fun q2 =>
    (if q2.1 = 0 then
      ((C3_is d a0 1000013 q2.2).bind fun q3 =>
      (if q3.1 = 0 then
        ((C3_is d a0 1000014 q3.2).bind fun q4 =>
        (if q4.1 = 0 then
          ((C3_is d a0 1000015 q4.2).bind fun q5 =>
          (if q5.1 = 0 then
            ((C3_is d a0 1000016 q5.2).bind fun q6 =>
            (if q6.1 = 0 then
              ((C3_is d a0 1000017 q6.2).bind fun q7 =>
              (if q7.1 = 0 then
                ((C3_is d a0 1000018 q7.2).bind fun q8 =>
                (if q8.1 = 0 then
                  ((C3_is d a0 1000019 q8.2).bind fun q9 =>
                  (if q9.1 = 0 then
                    ((C3_is d a0 1000020 q9.2).bind fun q10 =>
                    (if q10.1 = 0 then
                      ((C3_is d a0 1000021 q10.2).bind fun q11 =>
                      (if q11.1 = 0 then
                        ((C3_is d a0 1000022 q11.2).bind fun q12 =>
                        (if q12.1 = 0 then
                          (some (some (zv_i (-1 : Int)), q12.2))
                        else
                          (some (some (zv_i (11 : Int)), q12.2))))
                      else
                        (some (some (zv_i (10 : Int)), q11.2))))
                    else
                      (some (some (zv_i (9 : Int)), q10.2))))
                  else
                    (some (some (zv_i (8 : Int)), q9.2))))
                else
                  (some (some (zv_i (7 : Int)), q8.2))))
              else
                (some (some (zv_i (6 : Int)), q7.2))))
            else
              (some (some (zv_i (5 : Int)), q6.2))))
          else
            (some (some (zv_i (4 : Int)), q5.2))))
        else
          (some (some (zv_i (3 : Int)), q4.2))))
      else
        (some (some (zv_i (2 : Int)), q3.2))))
    else
      (some (some (zv_i (1 : Int)), q2.2))))
  else
    (some (some (zv_i (0 : Int)), q1.2)))) := by
  refine (zv_lim_eq _ _ _ _ _ _).trans ?_
  rfl
