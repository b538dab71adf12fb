set_option maxRecDepth 100000 in
theorem qE1_init (d : Nat) (a0 : Nat) (h : zv_H) : E1_init d a0 h =
  (if a0 = 0 then none else
  ((zv_nA h 2 (176 : Int)).bind fun g1 =>
  ((zv_pR g1 a0 1 0 (zv_n h + 1)).bind fun g2 =>
  ((zv_nA g2 2 (176 : Int)).bind fun g3 =>
  ((zv_pR g3 a0 1 1 (zv_n g2 + 1)).bind fun g4 =>
  ((zv_nA g4 2 (6 : Int)).bind fun g5 =>
  ((zv_pR g5 a0 1 2 (zv_n g4 + 1)).bind fun g6 =>
  (some (none, g6))))))))) := by
  refine (zv_lim_eq _ _ _ _ _ _).trans ?_
  rfl
set_option maxRecDepth 100000 in
theorem qE1_clear (d : Nat) (a0 : Nat) (h : zv_H) : E1_clear d a0 h =
  ((zv_pI h a0 1 3 (0 : Int)).bind fun g1 =>
  (some (none, g1))) := by
  refine (zv_lim_eq _ _ _ _ _ _).trans ?_
  rfl
set_option maxRecDepth 100000 in
theorem qE1_usual (d : Nat) (a0 : Nat) (h : zv_H) : E1_usual d a0 h =
  ((C1_clear d a0 h).bind fun g1 =>
  ((C1_compare d a0 (0 : Int) (0 : Int) (3 : Int) g1).bind fun g2 =>
  ((C1_compare d a0 (3 : Int) (1 : Int) (1 : Int) g2).bind fun g3 =>
  ((C1_add d a0 (19 : Int) (0 : Int) g3).bind fun g4 =>
  ((C1_compare d a0 (4 : Int) (1 : Int) (1 : Int) g4).bind fun g5 =>
  ((C1_add d a0 (19 : Int) (0 : Int) g5).bind fun g6 =>
  ((C1_compare d a0 (1 : Int) (0 : Int) (8 : Int) g6).bind fun g7 =>
  ((C1_add d a0 (19 : Int) (0 : Int) g7).bind fun g8 =>
  (some (none, g8)))))))))) := by
  refine (zv_lim_eq _ _ _ _ _ _).trans ?_
  rfl
set_option maxRecDepth 100000 in
theorem qE1_compare (d : Nat) (a0 : Nat) (a1 : Int) (a2 : Int) (a3 : Int) (h : zv_H) : E1_compare d a0 a1 a2 a3 h =
  ((C1_add d a0 (zv_w ((zv_w (a1 * (3 : Int))) + a2)) a3 h).bind fun g1 =>
  (some (none, g1))) := by
  refine (zv_lim_eq _ _ _ _ _ _).trans ?_
  rfl
set_option maxRecDepth 100000 in
theorem qE1_add (d : Nat) (a0 : Nat) (a1 : Int) (a2 : Int) (h : zv_H) : E1_add d a0 a1 a2 h =
  ((zv_gI h a0 1 3).bind fun v1 =>
  (if v1 < 0 then
    (some (none, h))
  else
    ((zv_gI h a0 1 3).bind fun v2 =>
    (if v2 < (176 : Int) then
      ((zv_gR h a0 1 0).bind fun v3 =>
      ((zv_gI h a0 1 3).bind fun v4 =>
      ((zv_wI h v3 v4 a1).bind fun g5 =>
      ((zv_gR g5 a0 1 1).bind fun v6 =>
      ((zv_gI g5 a0 1 3).bind fun v7 =>
      ((zv_wI g5 v6 v7 a2).bind fun g8 =>
      ((zv_gI g8 a0 1 3).bind fun v9 =>
      ((zv_pI g8 a0 1 3 (zv_w (v9 + (1 : Int)))).bind fun g10 =>
      (some (none, g10))))))))))
    else
      (some (none, h)))))) := by
  refine (zv_lim_eq _ _ _ _ _ _).trans ?_
  rfl
set_option maxRecDepth 100000 in
theorem qE1_set (d : Nat) (a0 : Nat) (a1 : Int) (a2 : Int) (h : zv_H) : E1_set d a0 a1 a2 h =
  (if a1 < 0 then
    (some (none, h))
  else
    (if a1 < (6 : Int) then
      ((zv_gR h a0 1 2).bind fun v1 =>
      ((zv_wI h v1 a1 a2).bind fun g2 =>
      (some (none, g2))))
    else
      (some (none, h)))) := by
  refine (zv_lim_eq _ _ _ _ _ _).trans ?_
  rfl
set_option maxRecDepth 100000 in
theorem qE1_holds (d : Nat) (a0 : Nat) (h : zv_H) : E1_holds d a0 h =
  L1_holds_4 d a0 (Int64.ofNat 0) (0 : Int) h := by
  refine (zv_lim_eq _ _ _ _ _ _).trans ?_
  rfl
set_option maxRecDepth 100000 in
theorem qL1_holds_4 (d : Nat) (a0 : Nat) (a1 : Int64) (a3 : Int) (h : zv_H) : L1_holds_4 d a0 a1 a3 h =
  ((zv_gI h a0 1 3).bind fun v1 =>
  (if a3 < v1 then
    (if a3 < (176 : Int) then
      ((zv_gR h a0 1 0).bind fun v2 =>
      ((zv_aI h v2 a3).bind fun v3 =>
      (if v3 = (18 : Int) then
        L1_holds_4 d a0 (a1 ^^^ (Int64.ofNat 1)) (zv_w (a3 + 1)) h
      else
        (if v3 = (19 : Int) then
          L1_holds_4 d a0 ((zv_lushr a1 (1 : Int)) &&& (a1 ||| (-2 : Int64))) (zv_w (a3 + 1)) h
        else
          (if v3 = (20 : Int) then
            L1_holds_4 d a0 ((zv_lushr a1 (1 : Int)) ||| (a1 &&& (Int64.ofNat 1))) (zv_w (a3 + 1)) h
          else
            (if (zv_w ((v3).tdiv (3 : Int))) < 0 then
              L1_holds_107 d a0 a1 a3 v3 h
            else
              (if (zv_w ((v3).tdiv (3 : Int))) < (6 : Int) then
                ((zv_gR h a0 1 2).bind fun v4 =>
                ((zv_aI h v4 (zv_w ((v3).tdiv (3 : Int)))).bind fun v5 =>
                L1_holds_108 d a0 a1 a3 v3 v5 h))
              else
                L1_holds_107 d a0 a1 a3 v3 h)))))))
    else
      L1_holds_204 d a1 h)
  else
    L1_holds_204 d a1 h)) := by
  refine (zv_lim_eq _ _ _ _ _ _).trans ?_
  rfl
set_option maxRecDepth 100000 in
theorem qL1_holds_107 (d : Nat) (a0 : Nat) (a1 : Int64) (a3 : Int) (a4 : Int) (h : zv_H) : L1_holds_107 d a0 a1 a3 a4 h =
  L1_holds_108 d a0 a1 a3 a4 (0 : Int) h := by
  refine (zv_lim_eq _ _ _ _ _ _).trans ?_
  rfl
set_option maxRecDepth 100000 in
theorem qL1_holds_108 (d : Nat) (a0 : Nat) (a1 : Int64) (a3 : Int) (a4 : Int) (e0 : Int) (h : zv_H) : L1_holds_108 d a0 a1 a3 a4 e0 h =
  (if ((a4).tmod (3 : Int)) = 0 then
    ((zv_gR h a0 1 1).bind fun v1 =>
    ((zv_aI h v1 a3).bind fun v2 =>
    (if e0 < v2 then
      L1_holds_181 d a0 a1 a3 (1 : Int) h
    else
      L1_holds_181 d a0 a1 a3 (0 : Int) h)))
  else
    (if ((a4).tmod (3 : Int)) = (1 : Int) then
      ((zv_gR h a0 1 1).bind fun v3 =>
      ((zv_aI h v3 a3).bind fun v4 =>
      (if e0 = v4 then
        L1_holds_181 d a0 a1 a3 (1 : Int) h
      else
        L1_holds_181 d a0 a1 a3 (0 : Int) h)))
    else
      ((zv_gR h a0 1 1).bind fun v5 =>
      ((zv_aI h v5 a3).bind fun v6 =>
      (if e0 ≤ v6 then
        L1_holds_181 d a0 a1 a3 (0 : Int) h
      else
        L1_holds_181 d a0 a1 a3 (1 : Int) h))))) := by
  refine (zv_lim_eq _ _ _ _ _ _).trans ?_
  rfl
set_option maxRecDepth 100000 in
theorem qL1_holds_181 (d : Nat) (a0 : Nat) (a1 : Int64) (a3 : Int) (e0 : Int) (h : zv_H) : L1_holds_181 d a0 a1 a3 e0 h =
  (if e0 = 0 then
    L1_holds_4 d a0 ((zv_lshl a1 (1 : Int)) ||| (Int64.ofNat 0)) (zv_w (a3 + 1)) h
  else
    L1_holds_4 d a0 ((zv_lshl a1 (1 : Int)) ||| (Int64.ofNat 1)) (zv_w (a3 + 1)) h) := by
  refine (zv_lim_eq _ _ _ _ _ _).trans ?_
  rfl
set_option maxRecDepth 100000 in
theorem qL1_holds_204 (d : Nat) (a1 : Int64) (h : zv_H) : L1_holds_204 d a1 h =
  (if (zv_lcmp (a1 &&& (Int64.ofNat 1)) (Int64.ofNat 0)) = 0 then
    (some (some (zv_i (0 : Int)), h))
  else
    (some (some (zv_i (1 : Int)), h))) := by
  refine (zv_lim_eq _ _ _ _ _ _).trans ?_
  rfl
set_option maxRecDepth 100000 in
theorem qE2_init (d : Nat) (a0 : Nat) (h : zv_H) : E2_init d a0 h =
  (if a0 = 0 then none else
  ((zv_nA h 2 (12 : Int)).bind fun g1 =>
  ((zv_pR g1 a0 2 0 (zv_n h + 1)).bind fun g2 =>
  ((zv_nA g2 2 (12 : Int)).bind fun g3 =>
  ((zv_pR g3 a0 2 1 (zv_n g2 + 1)).bind fun g4 =>
  (some (none, g4))))))) := by
  refine (zv_lim_eq _ _ _ _ _ _).trans ?_
  rfl
set_option maxRecDepth 100000 in
theorem qE2_indexOf (d : Nat) (a0 : Nat) (a1 : Int) (h : zv_H) : E2_indexOf d a0 a1 h =
  L2_indexOf_2 d a0 a1 (0 : Int) h := by
  refine (zv_lim_eq _ _ _ _ _ _).trans ?_
  rfl
set_option maxRecDepth 100000 in
theorem qL2_indexOf_2 (d : Nat) (a0 : Nat) (a1 : Int) (a2 : Int) (h : zv_H) : L2_indexOf_2 d a0 a1 a2 h =
  ((zv_gI h a0 2 2).bind fun v1 =>
  (if a2 < v1 then
    (if a2 < (12 : Int) then
      ((zv_gR h a0 2 0).bind fun v2 =>
      ((zv_aI h v2 a2).bind fun v3 =>
      (if v3 = a1 then
        (some (some (zv_i a2), h))
      else
        L2_indexOf_2 d a0 a1 (zv_w (a2 + 1)) h)))
    else
      (some (some (zv_i (-1 : Int)), h)))
  else
    (some (some (zv_i (-1 : Int)), h)))) := by
  refine (zv_lim_eq _ _ _ _ _ _).trans ?_
  rfl
set_option maxRecDepth 100000 in
theorem qE2_keyAt (d : Nat) (a0 : Nat) (a1 : Int) (h : zv_H) : E2_keyAt d a0 a1 h =
  (if a1 < 0 then
    (some (some (zv_i (0 : Int)), h))
  else
    ((zv_gI h a0 2 2).bind fun v1 =>
    (if a1 < v1 then
      (if a1 < (12 : Int) then
        ((zv_gR h a0 2 0).bind fun v2 =>
        ((zv_aI h v2 a1).bind fun v3 =>
        (some (some (zv_i v3), h))))
      else
        (some (some (zv_i (0 : Int)), h)))
    else
      (some (some (zv_i (0 : Int)), h))))) := by
  refine (zv_lim_eq _ _ _ _ _ _).trans ?_
  rfl
set_option maxRecDepth 100000 in
theorem qE2_ownerAt (d : Nat) (a0 : Nat) (a1 : Int) (h : zv_H) : E2_ownerAt d a0 a1 h =
  (if a1 < 0 then
    (some (some (zv_i (0 : Int)), h))
  else
    ((zv_gI h a0 2 2).bind fun v1 =>
    (if a1 < v1 then
      (if a1 < (12 : Int) then
        ((zv_gR h a0 2 1).bind fun v2 =>
        ((zv_aI h v2 a1).bind fun v3 =>
        (some (some (zv_i v3), h))))
      else
        (some (some (zv_i (0 : Int)), h)))
    else
      (some (some (zv_i (0 : Int)), h))))) := by
  refine (zv_lim_eq _ _ _ _ _ _).trans ?_
  rfl
set_option maxRecDepth 100000 in
theorem qE2_countOf (d : Nat) (a0 : Nat) (a1 : Int) (h : zv_H) : E2_countOf d a0 a1 h =
  L2_countOf_4 d a0 a1 (0 : Int) (0 : Int) h := by
  refine (zv_lim_eq _ _ _ _ _ _).trans ?_
  rfl
set_option maxRecDepth 100000 in
theorem qL2_countOf_4 (d : Nat) (a0 : Nat) (a1 : Int) (a2 : Int) (a3 : Int) (h : zv_H) : L2_countOf_4 d a0 a1 a2 a3 h =
  ((zv_gI h a0 2 2).bind fun v1 =>
  (if a3 < v1 then
    (if a3 < (12 : Int) then
      ((zv_gR h a0 2 1).bind fun v2 =>
      ((zv_aI h v2 a3).bind fun v3 =>
      (if v3 = a1 then
        L2_countOf_4 d a0 a1 (zv_w (a2 + (1 : Int))) (zv_w (a3 + 1)) h
      else
        L2_countOf_4 d a0 a1 (zv_w (a2 + (0 : Int))) (zv_w (a3 + 1)) h)))
    else
      (some (some (zv_i a2), h)))
  else
    (some (some (zv_i a2), h)))) := by
  refine (zv_lim_eq _ _ _ _ _ _).trans ?_
  rfl
set_option maxRecDepth 100000 in
theorem qE2_own (d : Nat) (a0 : Nat) (a1 : Int) (a2 : Int) (h : zv_H) : E2_own d a0 a1 a2 h =
  ((C2_indexOf d a0 a1 h).bind fun q1 =>
  (if q1.1 = (-1 : Int) then
    ((zv_gI q1.2 a0 2 2).bind fun v2 =>
    L2_own_16 d a0 a1 a2 v2 q1.2)
  else
    L2_own_16 d a0 a1 a2 q1.1 q1.2)) := by
  refine (zv_lim_eq _ _ _ _ _ _).trans ?_
  rfl
set_option maxRecDepth 100000 in
theorem qL2_own_16 (d : Nat) (a0 : Nat) (a1 : Int) (a2 : Int) (a3 : Int) (h : zv_H) : L2_own_16 d a0 a1 a2 a3 h =
  (if a3 < 0 then
    (some (none, h))
  else
    (if a3 < (12 : Int) then
      ((zv_gR h a0 2 0).bind fun v1 =>
      ((zv_wI h v1 a3 a1).bind fun g2 =>
      ((zv_gR g2 a0 2 1).bind fun v3 =>
      ((zv_wI g2 v3 a3 a2).bind fun g4 =>
      ((zv_gI g4 a0 2 2).bind fun v5 =>
      ((zv_pI g4 a0 2 2 (max v5 (zv_w (a3 + (1 : Int))))).bind fun g6 =>
      (some (none, g6))))))))
    else
      (some (none, h)))) := by
  refine (zv_lim_eq _ _ _ _ _ _).trans ?_
  rfl
set_option maxRecDepth 100000 in
theorem qE2_drop (d : Nat) (a0 : Nat) (a1 : Int) (h : zv_H) : E2_drop d a0 a1 h =
  L2_drop_6 d a0 (max a1 (0 : Int)) h := by
  refine (zv_lim_eq _ _ _ _ _ _).trans ?_
  rfl
set_option maxRecDepth 100000 in
theorem qL2_drop_6 (d : Nat) (a0 : Nat) (a2 : Int) (h : zv_H) : L2_drop_6 d a0 a2 h =
  ((zv_gI h a0 2 2).bind fun v1 =>
  (if (zv_w (a2 + (1 : Int))) < v1 then
    (if (zv_w (a2 + (1 : Int))) < (12 : Int) then
      ((zv_gR h a0 2 0).bind fun v2 =>
      ((zv_gR h a0 2 0).bind fun v3 =>
      ((zv_aI h v3 (zv_w (a2 + (1 : Int)))).bind fun v4 =>
      ((zv_wI h v2 a2 v4).bind fun g5 =>
      ((zv_gR g5 a0 2 1).bind fun v6 =>
      ((zv_gR g5 a0 2 1).bind fun v7 =>
      ((zv_aI g5 v7 (zv_w (a2 + (1 : Int)))).bind fun v8 =>
      ((zv_wI g5 v6 a2 v8).bind fun g9 =>
      L2_drop_6 d a0 (zv_w (a2 + 1)) g9))))))))
    else
      L2_drop_58 d a0 h)
  else
    L2_drop_58 d a0 h)) := by
  refine (zv_lim_eq _ _ _ _ _ _).trans ?_
  rfl
set_option maxRecDepth 100000 in
theorem qL2_drop_58 (d : Nat) (a0 : Nat) (h : zv_H) : L2_drop_58 d a0 h =
  ((zv_gI h a0 2 2).bind fun v1 =>
  ((zv_pI h a0 2 2 (max (zv_w (v1 - (1 : Int))) (0 : Int))).bind fun g2 =>
  (some (none, g2)))) := by
  refine (zv_lim_eq _ _ _ _ _ _).trans ?_
  rfl
set_option maxRecDepth 100000 in
theorem qE5_init (d : Nat) (a0 : Nat) (a1 : Int) (h : zv_H) : E5_init d a0 a1 h =
  (if a0 = 0 then none else
  ((zv_nA h 2 (12 : Int)).bind fun g1 =>
  ((zv_pR g1 a0 5 1 (zv_n h + 1)).bind fun g2 =>
  ((zv_nA g2 2 (120 : Int)).bind fun g3 =>
  ((zv_pR g3 a0 5 2 (zv_n g2 + 1)).bind fun g4 =>
  ((zv_pI g4 a0 5 0 a1).bind fun g5 =>
  (some (none, g5)))))))) := by
  refine (zv_lim_eq _ _ _ _ _ _).trans ?_
  rfl
set_option maxRecDepth 100000 in
theorem qE5_open (d : Nat) (a0 : Nat) (a1 : Nat) (a2 : Int) (a3 : Int) (a4 : Int) (h : zv_H) : E5_open d a0 a1 a2 a3 a4 h =
  ((zv_pZ h a0 5 3 (1 : Int)).bind fun g1 =>
  ((zv_pR g1 a0 5 4 a1).bind fun g2 =>
  ((zv_pR g2 a0 5 5 a0).bind fun g3 =>
  ((zv_pI g3 a0 5 6 a2).bind fun g4 =>
  ((zv_pI g4 a0 5 7 (0 : Int)).bind fun g5 =>
  ((zv_pI g5 a0 5 8 a3).bind fun g6 =>
  ((zv_pI g6 a0 5 9 a4).bind fun g7 =>
  (if a1 = 0 then
    L5_open_51 d a0 a0 (0 : Int) g7
  else
    ((zv_gI g7 a1 5 10).bind fun v8 =>
    L5_open_51 d a0 a0 (zv_w (v8 + (1 : Int))) g7))))))))) := by
  refine (zv_lim_eq _ _ _ _ _ _).trans ?_
  rfl
set_option maxRecDepth 100000 in
theorem qL5_open_51 (d : Nat) (a0 : Nat) (e0 : Nat) (e1 : Int) (h : zv_H) : L5_open_51 d a0 e0 e1 h =
  ((zv_pI h e0 5 10 e1).bind fun g1 =>
  ((zv_pI g1 a0 5 11 (0 : Int)).bind fun g2 =>
  ((zv_pI g2 a0 5 12 (0 : Int)).bind fun g3 =>
  ((zv_pI g3 a0 5 13 (0 : Int)).bind fun g4 =>
  ((zv_pI g4 a0 5 14 (0 : Int)).bind fun g5 =>
  ((zv_pI g5 a0 5 15 (-1 : Int)).bind fun g6 =>
  ((zv_pJ g6 a0 5 16 (Int64.ofNat 0)).bind fun g7 =>
  ((zv_pJ g7 a0 5 17 (Int64.ofNat 0)).bind fun g8 =>
  (some (none, g8)))))))))) := by
  refine (zv_lim_eq _ _ _ _ _ _).trans ?_
  rfl
set_option maxRecDepth 100000 in
theorem qE5_bit (d : Nat) (a0 : Nat) (h : zv_H) : E5_bit d a0 h =
  ((zv_gI h a0 5 0).bind fun v1 =>
  (some (some (zv_j (zv_lshl (Int64.ofNat 1) v1)), h))) := by
  refine (zv_lim_eq _ _ _ _ _ _).trans ?_
  rfl
set_option maxRecDepth 100000 in
theorem qE5_edits (d : Nat) (a0 : Nat) (h : zv_H) : E5_edits d a0 h =
  ((zv_gI h a0 5 6).bind fun v1 =>
  (if v1 = 0 then
    (some (some (zv_i (1 : Int)), h))
  else
    ((zv_gI h a0 5 6).bind fun v2 =>
    (if v2 = (1 : Int) then
      (some (some (zv_i (1 : Int)), h))
    else
      (some (some (zv_i (0 : Int)), h)))))) := by
  refine (zv_lim_eq _ _ _ _ _ _).trans ?_
  rfl
set_option maxRecDepth 100000 in
theorem qE5_brings (d : Nat) (a0 : Nat) (h : zv_H) : E5_brings d a0 h =
  ((zv_gI h a0 5 6).bind fun v1 =>
  (if v1 = 0 then
    (some (some (zv_i (1 : Int)), h))
  else
    ((zv_gI h a0 5 6).bind fun v2 =>
    (if v2 = (-1 : Int) then
      (some (some (zv_i (1 : Int)), h))
    else
      (some (some (zv_i (0 : Int)), h)))))) := by
  refine (zv_lim_eq _ _ _ _ _ _).trans ?_
  rfl
set_option maxRecDepth 100000 in
theorem qE5_idAt (d : Nat) (a0 : Nat) (a1 : Int) (h : zv_H) : E5_idAt d a0 a1 h =
  (if a1 < 0 then
    (some (some (zv_i (-1 : Int)), h))
  else
    ((zv_gI h a0 5 12).bind fun v1 =>
    (if a1 < v1 then
      ((zv_gR h a0 5 2).bind fun v2 =>
      ((zv_al h v2).bind fun v3 =>
      (if a1 < v3 then
        ((zv_gR h a0 5 2).bind fun v4 =>
        ((zv_aI h v4 a1).bind fun v5 =>
        (some (some (zv_i v5), h))))
      else
        (some (some (zv_i (-1 : Int)), h)))))
    else
      (some (some (zv_i (-1 : Int)), h))))) := by
  refine (zv_lim_eq _ _ _ _ _ _).trans ?_
  rfl
set_option maxRecDepth 100000 in
theorem qE5_addId (d : Nat) (a0 : Nat) (a1 : Int) (h : zv_H) : E5_addId d a0 a1 h =
  ((zv_gI h a0 5 12).bind fun v1 =>
  (if v1 < 0 then
    (some (none, h))
  else
    ((zv_gI h a0 5 12).bind fun v2 =>
    ((zv_gR h a0 5 2).bind fun v3 =>
    ((zv_al h v3).bind fun v4 =>
    (if v2 < v4 then
      ((zv_gR h a0 5 2).bind fun v5 =>
      ((zv_gI h a0 5 12).bind fun v6 =>
      ((zv_wI h v5 v6 a1).bind fun g7 =>
      ((zv_gI g7 a0 5 12).bind fun v8 =>
      ((zv_pI g7 a0 5 12 (zv_w (v8 + (1 : Int)))).bind fun g9 =>
      (some (none, g9)))))))
    else
      (some (none, h)))))))) := by
  refine (zv_lim_eq _ _ _ _ _ _).trans ?_
  rfl
set_option maxRecDepth 100000 in
theorem qE5_tookAt (d : Nat) (a0 : Nat) (a1 : Int) (h : zv_H) : E5_tookAt d a0 a1 h =
  ((zv_gI h a0 5 6).bind fun v1 =>
  (if v1 = (1 : Int) then
    (if a1 < 0 then
      (some (some (zv_i (-1 : Int)), h))
    else
      ((zv_gI h a0 5 9).bind fun v2 =>
      (if a1 < v2 then
        ((zv_gR h a0 5 1).bind fun v3 =>
        ((zv_al h v3).bind fun v4 =>
        (if a1 < v4 then
          ((zv_gR h a0 5 1).bind fun v5 =>
          ((zv_aI h v5 a1).bind fun v6 =>
          (some (some (zv_i v6), h))))
        else
          (some (some (zv_i (-1 : Int)), h)))))
      else
        (some (some (zv_i (-1 : Int)), h)))))
  else
    (some (some (zv_i (-1 : Int)), h)))) := by
  refine (zv_lim_eq _ _ _ _ _ _).trans ?_
  rfl
set_option maxRecDepth 100000 in
theorem qE5_tookIt (d : Nat) (a0 : Nat) (a1 : Int) (h : zv_H) : E5_tookIt d a0 a1 h =
  L5_tookIt_2 d a0 a1 (0 : Int) h := by
  refine (zv_lim_eq _ _ _ _ _ _).trans ?_
  rfl
set_option maxRecDepth 100000 in
theorem qL5_tookIt_2 (d : Nat) (a0 : Nat) (a1 : Int) (a2 : Int) (h : zv_H) : L5_tookIt_2 d a0 a1 a2 h =
  ((zv_gI h a0 5 9).bind fun v1 =>
  (if a2 < v1 then
    (if a1 = (-1 : Int) then
      L5_tookIt_2 d a0 a1 (zv_w (a2 + 1)) h
    else
      ((C5_tookAt d a0 a2 h).bind fun q2 =>
      (if q2.1 = a1 then
        (some (some (zv_i (1 : Int)), q2.2))
      else
        L5_tookIt_2 d a0 a1 (zv_w (a2 + 1)) q2.2)))
  else
    (some (some (zv_i (0 : Int)), h)))) := by
  refine (zv_lim_eq _ _ _ _ _ _).trans ?_
  rfl
set_option maxRecDepth 100000 in
theorem qE6_init (d : Nat) (a0 : Nat) (h : zv_H) : E6_init d a0 h =
  (if a0 = 0 then none else
  ((zv_nA h 2 (40 : Int)).bind fun g1 =>
  ((zv_pR g1 a0 6 0 (zv_n h + 1)).bind fun g2 =>
  ((zv_nA g2 2 (40 : Int)).bind fun g3 =>
  ((zv_pR g3 a0 6 1 (zv_n g2 + 1)).bind fun g4 =>
  ((zv_nA g4 2 (40 : Int)).bind fun g5 =>
  ((zv_pR g5 a0 6 2 (zv_n g4 + 1)).bind fun g6 =>
  ((zv_nA g6 2 (40 : Int)).bind fun g7 =>
  ((zv_pR g7 a0 6 3 (zv_n g6 + 1)).bind fun g8 =>
  (some (none, g8))))))))))) := by
  refine (zv_lim_eq _ _ _ _ _ _).trans ?_
  rfl
set_option maxRecDepth 100000 in
theorem qE6_add (d : Nat) (a0 : Nat) (a1 : Nat) (a2 : Int) (h : zv_H) : E6_add d a0 a1 a2 h =
  ((zv_gI h a0 6 4).bind fun v1 =>
  (if ((v1).tmod (40 : Int)) < 0 then
    ((zv_gI h a0 6 4).bind fun v2 =>
    ((zv_pI h a0 6 4 (zv_w (v2 + (1 : Int)))).bind fun g3 =>
    ((zv_gI g3 a0 6 4).bind fun v4 =>
    ((zv_pI g3 a1 5 13 v4).bind fun g5 =>
    (some (none, g5))))))
  else
    (if ((v1).tmod (40 : Int)) < (40 : Int) then
      ((zv_gR h a0 6 0).bind fun v6 =>
      ((zv_gI h a1 5 0).bind fun v7 =>
      ((zv_wI h v6 ((v1).tmod (40 : Int)) v7).bind fun g8 =>
      ((zv_gR g8 a0 6 1).bind fun v9 =>
      ((zv_wI g8 v9 ((v1).tmod (40 : Int)) a2).bind fun g10 =>
      ((zv_gI g10 a0 6 4).bind fun v11 =>
      ((zv_pI g10 a0 6 4 (zv_w (v11 + (1 : Int)))).bind fun g12 =>
      ((zv_gI g12 a0 6 4).bind fun v13 =>
      ((zv_pI g12 a1 5 13 v13).bind fun g14 =>
      (some (none, g14)))))))))))
    else
      ((zv_gI h a0 6 4).bind fun v15 =>
      ((zv_pI h a0 6 4 (zv_w (v15 + (1 : Int)))).bind fun g16 =>
      ((zv_gI g16 a0 6 4).bind fun v17 =>
      ((zv_pI g16 a1 5 13 v17).bind fun g18 =>
      (some (none, g18))))))))) := by
  refine (zv_lim_eq _ _ _ _ _ _).trans ?_
  rfl
set_option maxRecDepth 100000 in
theorem qE6_slot (d : Nat) (a0 : Nat) (a1 : Int) (h : zv_H) : E6_slot d a0 a1 h =
  ((zv_gI h a0 6 4).bind fun v1 =>
  (some (some (zv_i (((zv_w ((zv_w (v1 - (1 : Int))) - a1))).tmod (40 : Int))), h))) := by
  refine (zv_lim_eq _ _ _ _ _ _).trans ?_
  rfl
set_option maxRecDepth 100000 in
theorem qE6_stateAt (d : Nat) (a0 : Nat) (a1 : Int) (h : zv_H) : E6_stateAt d a0 a1 h =
  ((C6_slot d a0 a1 h).bind fun q1 =>
  (if q1.1 < 0 then
    (some (some (zv_i (-1 : Int)), q1.2))
  else
    (if q1.1 < (40 : Int) then
      ((zv_gR q1.2 a0 6 0).bind fun v2 =>
      ((zv_aI q1.2 v2 q1.1).bind fun v3 =>
      (some (some (zv_i v3), q1.2))))
    else
      (some (some (zv_i (-1 : Int)), q1.2))))) := by
  refine (zv_lim_eq _ _ _ _ _ _).trans ?_
  rfl
set_option maxRecDepth 100000 in
theorem qE6_timeAt (d : Nat) (a0 : Nat) (a1 : Int) (h : zv_H) : E6_timeAt d a0 a1 h =
  ((C6_slot d a0 a1 h).bind fun q1 =>
  (if q1.1 < 0 then
    (some (some (zv_i (-1 : Int)), q1.2))
  else
    (if q1.1 < (40 : Int) then
      ((zv_gR q1.2 a0 6 1).bind fun v2 =>
      ((zv_aI q1.2 v2 q1.1).bind fun v3 =>
      (some (some (zv_i v3), q1.2))))
    else
      (some (some (zv_i (-1 : Int)), q1.2))))) := by
  refine (zv_lim_eq _ _ _ _ _ _).trans ?_
  rfl
set_option maxRecDepth 100000 in
theorem qE6_forget (d : Nat) (a0 : Nat) (a1 : Int) (h : zv_H) : E6_forget d a0 a1 h =
  L6_forget_2 d a0 a1 (0 : Int) h := by
  refine (zv_lim_eq _ _ _ _ _ _).trans ?_
  rfl
set_option maxRecDepth 100000 in
theorem qL6_forget_2 (d : Nat) (a0 : Nat) (a1 : Int) (a2 : Int) (h : zv_H) : L6_forget_2 d a0 a1 a2 h =
  (if a2 < (40 : Int) then
    ((zv_gR h a0 6 0).bind fun v1 =>
    ((zv_aI h v1 a2).bind fun v2 =>
    (if v2 = a1 then
      ((zv_gR h a0 6 0).bind fun v3 =>
      ((zv_wI h v3 a2 (-1 : Int)).bind fun g4 =>
      L6_forget_2 d a0 a1 (zv_w (a2 + 1)) g4))
    else
      L6_forget_2 d a0 a1 (zv_w (a2 + 1)) h)))
  else
    (some (none, h))) := by
  refine (zv_lim_eq _ _ _ _ _ _).trans ?_
  rfl
set_option maxRecDepth 100000 in
theorem qE6_keep (d : Nat) (a0 : Nat) (h : zv_H) : E6_keep d a0 h =
  ((zv_gR h a0 6 0).bind fun v1 =>
  ((zv_gR h a0 6 2).bind fun v2 =>
  ((zv_cy h v1 (0 : Int) v2 (0 : Int) (40 : Int)).bind fun g3 =>
  ((zv_gR g3 a0 6 1).bind fun v4 =>
  ((zv_gR g3 a0 6 3).bind fun v5 =>
  ((zv_cy g3 v4 (0 : Int) v5 (0 : Int) (40 : Int)).bind fun g6 =>
  ((zv_gI g6 a0 6 4).bind fun v7 =>
  ((zv_pI g6 a0 6 5 v7).bind fun g8 =>
  (some (none, g8)))))))))) := by
  refine (zv_lim_eq _ _ _ _ _ _).trans ?_
  rfl
set_option maxRecDepth 100000 in
theorem qE6_giveBack (d : Nat) (a0 : Nat) (h : zv_H) : E6_giveBack d a0 h =
  ((zv_gR h a0 6 2).bind fun v1 =>
  ((zv_gR h a0 6 0).bind fun v2 =>
  ((zv_cy h v1 (0 : Int) v2 (0 : Int) (40 : Int)).bind fun g3 =>
  ((zv_gR g3 a0 6 3).bind fun v4 =>
  ((zv_gR g3 a0 6 1).bind fun v5 =>
  ((zv_cy g3 v4 (0 : Int) v5 (0 : Int) (40 : Int)).bind fun g6 =>
  ((zv_gI g6 a0 6 5).bind fun v7 =>
  ((zv_pI g6 a0 6 4 v7).bind fun g8 =>
  (some (none, g8)))))))))) := by
  refine (zv_lim_eq _ _ _ _ _ _).trans ?_
  rfl
set_option maxRecDepth 100000 in
theorem qE7_init (d : Nat) (a0 : Nat) (h : zv_H) : E7_init d a0 h =
  (if a0 = 0 then none else
  ((zv_nA h 2 (40 : Int)).bind fun g1 =>
  ((zv_pR g1 a0 7 0 (zv_n h + 1)).bind fun g2 =>
  (some (none, g2))))) := by
  refine (zv_lim_eq _ _ _ _ _ _).trans ?_
  rfl
set_option maxRecDepth 100000 in
theorem qE7_clear (d : Nat) (a0 : Nat) (h : zv_H) : E7_clear d a0 h =
  ((zv_pI h a0 7 1 (0 : Int)).bind fun g1 =>
  (some (none, g1))) := by
  refine (zv_lim_eq _ _ _ _ _ _).trans ?_
  rfl
set_option maxRecDepth 100000 in
theorem qE7_add (d : Nat) (a0 : Nat) (a1 : Int) (h : zv_H) : E7_add d a0 a1 h =
  ((zv_gI h a0 7 1).bind fun v1 =>
  (if v1 < 0 then
    (some (none, h))
  else
    ((zv_gI h a0 7 1).bind fun v2 =>
    ((zv_gR h a0 7 0).bind fun v3 =>
    ((zv_al h v3).bind fun v4 =>
    (if v2 < v4 then
      ((zv_gR h a0 7 0).bind fun v5 =>
      ((zv_gI h a0 7 1).bind fun v6 =>
      ((zv_wI h v5 v6 a1).bind fun g7 =>
      ((zv_gI g7 a0 7 1).bind fun v8 =>
      ((zv_pI g7 a0 7 1 (zv_w (v8 + (1 : Int)))).bind fun g9 =>
      (some (none, g9)))))))
    else
      (some (none, h)))))))) := by
  refine (zv_lim_eq _ _ _ _ _ _).trans ?_
  rfl
set_option maxRecDepth 100000 in
theorem qE7_at (d : Nat) (a0 : Nat) (a1 : Int) (h : zv_H) : E7_at d a0 a1 h =
  (if a1 < 0 then
    (some (some (zv_i (-1 : Int)), h))
  else
    ((zv_gI h a0 7 1).bind fun v1 =>
    (if a1 < v1 then
      ((zv_gR h a0 7 0).bind fun v2 =>
      ((zv_al h v2).bind fun v3 =>
      (if a1 < v3 then
        ((zv_gR h a0 7 0).bind fun v4 =>
        ((zv_aI h v4 a1).bind fun v5 =>
        (some (some (zv_i v5), h))))
      else
        (some (some (zv_i (-1 : Int)), h)))))
    else
      (some (some (zv_i (-1 : Int)), h))))) := by
  refine (zv_lim_eq _ _ _ _ _ _).trans ?_
  rfl
set_option maxRecDepth 100000 in
theorem qE7_key (d : Nat) (a0 : Nat) (h : zv_H) : E7_key d a0 h =
  ((zv_gI h a0 7 1).bind fun v1 =>
  ((C8_within d v1 (1 : Int) (6 : Int) h).bind fun q2 =>
  (if q2.1 = 0 then
    (some (some (zv_i (0 : Int)), q2.2))
  else
    ((zv_gI q2.2 a0 7 1).bind fun v3 =>
    L7_key_24 d a0 (0 : Int) (zv_w (v3 - (1 : Int))) q2.2)))) := by
  refine (zv_lim_eq _ _ _ _ _ _).trans ?_
  rfl
set_option maxRecDepth 100000 in
theorem qL7_key_24 (d : Nat) (a0 : Nat) (a1 : Int) (a2 : Int) (h : zv_H) : L7_key_24 d a0 a1 a2 h =
  (if a2 < 0 then
    (some (some (zv_i a1), h))
  else
    ((C7_at d a0 a2 h).bind fun q1 =>
    L7_key_24 d a0 (zv_or (zv_shl a1 (5 : Int)) (zv_w (q1.1 + (1 : Int)))) (zv_w (a2 + (-1))) q1.2)) := by
  refine (zv_lim_eq _ _ _ _ _ _).trans ?_
  rfl
