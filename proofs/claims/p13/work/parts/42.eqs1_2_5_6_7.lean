/-! 42.eqs1_2_5_6_7 -/
section
theorem zyS1_init : zy_srt 0 mc1_init.2.1 = true := by decide +kernel
set_option maxRecDepth 100000 in
theorem qE1_init (d : Nat) (a0 : Nat) (h : zv_H) : E1_init d a0 h =
  (if a0 = 0 then none else
  ((zv_nA h 2 (176 : Int)).bind fun g1 =>
  ((zv_pR g1 a0 1 0 (zv_n h + 1)).bind fun g2 =>
  ((zv_nA g2 2 (176 : Int)).bind fun g3 =>
  ((zv_pR g3 a0 1 1 (zv_n g2 + 1)).bind fun g4 =>
  ((zv_nA g4 2 (6 : Int)).bind fun g5 =>
  ((zv_pR g5 a0 1 2 (zv_n g4 + 1)).bind fun g6 =>
  (some (none, g6))))))))) := by
  refine (zy_lim_eq zyS1_init _ _ _ _).trans ?_
  rfl
theorem zyS1_clear : zy_srt 0 mc1_clear.2.1 = true := by decide +kernel
set_option maxRecDepth 100000 in
theorem qE1_clear (d : Nat) (a0 : Nat) (h : zv_H) : E1_clear d a0 h =
  ((zv_pI h a0 1 3 (0 : Int)).bind fun g1 =>
  (some (none, g1))) := by
  refine (zy_lim_eq zyS1_clear _ _ _ _).trans ?_
  rfl
theorem zyS1_usual : zy_srt 0 mc1_usual.2.1 = true := by decide +kernel
set_option maxRecDepth 100000 in
theorem qE1_usual (d : Nat) (a0 : Nat) (h : zv_H) : E1_usual d a0 h =
  ((C1_clear d a0 h).bind fun g1 =>
  ((C1_compare d a0 (0 : Int) (0 : Int) (3 : Int) g1).bind fun g2 =>
  ((C1_compare d a0 (3 : Int) (1 : Int) (1 : Int) g2).bind fun g3 =>
  ((C1_add d a0 (19 : Int) (0 : Int) g3).bind fun g4 =>
  ((C1_compare d a0 (4 : Int) (1 : Int) (1 : Int) g4).bind fun g5 =>
  ((C1_add d a0 (19 : Int) (0 : Int) g5).bind fun g6 =>
  ((C1_compare d a0 (1 : Int) (0 : Int) (8 : Int) g6).bind fun g7 =>
  ((C1_add d a0 (19 : Int) (0 : Int) g7).bind fun g8 =>
  (some (none, g8)))))))))) := by
  refine (zy_lim_eq zyS1_usual _ _ _ _).trans ?_
  rfl
theorem zyS1_compare : zy_srt 0 mc1_compare.2.1 = true := by decide +kernel
set_option maxRecDepth 100000 in
theorem qE1_compare (d : Nat) (a0 : Nat) (a1 : Int) (a2 : Int) (a3 : Int) (h : zv_H) : E1_compare d a0 a1 a2 a3 h =
  ((C1_add d a0 (zv_w ((zv_w (a1 * (3 : Int))) + a2)) a3 h).bind fun g1 =>
  (some (none, g1))) := by
  refine (zy_lim_eq zyS1_compare _ _ _ _).trans ?_
  rfl
theorem zyS1_add : zy_srt 0 mc1_add.2.1 = true := by decide +kernel
set_option maxRecDepth 100000 in
theorem qE1_add (d : Nat) (a0 : Nat) (a1 : Int) (a2 : Int) (h : zv_H) : E1_add d a0 a1 a2 h =
  ((zv_gI h a0 1 3).bind fun v1 =>
  (if v1 < 0 then
    (some (none, h))
  else
    ((zv_gI h a0 1 3).bind fun v2 =>
    (if v2 < (176 : Int) then
      ((zv_gR h a0 1 0).bind fun v3 =>
      ((zv_gI h a0 1 3).bind fun v4 =>
      ((zv_wI h v3 v4 a1).bind fun g5 =>
      ((zv_gR g5 a0 1 1).bind fun v6 =>
      ((zv_gI g5 a0 1 3).bind fun v7 =>
      ((zv_wI g5 v6 v7 a2).bind fun g8 =>
      ((zv_gI g8 a0 1 3).bind fun v9 =>
      ((zv_pI g8 a0 1 3 (zv_w (v9 + (1 : Int)))).bind fun g10 =>
      (some (none, g10))))))))))
    else
      (some (none, h)))))) := by
  refine (zy_lim_eq zyS1_add _ _ _ _).trans ?_
  rfl
theorem zyS1_set : zy_srt 0 mc1_set.2.1 = true := by decide +kernel
set_option maxRecDepth 100000 in
theorem qE1_set (d : Nat) (a0 : Nat) (a1 : Int) (a2 : Int) (h : zv_H) : E1_set d a0 a1 a2 h =
  (if a1 < 0 then
    (some (none, h))
  else
    (if a1 < (6 : Int) then
      ((zv_gR h a0 1 2).bind fun v1 =>
      ((zv_wI h v1 a1 a2).bind fun g2 =>
      (some (none, g2))))
    else
      (some (none, h)))) := by
  refine (zy_lim_eq zyS1_set _ _ _ _).trans ?_
  rfl
theorem zyS1_holds : zy_srt 0 mc1_holds.2.1 = true := by decide +kernel
set_option maxRecDepth 100000 in
theorem qE1_holds (d : Nat) (a0 : Nat) (h : zv_H) : E1_holds d a0 h =
  L1_holds_4 d a0 (Int64.ofNat 0) (0 : Int) h := by
  refine (zy_lim_eq zyS1_holds _ _ _ _).trans ?_
  rfl
set_option maxRecDepth 100000 in
theorem qL1_holds_4 (d : Nat) (a0 : Nat) (a1 : Int64) (a3 : Int) (h : zv_H) : L1_holds_4 d a0 a1 a3 h =
  ((zv_gI h a0 1 3).bind fun v1 =>
  (if a3 < v1 then
    (if a3 < (176 : Int) then
      ((zv_gR h a0 1 0).bind fun v2 =>
      ((zv_aI h v2 a3).bind fun v3 =>
      (if v3 = (18 : Int) then
        L1_holds_4 d a0 (a1 ^^^ (Int64.ofNat 1)) (zv_w (a3 + 1)) h
      else
        (if v3 = (19 : Int) then
          L1_holds_4 d a0 ((zv_lushr a1 (1 : Int)) &&& (a1 ||| (-2 : Int64))) (zv_w (a3 + 1)) h
        else
          (if v3 = (20 : Int) then
            L1_holds_4 d a0 ((zv_lushr a1 (1 : Int)) ||| (a1 &&& (Int64.ofNat 1))) (zv_w (a3 + 1)) h
          else
            (if (zv_w ((v3).tdiv (3 : Int))) < 0 then
              L1_holds_107 d a0 a1 a3 v3 h
            else
              (if (zv_w ((v3).tdiv (3 : Int))) < (6 : Int) then
                ((zv_gR h a0 1 2).bind fun v4 =>
                ((zv_aI h v4 (zv_w ((v3).tdiv (3 : Int)))).bind fun v5 =>
                L1_holds_108 d a0 a1 a3 v3 v5 h))
              else
                L1_holds_107 d a0 a1 a3 v3 h)))))))
    else
      L1_holds_204 d a1 h)
  else
    L1_holds_204 d a1 h)) := by
  refine (zy_lim_eq zyS1_holds _ _ _ _).trans ?_
  rfl
set_option maxRecDepth 100000 in
theorem qL1_holds_107 (d : Nat) (a0 : Nat) (a1 : Int64) (a3 : Int) (a4 : Int) (h : zv_H) : L1_holds_107 d a0 a1 a3 a4 h =
  L1_holds_108 d a0 a1 a3 a4 (0 : Int) h := by
  refine (zy_lim_eq zyS1_holds _ _ _ _).trans ?_
  rfl
set_option maxRecDepth 100000 in
theorem qL1_holds_108 (d : Nat) (a0 : Nat) (a1 : Int64) (a3 : Int) (a4 : Int) (e0 : Int) (h : zv_H) : L1_holds_108 d a0 a1 a3 a4 e0 h =
  (if ((a4).tmod (3 : Int)) = 0 then
    ((zv_gR h a0 1 1).bind fun v1 =>
    ((zv_aI h v1 a3).bind fun v2 =>
    (if e0 < v2 then
      L1_holds_181 d a0 a1 a3 (1 : Int) h
    else
      L1_holds_181 d a0 a1 a3 (0 : Int) h)))
  else
    (if ((a4).tmod (3 : Int)) = (1 : Int) then
      ((zv_gR h a0 1 1).bind fun v3 =>
      ((zv_aI h v3 a3).bind fun v4 =>
      (if e0 = v4 then
        L1_holds_181 d a0 a1 a3 (1 : Int) h
      else
        L1_holds_181 d a0 a1 a3 (0 : Int) h)))
    else
      ((zv_gR h a0 1 1).bind fun v5 =>
      ((zv_aI h v5 a3).bind fun v6 =>
      (if e0 ≤ v6 then
        L1_holds_181 d a0 a1 a3 (0 : Int) h
      else
        L1_holds_181 d a0 a1 a3 (1 : Int) h))))) := by
  refine (zy_lim_eq zyS1_holds _ _ _ _).trans ?_
  rfl
set_option maxRecDepth 100000 in
theorem qL1_holds_181 (d : Nat) (a0 : Nat) (a1 : Int64) (a3 : Int) (e0 : Int) (h : zv_H) : L1_holds_181 d a0 a1 a3 e0 h =
  (if e0 = 0 then
    L1_holds_4 d a0 ((zv_lshl a1 (1 : Int)) ||| (Int64.ofNat 0)) (zv_w (a3 + 1)) h
  else
    L1_holds_4 d a0 ((zv_lshl a1 (1 : Int)) ||| (Int64.ofNat 1)) (zv_w (a3 + 1)) h) := by
  refine (zy_lim_eq zyS1_holds _ _ _ _).trans ?_
  rfl
set_option maxRecDepth 100000 in
theorem qL1_holds_204 (d : Nat) (a1 : Int64) (h : zv_H) : L1_holds_204 d a1 h =
  (if (zv_lcmp (a1 &&& (Int64.ofNat 1)) (Int64.ofNat 0)) = 0 then
    (some (some (zv_i (0 : Int)), h))
  else
    (some (some (zv_i (1 : Int)), h))) := by
  refine (zy_lim_eq zyS1_holds _ _ _ _).trans ?_
  rfl
theorem zyS2_init : zy_srt 0 mc2_init.2.1 = true := by decide +kernel
set_option maxRecDepth 100000 in
theorem qE2_init (d : Nat) (a0 : Nat) (h : zv_H) : E2_init d a0 h =
  (if a0 = 0 then none else
  ((zv_nA h 2 (12 : Int)).bind fun g1 =>
  ((zv_pR g1 a0 2 0 (zv_n h + 1)).bind fun g2 =>
  ((zv_nA g2 2 (12 : Int)).bind fun g3 =>
  ((zv_pR g3 a0 2 1 (zv_n g2 + 1)).bind fun g4 =>
  (some (none, g4))))))) := by
  refine (zy_lim_eq zyS2_init _ _ _ _).trans ?_
  rfl
theorem zyS2_indexOf : zy_srt 0 mc2_indexOf.2.1 = true := by decide +kernel
set_option maxRecDepth 100000 in
theorem qE2_indexOf (d : Nat) (a0 : Nat) (a1 : Int) (h : zv_H) : E2_indexOf d a0 a1 h =
  L2_indexOf_2 d a0 a1 (0 : Int) h := by
  refine (zy_lim_eq zyS2_indexOf _ _ _ _).trans ?_
  rfl
set_option maxRecDepth 100000 in
theorem qL2_indexOf_2 (d : Nat) (a0 : Nat) (a1 : Int) (a2 : Int) (h : zv_H) : L2_indexOf_2 d a0 a1 a2 h =
  ((zv_gI h a0 2 2).bind fun v1 =>
  (if a2 < v1 then
    (if a2 < (12 : Int) then
      ((zv_gR h a0 2 0).bind fun v2 =>
      ((zv_aI h v2 a2).bind fun v3 =>
      (if v3 = a1 then
        (some (some (zv_i a2), h))
      else
        L2_indexOf_2 d a0 a1 (zv_w (a2 + 1)) h)))
    else
      (some (some (zv_i (-1 : Int)), h)))
  else
    (some (some (zv_i (-1 : Int)), h)))) := by
  refine (zy_lim_eq zyS2_indexOf _ _ _ _).trans ?_
  rfl
theorem zyS2_keyAt : zy_srt 0 mc2_keyAt.2.1 = true := by decide +kernel
set_option maxRecDepth 100000 in
theorem qE2_keyAt (d : Nat) (a0 : Nat) (a1 : Int) (h : zv_H) : E2_keyAt d a0 a1 h =
  (if a1 < 0 then
    (some (some (zv_i (0 : Int)), h))
  else
    ((zv_gI h a0 2 2).bind fun v1 =>
    (if a1 < v1 then
      (if a1 < (12 : Int) then
        ((zv_gR h a0 2 0).bind fun v2 =>
        ((zv_aI h v2 a1).bind fun v3 =>
        (some (some (zv_i v3), h))))
      else
        (some (some (zv_i (0 : Int)), h)))
    else
      (some (some (zv_i (0 : Int)), h))))) := by
  refine (zy_lim_eq zyS2_keyAt _ _ _ _).trans ?_
  rfl
theorem zyS2_ownerAt : zy_srt 0 mc2_ownerAt.2.1 = true := by decide +kernel
set_option maxRecDepth 100000 in
theorem qE2_ownerAt (d : Nat) (a0 : Nat) (a1 : Int) (h : zv_H) : E2_ownerAt d a0 a1 h =
  (if a1 < 0 then
    (some (some (zv_i (0 : Int)), h))
  else
    ((zv_gI h a0 2 2).bind fun v1 =>
    (if a1 < v1 then
      (if a1 < (12 : Int) then
        ((zv_gR h a0 2 1).bind fun v2 =>
        ((zv_aI h v2 a1).bind fun v3 =>
        (some (some (zv_i v3), h))))
      else
        (some (some (zv_i (0 : Int)), h)))
    else
      (some (some (zv_i (0 : Int)), h))))) := by
  refine (zy_lim_eq zyS2_ownerAt _ _ _ _).trans ?_
  rfl
theorem zyS2_countOf : zy_srt 0 mc2_countOf.2.1 = true := by decide +kernel
set_option maxRecDepth 100000 in
theorem qE2_countOf (d : Nat) (a0 : Nat) (a1 : Int) (h : zv_H) : E2_countOf d a0 a1 h =
  L2_countOf_4 d a0 a1 (0 : Int) (0 : Int) h := by
  refine (zy_lim_eq zyS2_countOf _ _ _ _).trans ?_
  rfl
set_option maxRecDepth 100000 in
theorem qL2_countOf_4 (d : Nat) (a0 : Nat) (a1 : Int) (a2 : Int) (a3 : Int) (h : zv_H) : L2_countOf_4 d a0 a1 a2 a3 h =
  ((zv_gI h a0 2 2).bind fun v1 =>
  (if a3 < v1 then
    (if a3 < (12 : Int) then
      ((zv_gR h a0 2 1).bind fun v2 =>
      ((zv_aI h v2 a3).bind fun v3 =>
      (if v3 = a1 then
        L2_countOf_4 d a0 a1 (zv_w (a2 + (1 : Int))) (zv_w (a3 + 1)) h
      else
        L2_countOf_4 d a0 a1 (zv_w (a2 + (0 : Int))) (zv_w (a3 + 1)) h)))
    else
      (some (some (zv_i a2), h)))
  else
    (some (some (zv_i a2), h)))) := by
  refine (zy_lim_eq zyS2_countOf _ _ _ _).trans ?_
  rfl
theorem zyS2_own : zy_srt 0 mc2_own.2.1 = true := by decide +kernel
set_option maxRecDepth 100000 in
theorem qE2_own (d : Nat) (a0 : Nat) (a1 : Int) (a2 : Int) (h : zv_H) : E2_own d a0 a1 a2 h =
  ((C2_indexOf d a0 a1 h).bind fun q1 =>
  (if q1.1 = (-1 : Int) then
    ((zv_gI q1.2 a0 2 2).bind fun v2 =>
    L2_own_16 d a0 a1 a2 v2 q1.2)
  else
    L2_own_16 d a0 a1 a2 q1.1 q1.2)) := by
  refine (zy_lim_eq zyS2_own _ _ _ _).trans ?_
  rfl
set_option maxRecDepth 100000 in
theorem qL2_own_16 (d : Nat) (a0 : Nat) (a1 : Int) (a2 : Int) (a3 : Int) (h : zv_H) : L2_own_16 d a0 a1 a2 a3 h =
  (if a3 < 0 then
    (some (none, h))
  else
    (if a3 < (12 : Int) then
      ((zv_gR h a0 2 0).bind fun v1 =>
      ((zv_wI h v1 a3 a1).bind fun g2 =>
      ((zv_gR g2 a0 2 1).bind fun v3 =>
      ((zv_wI g2 v3 a3 a2).bind fun g4 =>
      ((zv_gI g4 a0 2 2).bind fun v5 =>
      ((zv_pI g4 a0 2 2 (max v5 (zv_w (a3 + (1 : Int))))).bind fun g6 =>
      (some (none, g6))))))))
    else
      (some (none, h)))) := by
  refine (zy_lim_eq zyS2_own _ _ _ _).trans ?_
  rfl
theorem zyS2_drop : zy_srt 0 mc2_drop.2.1 = true := by decide +kernel
set_option maxRecDepth 100000 in
theorem qE2_drop (d : Nat) (a0 : Nat) (a1 : Int) (h : zv_H) : E2_drop d a0 a1 h =
  L2_drop_6 d a0 (max a1 (0 : Int)) h := by
  refine (zy_lim_eq zyS2_drop _ _ _ _).trans ?_
  rfl
set_option maxRecDepth 100000 in
theorem qL2_drop_6 (d : Nat) (a0 : Nat) (a2 : Int) (h : zv_H) : L2_drop_6 d a0 a2 h =
  ((zv_gI h a0 2 2).bind fun v1 =>
  (if (zv_w (a2 + (1 : Int))) < v1 then
    (if (zv_w (a2 + (1 : Int))) < (12 : Int) then
      ((zv_gR h a0 2 0).bind fun v2 =>
      ((zv_gR h a0 2 0).bind fun v3 =>
      ((zv_aI h v3 (zv_w (a2 + (1 : Int)))).bind fun v4 =>
      ((zv_wI h v2 a2 v4).bind fun g5 =>
      ((zv_gR g5 a0 2 1).bind fun v6 =>
      ((zv_gR g5 a0 2 1).bind fun v7 =>
      ((zv_aI g5 v7 (zv_w (a2 + (1 : Int)))).bind fun v8 =>
      ((zv_wI g5 v6 a2 v8).bind fun g9 =>
      L2_drop_6 d a0 (zv_w (a2 + 1)) g9))))))))
    else
      L2_drop_58 d a0 h)
  else
    L2_drop_58 d a0 h)) := by
  refine (zy_lim_eq zyS2_drop _ _ _ _).trans ?_
  rfl
set_option maxRecDepth 100000 in
theorem qL2_drop_58 (d : Nat) (a0 : Nat) (h : zv_H) : L2_drop_58 d a0 h =
  ((zv_gI h a0 2 2).bind fun v1 =>
  ((zv_pI h a0 2 2 (max (zv_w (v1 - (1 : Int))) (0 : Int))).bind fun g2 =>
  (some (none, g2)))) := by
  refine (zy_lim_eq zyS2_drop _ _ _ _).trans ?_
  rfl
theorem zyS5_init : zy_srt 0 mc5_init.2.1 = true := by decide +kernel
set_option maxRecDepth 100000 in
theorem qE5_init (d : Nat) (a0 : Nat) (a1 : Int) (h : zv_H) : E5_init d a0 a1 h =
  (if a0 = 0 then none else
  ((zv_nA h 2 (12 : Int)).bind fun g1 =>
  ((zv_pR g1 a0 5 1 (zv_n h + 1)).bind fun g2 =>
  ((zv_nA g2 2 (120 : Int)).bind fun g3 =>
  ((zv_pR g3 a0 5 2 (zv_n g2 + 1)).bind fun g4 =>
  ((zv_pI g4 a0 5 0 a1).bind fun g5 =>
  (some (none, g5)))))))) := by
  refine (zy_lim_eq zyS5_init _ _ _ _).trans ?_
  rfl
theorem zyS5_open : zy_srt 0 mc5_open.2.1 = true := by decide +kernel
set_option maxRecDepth 100000 in
theorem qE5_open (d : Nat) (a0 : Nat) (a1 : Nat) (a2 : Int) (a3 : Int) (a4 : Int) (h : zv_H) : E5_open d a0 a1 a2 a3 a4 h =
  ((zv_pZ h a0 5 3 (1 : Int)).bind fun g1 =>
  ((zv_pR g1 a0 5 4 a1).bind fun g2 =>
  ((zv_pR g2 a0 5 5 a0).bind fun g3 =>
  ((zv_pI g3 a0 5 6 a2).bind fun g4 =>
  ((zv_pI g4 a0 5 7 (0 : Int)).bind fun g5 =>
  ((zv_pI g5 a0 5 8 a3).bind fun g6 =>
  ((zv_pI g6 a0 5 9 a4).bind fun g7 =>
  (if a1 = 0 then
    L5_open_51 d a0 a0 (0 : Int) g7
  else
    ((zv_gI g7 a1 5 10).bind fun v8 =>
    L5_open_51 d a0 a0 (zv_w (v8 + (1 : Int))) g7))))))))) := by
  refine (zy_lim_eq zyS5_open _ _ _ _).trans ?_
  rfl
set_option maxRecDepth 100000 in
theorem qL5_open_51 (d : Nat) (a0 : Nat) (e0 : Nat) (e1 : Int) (h : zv_H) : L5_open_51 d a0 e0 e1 h =
  ((zv_pI h e0 5 10 e1).bind fun g1 =>
  ((zv_pI g1 a0 5 11 (0 : Int)).bind fun g2 =>
  ((zv_pI g2 a0 5 12 (0 : Int)).bind fun g3 =>
  ((zv_pI g3 a0 5 13 (0 : Int)).bind fun g4 =>
  ((zv_pI g4 a0 5 14 (0 : Int)).bind fun g5 =>
  ((zv_pI g5 a0 5 15 (-1 : Int)).bind fun g6 =>
  ((zv_pJ g6 a0 5 16 (Int64.ofNat 0)).bind fun g7 =>
  ((zv_pJ g7 a0 5 17 (Int64.ofNat 0)).bind fun g8 =>
  (some (none, g8)))))))))) := by
  refine (zy_lim_eq zyS5_open _ _ _ _).trans ?_
  rfl
theorem zyS5_bit : zy_srt 0 mc5_bit.2.1 = true := by decide +kernel
set_option maxRecDepth 100000 in
theorem qE5_bit (d : Nat) (a0 : Nat) (h : zv_H) : E5_bit d a0 h =
  ((zv_gI h a0 5 0).bind fun v1 =>
  (some (some (zv_j (zv_lshl (Int64.ofNat 1) v1)), h))) := by
  refine (zy_lim_eq zyS5_bit _ _ _ _).trans ?_
  rfl
theorem zyS5_edits : zy_srt 0 mc5_edits.2.1 = true := by decide +kernel
set_option maxRecDepth 100000 in
theorem qE5_edits (d : Nat) (a0 : Nat) (h : zv_H) : E5_edits d a0 h =
  ((zv_gI h a0 5 6).bind fun v1 =>
  (if v1 = 0 then
    (some (some (zv_i (1 : Int)), h))
  else
    ((zv_gI h a0 5 6).bind fun v2 =>
    (if v2 = (1 : Int) then
      (some (some (zv_i (1 : Int)), h))
    else
      (some (some (zv_i (0 : Int)), h)))))) := by
  refine (zy_lim_eq zyS5_edits _ _ _ _).trans ?_
  rfl
theorem zyS5_brings : zy_srt 0 mc5_brings.2.1 = true := by decide +kernel
set_option maxRecDepth 100000 in
theorem qE5_brings (d : Nat) (a0 : Nat) (h : zv_H) : E5_brings d a0 h =
  ((zv_gI h a0 5 6).bind fun v1 =>
  (if v1 = 0 then
    (some (some (zv_i (1 : Int)), h))
  else
    ((zv_gI h a0 5 6).bind fun v2 =>
    (if v2 = (-1 : Int) then
      (some (some (zv_i (1 : Int)), h))
    else
      (some (some (zv_i (0 : Int)), h)))))) := by
  refine (zy_lim_eq zyS5_brings _ _ _ _).trans ?_
  rfl
theorem zyS5_idAt : zy_srt 0 mc5_idAt.2.1 = true := by decide +kernel
set_option maxRecDepth 100000 in
theorem qE5_idAt (d : Nat) (a0 : Nat) (a1 : Int) (h : zv_H) : E5_idAt d a0 a1 h =
  (if a1 < 0 then
    (some (some (zv_i (-1 : Int)), h))
  else
    ((zv_gI h a0 5 12).bind fun v1 =>
    (if a1 < v1 then
      ((zv_gR h a0 5 2).bind fun v2 =>
      ((zv_al h v2).bind fun v3 =>
      (if a1 < v3 then
        ((zv_gR h a0 5 2).bind fun v4 =>
        ((zv_aI h v4 a1).bind fun v5 =>
        (some (some (zv_i v5), h))))
      else
        (some (some (zv_i (-1 : Int)), h)))))
    else
      (some (some (zv_i (-1 : Int)), h))))) := by
  refine (zy_lim_eq zyS5_idAt _ _ _ _).trans ?_
  rfl
theorem zyS5_addId : zy_srt 0 mc5_addId.2.1 = true := by decide +kernel
set_option maxRecDepth 100000 in
theorem qE5_addId (d : Nat) (a0 : Nat) (a1 : Int) (h : zv_H) : E5_addId d a0 a1 h =
  ((zv_gI h a0 5 12).bind fun v1 =>
  (if v1 < 0 then
    (some (none, h))
  else
    ((zv_gI h a0 5 12).bind fun v2 =>
    ((zv_gR h a0 5 2).bind fun v3 =>
    ((zv_al h v3).bind fun v4 =>
    (if v2 < v4 then
      ((zv_gR h a0 5 2).bind fun v5 =>
      ((zv_gI h a0 5 12).bind fun v6 =>
      ((zv_wI h v5 v6 a1).bind fun g7 =>
      ((zv_gI g7 a0 5 12).bind fun v8 =>
      ((zv_pI g7 a0 5 12 (zv_w (v8 + (1 : Int)))).bind fun g9 =>
      (some (none, g9)))))))
    else
      (some (none, h)))))))) := by
  refine (zy_lim_eq zyS5_addId _ _ _ _).trans ?_
  rfl
theorem zyS5_tookAt : zy_srt 0 mc5_tookAt.2.1 = true := by decide +kernel
set_option maxRecDepth 100000 in
theorem qE5_tookAt (d : Nat) (a0 : Nat) (a1 : Int) (h : zv_H) : E5_tookAt d a0 a1 h =
  ((zv_gI h a0 5 6).bind fun v1 =>
  (if v1 = (1 : Int) then
    (if a1 < 0 then
      (some (some (zv_i (-1 : Int)), h))
    else
      ((zv_gI h a0 5 9).bind fun v2 =>
      (if a1 < v2 then
        ((zv_gR h a0 5 1).bind fun v3 =>
        ((zv_al h v3).bind fun v4 =>
        (if a1 < v4 then
          ((zv_gR h a0 5 1).bind fun v5 =>
          ((zv_aI h v5 a1).bind fun v6 =>
          (some (some (zv_i v6), h))))
        else
          (some (some (zv_i (-1 : Int)), h)))))
      else
        (some (some (zv_i (-1 : Int)), h)))))
  else
    (some (some (zv_i (-1 : Int)), h)))) := by
  refine (zy_lim_eq zyS5_tookAt _ _ _ _).trans ?_
  rfl
theorem zyS5_tookIt : zy_srt 0 mc5_tookIt.2.1 = true := by decide +kernel
set_option maxRecDepth 100000 in
theorem qE5_tookIt (d : Nat) (a0 : Nat) (a1 : Int) (h : zv_H) : E5_tookIt d a0 a1 h =
  L5_tookIt_2 d a0 a1 (0 : Int) h := by
  refine (zy_lim_eq zyS5_tookIt _ _ _ _).trans ?_
  rfl
set_option maxRecDepth 100000 in
theorem qL5_tookIt_2 (d : Nat) (a0 : Nat) (a1 : Int) (a2 : Int) (h : zv_H) : L5_tookIt_2 d a0 a1 a2 h =
  ((zv_gI h a0 5 9).bind fun v1 =>
  (if a2 < v1 then
    (if a1 = (-1 : Int) then
      L5_tookIt_2 d a0 a1 (zv_w (a2 + 1)) h
    else
      ((C5_tookAt d a0 a2 h).bind fun q2 =>
      (if q2.1 = a1 then
        (some (some (zv_i (1 : Int)), q2.2))
      else
        L5_tookIt_2 d a0 a1 (zv_w (a2 + 1)) q2.2)))
  else
    (some (some (zv_i (0 : Int)), h)))) := by
  refine (zy_lim_eq zyS5_tookIt _ _ _ _).trans ?_
  rfl
theorem zyS6_init : zy_srt 0 mc6_init.2.1 = true := by decide +kernel
set_option maxRecDepth 100000 in
theorem qE6_init (d : Nat) (a0 : Nat) (h : zv_H) : E6_init d a0 h =
  (if a0 = 0 then none else
  ((zv_nA h 2 (40 : Int)).bind fun g1 =>
  ((zv_pR g1 a0 6 0 (zv_n h + 1)).bind fun g2 =>
  ((zv_nA g2 2 (40 : Int)).bind fun g3 =>
  ((zv_pR g3 a0 6 1 (zv_n g2 + 1)).bind fun g4 =>
  ((zv_nA g4 2 (40 : Int)).bind fun g5 =>
  ((zv_pR g5 a0 6 2 (zv_n g4 + 1)).bind fun g6 =>
  ((zv_nA g6 2 (40 : Int)).bind fun g7 =>
  ((zv_pR g7 a0 6 3 (zv_n g6 + 1)).bind fun g8 =>
  (some (none, g8))))))))))) := by
  refine (zy_lim_eq zyS6_init _ _ _ _).trans ?_
  rfl
theorem zyS6_add : zy_srt 0 mc6_add.2.1 = true := by decide +kernel
set_option maxRecDepth 100000 in
theorem qE6_add (d : Nat) (a0 : Nat) (a1 : Nat) (a2 : Int) (h : zv_H) : E6_add d a0 a1 a2 h =
  ((zv_gI h a0 6 4).bind fun v1 =>
  (if ((v1).tmod (40 : Int)) < 0 then
    ((zv_gI h a0 6 4).bind fun v2 =>
    ((zv_pI h a0 6 4 (zv_w (v2 + (1 : Int)))).bind fun g3 =>
    ((zv_gI g3 a0 6 4).bind fun v4 =>
    ((zv_pI g3 a1 5 13 v4).bind fun g5 =>
    (some (none, g5))))))
  else
    (if ((v1).tmod (40 : Int)) < (40 : Int) then
      ((zv_gR h a0 6 0).bind fun v6 =>
      ((zv_gI h a1 5 0).bind fun v7 =>
      ((zv_wI h v6 ((v1).tmod (40 : Int)) v7).bind fun g8 =>
      ((zv_gR g8 a0 6 1).bind fun v9 =>
      ((zv_wI g8 v9 ((v1).tmod (40 : Int)) a2).bind fun g10 =>
      ((zv_gI g10 a0 6 4).bind fun v11 =>
      ((zv_pI g10 a0 6 4 (zv_w (v11 + (1 : Int)))).bind fun g12 =>
      ((zv_gI g12 a0 6 4).bind fun v13 =>
      ((zv_pI g12 a1 5 13 v13).bind fun g14 =>
      (some (none, g14)))))))))))
    else
      ((zv_gI h a0 6 4).bind fun v15 =>
      ((zv_pI h a0 6 4 (zv_w (v15 + (1 : Int)))).bind fun g16 =>
      ((zv_gI g16 a0 6 4).bind fun v17 =>
      ((zv_pI g16 a1 5 13 v17).bind fun g18 =>
      (some (none, g18))))))))) := by
  refine (zy_lim_eq zyS6_add _ _ _ _).trans ?_
  rfl
theorem zyS6_slot : zy_srt 0 mc6_slot.2.1 = true := by decide +kernel
set_option maxRecDepth 100000 in
theorem qE6_slot (d : Nat) (a0 : Nat) (a1 : Int) (h : zv_H) : E6_slot d a0 a1 h =
  ((zv_gI h a0 6 4).bind fun v1 =>
  (some (some (zv_i (((zv_w ((zv_w (v1 - (1 : Int))) - a1))).tmod (40 : Int))), h))) := by
  refine (zy_lim_eq zyS6_slot _ _ _ _).trans ?_
  rfl
theorem zyS6_stateAt : zy_srt 0 mc6_stateAt.2.1 = true := by decide +kernel
set_option maxRecDepth 100000 in
theorem qE6_stateAt (d : Nat) (a0 : Nat) (a1 : Int) (h : zv_H) : E6_stateAt d a0 a1 h =
  ((C6_slot d a0 a1 h).bind fun q1 =>
  (if q1.1 < 0 then
    (some (some (zv_i (-1 : Int)), q1.2))
  else
    (if q1.1 < (40 : Int) then
      ((zv_gR q1.2 a0 6 0).bind fun v2 =>
      ((zv_aI q1.2 v2 q1.1).bind fun v3 =>
      (some (some (zv_i v3), q1.2))))
    else
      (some (some (zv_i (-1 : Int)), q1.2))))) := by
  refine (zy_lim_eq zyS6_stateAt _ _ _ _).trans ?_
  rfl
theorem zyS6_timeAt : zy_srt 0 mc6_timeAt.2.1 = true := by decide +kernel
set_option maxRecDepth 100000 in
theorem qE6_timeAt (d : Nat) (a0 : Nat) (a1 : Int) (h : zv_H) : E6_timeAt d a0 a1 h =
  ((C6_slot d a0 a1 h).bind fun q1 =>
  (if q1.1 < 0 then
    (some (some (zv_i (-1 : Int)), q1.2))
  else
    (if q1.1 < (40 : Int) then
      ((zv_gR q1.2 a0 6 1).bind fun v2 =>
      ((zv_aI q1.2 v2 q1.1).bind fun v3 =>
      (some (some (zv_i v3), q1.2))))
    else
      (some (some (zv_i (-1 : Int)), q1.2))))) := by
  refine (zy_lim_eq zyS6_timeAt _ _ _ _).trans ?_
  rfl
theorem zyS6_forget : zy_srt 0 mc6_forget.2.1 = true := by decide +kernel
set_option maxRecDepth 100000 in
theorem qE6_forget (d : Nat) (a0 : Nat) (a1 : Int) (h : zv_H) : E6_forget d a0 a1 h =
  L6_forget_2 d a0 a1 (0 : Int) h := by
  refine (zy_lim_eq zyS6_forget _ _ _ _).trans ?_
  rfl
set_option maxRecDepth 100000 in
theorem qL6_forget_2 (d : Nat) (a0 : Nat) (a1 : Int) (a2 : Int) (h : zv_H) : L6_forget_2 d a0 a1 a2 h =
  (if a2 < (40 : Int) then
    ((zv_gR h a0 6 0).bind fun v1 =>
    ((zv_aI h v1 a2).bind fun v2 =>
    (if v2 = a1 then
      ((zv_gR h a0 6 0).bind fun v3 =>
      ((zv_wI h v3 a2 (-1 : Int)).bind fun g4 =>
      L6_forget_2 d a0 a1 (zv_w (a2 + 1)) g4))
    else
      L6_forget_2 d a0 a1 (zv_w (a2 + 1)) h)))
  else
    (some (none, h))) := by
  refine (zy_lim_eq zyS6_forget _ _ _ _).trans ?_
  rfl
theorem zyS6_keep : zy_srt 0 mc6_keep.2.1 = true := by decide +kernel
set_option maxRecDepth 100000 in
theorem qE6_keep (d : Nat) (a0 : Nat) (h : zv_H) : E6_keep d a0 h =
  ((zv_gR h a0 6 0).bind fun v1 =>
  ((zv_gR h a0 6 2).bind fun v2 =>
  ((zv_cy h v1 (0 : Int) v2 (0 : Int) (40 : Int)).bind fun g3 =>
  ((zv_gR g3 a0 6 1).bind fun v4 =>
  ((zv_gR g3 a0 6 3).bind fun v5 =>
  ((zv_cy g3 v4 (0 : Int) v5 (0 : Int) (40 : Int)).bind fun g6 =>
  ((zv_gI g6 a0 6 4).bind fun v7 =>
  ((zv_pI g6 a0 6 5 v7).bind fun g8 =>
  (some (none, g8)))))))))) := by
  refine (zy_lim_eq zyS6_keep _ _ _ _).trans ?_
  rfl
theorem zyS6_giveBack : zy_srt 0 mc6_giveBack.2.1 = true := by decide +kernel
set_option maxRecDepth 100000 in
theorem qE6_giveBack (d : Nat) (a0 : Nat) (h : zv_H) : E6_giveBack d a0 h =
  ((zv_gR h a0 6 2).bind fun v1 =>
  ((zv_gR h a0 6 0).bind fun v2 =>
  ((zv_cy h v1 (0 : Int) v2 (0 : Int) (40 : Int)).bind fun g3 =>
  ((zv_gR g3 a0 6 3).bind fun v4 =>
  ((zv_gR g3 a0 6 1).bind fun v5 =>
  ((zv_cy g3 v4 (0 : Int) v5 (0 : Int) (40 : Int)).bind fun g6 =>
  ((zv_gI g6 a0 6 5).bind fun v7 =>
  ((zv_pI g6 a0 6 4 v7).bind fun g8 =>
  (some (none, g8)))))))))) := by
  refine (zy_lim_eq zyS6_giveBack _ _ _ _).trans ?_
  rfl
theorem zyS7_init : zy_srt 0 mc7_init.2.1 = true := by decide +kernel
set_option maxRecDepth 100000 in
theorem qE7_init (d : Nat) (a0 : Nat) (h : zv_H) : E7_init d a0 h =
  (if a0 = 0 then none else
  ((zv_nA h 2 (40 : Int)).bind fun g1 =>
  ((zv_pR g1 a0 7 0 (zv_n h + 1)).bind fun g2 =>
  (some (none, g2))))) := by
  refine (zy_lim_eq zyS7_init _ _ _ _).trans ?_
  rfl
theorem zyS7_clear : zy_srt 0 mc7_clear.2.1 = true := by decide +kernel
set_option maxRecDepth 100000 in
theorem qE7_clear (d : Nat) (a0 : Nat) (h : zv_H) : E7_clear d a0 h =
  ((zv_pI h a0 7 1 (0 : Int)).bind fun g1 =>
  (some (none, g1))) := by
  refine (zy_lim_eq zyS7_clear _ _ _ _).trans ?_
  rfl
theorem zyS7_add : zy_srt 0 mc7_add.2.1 = true := by decide +kernel
set_option maxRecDepth 100000 in
theorem qE7_add (d : Nat) (a0 : Nat) (a1 : Int) (h : zv_H) : E7_add d a0 a1 h =
  ((zv_gI h a0 7 1).bind fun v1 =>
  (if v1 < 0 then
    (some (none, h))
  else
    ((zv_gI h a0 7 1).bind fun v2 =>
    ((zv_gR h a0 7 0).bind fun v3 =>
    ((zv_al h v3).bind fun v4 =>
    (if v2 < v4 then
      ((zv_gR h a0 7 0).bind fun v5 =>
      ((zv_gI h a0 7 1).bind fun v6 =>
      ((zv_wI h v5 v6 a1).bind fun g7 =>
      ((zv_gI g7 a0 7 1).bind fun v8 =>
      ((zv_pI g7 a0 7 1 (zv_w (v8 + (1 : Int)))).bind fun g9 =>
      (some (none, g9)))))))
    else
      (some (none, h)))))))) := by
  refine (zy_lim_eq zyS7_add _ _ _ _).trans ?_
  rfl
theorem zyS7_at : zy_srt 0 mc7_at.2.1 = true := by decide +kernel
set_option maxRecDepth 100000 in
theorem qE7_at (d : Nat) (a0 : Nat) (a1 : Int) (h : zv_H) : E7_at d a0 a1 h =
  (if a1 < 0 then
    (some (some (zv_i (-1 : Int)), h))
  else
    ((zv_gI h a0 7 1).bind fun v1 =>
    (if a1 < v1 then
      ((zv_gR h a0 7 0).bind fun v2 =>
      ((zv_al h v2).bind fun v3 =>
      (if a1 < v3 then
        ((zv_gR h a0 7 0).bind fun v4 =>
        ((zv_aI h v4 a1).bind fun v5 =>
        (some (some (zv_i v5), h))))
      else
        (some (some (zv_i (-1 : Int)), h)))))
    else
      (some (some (zv_i (-1 : Int)), h))))) := by
  refine (zy_lim_eq zyS7_at _ _ _ _).trans ?_
  rfl
theorem zyS7_key : zy_srt 0 mc7_key.2.1 = true := by decide +kernel
set_option maxRecDepth 100000 in
theorem qE7_key (d : Nat) (a0 : Nat) (h : zv_H) : E7_key d a0 h =
  ((zv_gI h a0 7 1).bind fun v1 =>
  ((C8_within d v1 (1 : Int) (6 : Int) h).bind fun q2 =>
  (if q2.1 = 0 then
    (some (some (zv_i (0 : Int)), q2.2))
  else
    ((zv_gI q2.2 a0 7 1).bind fun v3 =>
    L7_key_24 d a0 (0 : Int) (zv_w (v3 - (1 : Int))) q2.2)))) := by
  refine (zy_lim_eq zyS7_key _ _ _ _).trans ?_
  rfl
set_option maxRecDepth 100000 in
theorem qL7_key_24 (d : Nat) (a0 : Nat) (a1 : Int) (a2 : Int) (h : zv_H) : L7_key_24 d a0 a1 a2 h =
  (if a2 < 0 then
    (some (some (zv_i a1), h))
  else
    ((C7_at d a0 a2 h).bind fun q1 =>
    L7_key_24 d a0 (zv_or (zv_shl a1 (5 : Int)) (zv_w (q1.1 + (1 : Int)))) (zv_w (a2 + (-1))) q1.2)) := by
  refine (zy_lim_eq zyS7_key _ _ _ _).trans ?_
  rfl
end
/-! 42.eqs3 -/
section
theorem zyS3_init : zy_srt 0 mc3_init.2.1 = true := by decide +kernel
set_option maxRecDepth 100000 in
theorem qE3_init (d : Nat) (a0 : Nat) (h : zv_H) : E3_init d a0 h =
  (if a0 = 0 then none else
  ((zv_nA h 2 (700 : Int)).bind fun g1 =>
  ((zv_pR g1 a0 3 0 (zv_n h + 1)).bind fun g2 =>
  ((zv_nO g2 7).bind fun g3 =>
  ((C7_init d (zv_n g2 + 1) g3).bind fun g4 =>
  ((zv_pR g4 a0 3 1 (zv_n g2 + 1)).bind fun g5 =>
  (some (none, g5)))))))) := by
  refine (zy_lim_eq zyS3_init _ _ _ _).trans ?_
  rfl
theorem zyS3_addByte : zy_srt 0 mc3_addByte.2.1 = true := by decide +kernel
set_option maxRecDepth 100000 in
theorem qE3_addByte (d : Nat) (a0 : Nat) (a1 : Int) (h : zv_H) : E3_addByte d a0 a1 h =
  ((zv_gI h a0 3 2).bind fun v1 =>
  (if v1 < 0 then
    (some (none, h))
  else
    ((zv_gI h a0 3 2).bind fun v2 =>
    (if v2 < (700 : Int) then
      ((zv_gR h a0 3 0).bind fun v3 =>
      ((zv_gI h a0 3 2).bind fun v4 =>
      ((zv_wI h v3 v4 a1).bind fun g5 =>
      ((zv_gI g5 a0 3 2).bind fun v6 =>
      ((zv_pI g5 a0 3 2 (zv_w (v6 + (1 : Int)))).bind fun g7 =>
      (some (none, g7)))))))
    else
      (some (none, h)))))) := by
  refine (zy_lim_eq zyS3_addByte _ _ _ _).trans ?_
  rfl
theorem zyS3_byteAt : zy_srt 0 mc3_byteAt.2.1 = true := by decide +kernel
set_option maxRecDepth 100000 in
theorem qE3_byteAt (d : Nat) (a0 : Nat) (a1 : Int) (h : zv_H) : E3_byteAt d a0 a1 h =
  (if a1 < 0 then
    (some (some (zv_i (-1 : Int)), h))
  else
    ((zv_gI h a0 3 3).bind fun v1 =>
    (if a1 < v1 then
      (if a1 < (700 : Int) then
        ((zv_gR h a0 3 0).bind fun v2 =>
        ((zv_aI h v2 a1).bind fun v3 =>
        (some (some (zv_i v3), h))))
      else
        (some (some (zv_i (-1 : Int)), h)))
    else
      (some (some (zv_i (-1 : Int)), h))))) := by
  refine (zy_lim_eq zyS3_byteAt _ _ _ _).trans ?_
  rfl
theorem zyS3_fail : zy_srt 0 mc3_fail.2.1 = true := by decide +kernel
set_option maxRecDepth 100000 in
theorem qE3_fail (d : Nat) (a0 : Nat) (a1 : Int) (h : zv_H) : E3_fail d a0 a1 h =
  ((zv_pI h a0 3 8 a1).bind fun g1 =>
  ((zv_gI g1 a0 3 5).bind fun v2 =>
  ((zv_pI g1 a0 3 9 v2).bind fun g3 =>
  (some (some (zv_i (0 : Int)), g3))))) := by
  refine (zy_lim_eq zyS3_fail _ _ _ _).trans ?_
  rfl
theorem zyS3_more : zy_srt 0 mc3_more.2.1 = true := by decide +kernel
set_option maxRecDepth 100000 in
theorem qE3_more (d : Nat) (a0 : Nat) (h : zv_H) : E3_more d a0 h =
  ((zv_gI h a0 3 8).bind fun v1 =>
  (if v1 = 0 then
    ((zv_gI h a0 3 4).bind fun v2 =>
    (if v2 = 0 then
      (some (some (zv_i (0 : Int)), h))
    else
      (some (some (zv_i (1 : Int)), h))))
  else
    (some (some (zv_i (0 : Int)), h)))) := by
  refine (zy_lim_eq zyS3_more _ _ _ _).trans ?_
  rfl
theorem zyS3_begin : zy_srt 0 mc3_begin.2.1 = true := by decide +kernel
set_option maxRecDepth 100000 in
theorem qE3_begin (d : Nat) (a0 : Nat) (a1 : Int) (h : zv_H) : E3_begin d a0 a1 h =
  ((zv_gI h a0 3 2).bind fun v1 =>
  ((zv_pI h a0 3 3 (min a1 v1)).bind fun g2 =>
  ((zv_pI g2 a0 3 2 (0 : Int)).bind fun g3 =>
  ((zv_pI g3 a0 3 8 (0 : Int)).bind fun g4 =>
  ((zv_pI g4 a0 3 9 (-1 : Int)).bind fun g5 =>
  ((zv_pI g5 a0 3 6 (0 : Int)).bind fun g6 =>
  ((C3_next d a0 g6).bind fun q7 =>
  (some (none, q7.2))))))))) := by
  refine (zy_lim_eq zyS3_begin _ _ _ _).trans ?_
  rfl
theorem zyS3_next : zy_srt 0 mc3_next.2.1 = true := by decide +kernel
set_option maxRecDepth 100000 in
theorem qE3_next (d : Nat) (a0 : Nat) (h : zv_H) : E3_next d a0 h =
  ((zv_gI h a0 3 6).bind fun v1 =>
  ((zv_pI h a0 3 5 v1).bind fun g2 =>
  L3_next_8 d a0 g2)) := by
  refine (zy_lim_eq zyS3_next _ _ _ _).trans ?_
  rfl
set_option maxRecDepth 100000 in
theorem qL3_next_8 (d : Nat) (a0 : Nat) (h : zv_H) : L3_next_8 d a0 h =
  ((zv_gI h a0 3 5).bind fun v1 =>
  ((zv_gI h a0 3 3).bind fun v2 =>
  (if v1 < v2 then
    ((zv_gI h a0 3 5).bind fun v3 =>
    ((C3_byteAt d a0 v3 h).bind fun q4 =>
    (if q4.1 = (32 : Int) then
      ((zv_gI q4.2 a0 3 5).bind fun v5 =>
      ((zv_pI q4.2 a0 3 5 (zv_w (v5 + (1 : Int)))).bind fun g6 =>
      L3_next_8 d a0 g6))
    else
      ((zv_gI q4.2 a0 3 5).bind fun v7 =>
      ((C3_byteAt d a0 v7 q4.2).bind fun q8 =>
      (if q8.1 = (10 : Int) then
        ((zv_gI q8.2 a0 3 5).bind fun v9 =>
        ((zv_pI q8.2 a0 3 5 (zv_w (v9 + (1 : Int)))).bind fun g10 =>
        L3_next_8 d a0 g10))
      else
        L3_next_58 d a0 q8.2))))))
  else
    L3_next_58 d a0 h))) := by
  refine (zy_lim_eq zyS3_next _ _ _ _).trans ?_
  rfl
set_option maxRecDepth 100000 in
theorem qL3_next_58 (d : Nat) (a0 : Nat) (h : zv_H) : L3_next_58 d a0 h =
  ((zv_gI h a0 3 5).bind fun v1 =>
  ((zv_pI h a0 3 6 v1).bind fun g2 =>
  ((zv_gI g2 a0 3 5).bind fun v3 =>
  ((C3_byteAt d a0 v3 g2).bind fun q4 =>
  ((zv_pI q4.2 a0 3 7 q4.1).bind fun g5 =>
  ((zv_gI g5 a0 3 7).bind fun v6 =>
  (if v6 = (-1 : Int) then
    ((zv_pI g5 a0 3 4 (0 : Int)).bind fun g7 =>
    (some (some (zv_i (1 : Int)), g7)))
  else
    ((zv_gI g5 a0 3 7).bind fun v8 =>
    ((C3_isSmall d v8 g5).bind fun q9 =>
    (if q9.1 = 0 then
      ((zv_gI q9.2 a0 3 7).bind fun v10 =>
      ((C3_isDigit d v10 q9.2).bind fun q11 =>
      (if q11.1 = 0 then
        ((zv_pI q11.2 a0 3 4 (3 : Int)).bind fun g12 =>
        ((zv_gI g12 a0 3 6).bind fun v13 =>
        ((zv_pI g12 a0 3 6 (zv_w (v13 + (1 : Int)))).bind fun g14 =>
        ((zv_gI g14 a0 3 7).bind fun v15 =>
        (if v15 < (59 : Int) then
          L3_next_302 d a0 g14
        else
          ((zv_gI g14 a0 3 7).bind fun v16 =>
          (if v16 ≤ (62 : Int) then
            (some (some (zv_i (1 : Int)), g14))
          else
            L3_next_302 d a0 g14)))))))
      else
        ((zv_pI q11.2 a0 3 4 (2 : Int)).bind fun g17 =>
        ((zv_pI g17 a0 3 7 (0 : Int)).bind fun g18 =>
        L3_next_168 d a0 g18)))))
    else
      ((zv_pI q9.2 a0 3 4 (1 : Int)).bind fun g19 =>
      L3_next_108 d a0 g19))))))))))) := by
  refine (zy_lim_eq zyS3_next _ _ _ _).trans ?_
  rfl
set_option maxRecDepth 100000 in
theorem qL3_next_108 (d : Nat) (a0 : Nat) (h : zv_H) : L3_next_108 d a0 h =
  ((zv_gI h a0 3 6).bind fun v1 =>
  ((zv_gI h a0 3 3).bind fun v2 =>
  (if v1 < v2 then
    ((zv_gI h a0 3 6).bind fun v3 =>
    ((C3_byteAt d a0 v3 h).bind fun q4 =>
    ((C3_isSmall d q4.1 q4.2).bind fun q5 =>
    (if q5.1 = 0 then
      (some (some (zv_i (1 : Int)), q5.2))
    else
      ((zv_gI q5.2 a0 3 6).bind fun v6 =>
      ((zv_pI q5.2 a0 3 6 (zv_w (v6 + (1 : Int)))).bind fun g7 =>
      L3_next_108 d a0 g7))))))
  else
    (some (some (zv_i (1 : Int)), h))))) := by
  refine (zy_lim_eq zyS3_next _ _ _ _).trans ?_
  rfl
set_option maxRecDepth 100000 in
theorem qL3_next_168 (d : Nat) (a0 : Nat) (h : zv_H) : L3_next_168 d a0 h =
  ((zv_gI h a0 3 6).bind fun v1 =>
  ((zv_gI h a0 3 3).bind fun v2 =>
  (if v1 < v2 then
    ((zv_gI h a0 3 6).bind fun v3 =>
    ((zv_gI h a0 3 5).bind fun v4 =>
    (if (zv_w (v3 - v4)) ≤ (3 : Int) then
      ((zv_gI h a0 3 6).bind fun v5 =>
      ((C3_byteAt d a0 v5 h).bind fun q6 =>
      ((C3_isDigit d q6.1 q6.2).bind fun q7 =>
      (if q7.1 = 0 then
        L3_next_242 d a0 q7.2
      else
        ((zv_gI q7.2 a0 3 7).bind fun v8 =>
        ((zv_gI q7.2 a0 3 6).bind fun v9 =>
        ((C3_byteAt d a0 v9 q7.2).bind fun q10 =>
        ((zv_pI q10.2 a0 3 7 (zv_w ((zv_w ((zv_w (v8 * (10 : Int))) + q10.1)) - (48 : Int)))).bind fun g11 =>
        ((zv_gI g11 a0 3 6).bind fun v12 =>
        ((zv_pI g11 a0 3 6 (zv_w (v12 + (1 : Int)))).bind fun g13 =>
        L3_next_168 d a0 g13))))))))))
    else
      L3_next_242 d a0 h)))
  else
    L3_next_242 d a0 h))) := by
  refine (zy_lim_eq zyS3_next _ _ _ _).trans ?_
  rfl
set_option maxRecDepth 100000 in
theorem qL3_next_242 (d : Nat) (a0 : Nat) (h : zv_H) : L3_next_242 d a0 h =
  ((zv_gI h a0 3 6).bind fun v1 =>
  ((zv_gI h a0 3 5).bind fun v2 =>
  (if (zv_w (v1 - v2)) ≤ (3 : Int) then
    (some (some (zv_i (1 : Int)), h))
  else
    ((C3_fail d a0 (1 : Int) h).bind fun q3 =>
    (if q3.1 = 0 then
      (some (some (zv_i (0 : Int)), q3.2))
    else
      (some (some (zv_i (1 : Int)), q3.2))))))) := by
  refine (zy_lim_eq zyS3_next _ _ _ _).trans ?_
  rfl
set_option maxRecDepth 100000 in
theorem qL3_next_302 (d : Nat) (a0 : Nat) (h : zv_H) : L3_next_302 d a0 h =
  ((zv_gI h a0 3 7).bind fun v1 =>
  (if v1 = (91 : Int) then
    (some (some (zv_i (1 : Int)), h))
  else
    ((zv_gI h a0 3 7).bind fun v2 =>
    (if v2 = (93 : Int) then
      (some (some (zv_i (1 : Int)), h))
    else
      ((C3_fail d a0 (1 : Int) h).bind fun q3 =>
      (if q3.1 = 0 then
        (some (some (zv_i (0 : Int)), q3.2))
      else
        (some (some (zv_i (1 : Int)), q3.2)))))))) := by
  refine (zy_lim_eq zyS3_next _ _ _ _).trans ?_
  rfl
theorem zyS3_isSmall : zy_srt 0 mc3_isSmall.2.1 = true := by decide +kernel
set_option maxRecDepth 100000 in
theorem qE3_isSmall (d : Nat) (a0 : Int) (h : zv_H) : E3_isSmall d a0 h =
  (if a0 < (97 : Int) then
    (some (some (zv_i (0 : Int)), h))
  else
    (if a0 ≤ (122 : Int) then
      (some (some (zv_i (1 : Int)), h))
    else
      (some (some (zv_i (0 : Int)), h)))) := by
  refine (zy_lim_eq zyS3_isSmall _ _ _ _).trans ?_
  rfl
theorem zyS3_isDigit : zy_srt 0 mc3_isDigit.2.1 = true := by decide +kernel
set_option maxRecDepth 100000 in
theorem qE3_isDigit (d : Nat) (a0 : Int) (h : zv_H) : E3_isDigit d a0 h =
  (if a0 < (48 : Int) then
    (some (some (zv_i (0 : Int)), h))
  else
    (if a0 ≤ (57 : Int) then
      (some (some (zv_i (1 : Int)), h))
    else
      (some (some (zv_i (0 : Int)), h)))) := by
  refine (zy_lim_eq zyS3_isDigit _ _ _ _).trans ?_
  rfl
theorem zyS3_is : zy_srt 0 mc3_is.2.1 = true := by decide +kernel
set_option maxRecDepth 100000 in
theorem qE3_is (d : Nat) (a0 : Nat) (a1 : Nat) (h : zv_H) : E3_is d a0 a1 h =
  ((zv_gI h a0 3 4).bind fun v1 =>
  (if v1 = (1 : Int) then
    ((zv_gI h a0 3 6).bind fun v2 =>
    ((zv_gI h a0 3 5).bind fun v3 =>
    ((C13_length d a1 h).bind fun q4 =>
    (if (zv_w (v2 - v3)) = q4.1 then
      L3_is_28 d a0 a1 (0 : Int) q4.2
    else
      (some (some (zv_i (0 : Int)), q4.2))))))
  else
    (some (some (zv_i (0 : Int)), h)))) := by
  refine (zy_lim_eq zyS3_is _ _ _ _).trans ?_
  rfl
set_option maxRecDepth 100000 in
theorem qL3_is_28 (d : Nat) (a0 : Nat) (a1 : Nat) (a2 : Int) (h : zv_H) : L3_is_28 d a0 a1 a2 h =
  ((C13_length d a1 h).bind fun q1 =>
  (if a2 < q1.1 then
    ((zv_gI q1.2 a0 3 5).bind fun v2 =>
    ((C3_byteAt d a0 (zv_w (v2 + a2)) q1.2).bind fun q3 =>
    ((C13_charAt d a1 a2 q3.2).bind fun q4 =>
    (if q3.1 = q4.1 then
      L3_is_28 d a0 a1 (zv_w (a2 + 1)) q4.2
    else
      (some (some (zv_i (0 : Int)), q4.2))))))
  else
    (some (some (zv_i (1 : Int)), q1.2)))) := by
  refine (zy_lim_eq zyS3_is _ _ _ _).trans ?_
  rfl
theorem zyS3_isSign : zy_srt 0 mc3_isSign.2.1 = true := by decide +kernel
set_option maxRecDepth 100000 in
theorem qE3_isSign (d : Nat) (a0 : Nat) (a1 : Int) (h : zv_H) : E3_isSign d a0 a1 h =
  ((zv_gI h a0 3 4).bind fun v1 =>
  (if v1 = (3 : Int) then
    ((zv_gI h a0 3 7).bind fun v2 =>
    (if v2 = a1 then
      (some (some (zv_i (1 : Int)), h))
    else
      (some (some (zv_i (0 : Int)), h))))
  else
    (some (some (zv_i (0 : Int)), h)))) := by
  refine (zy_lim_eq zyS3_isSign _ _ _ _).trans ?_
  rfl
theorem zyS3_head : zy_srt 0 mc3_head.2.1 = true := by decide +kernel
set_option maxRecDepth 100000 in
theorem qE3_head (d : Nat) (a0 : Nat) (a1 : Nat) (h : zv_H) : E3_head d a0 a1 h =
  ((zv_gI h a0 3 8).bind fun v1 =>
  (if v1 = 0 then
    ((C3_is d a0 1000000 h).bind fun q2 =>
    (if q2.1 = 0 then
      L3_head_52 d a0 a1 q2.2
    else
      ((C3_next d a0 q2.2).bind fun q3 =>
      (if q3.1 = 0 then
        L3_head_52 d a0 a1 q3.2
      else
        ((C3_spelled d a0 (40 : Int) q3.2).bind fun q4 =>
        (if q4.1 = 0 then
          L3_head_52 d a0 a1 q4.2
        else
          ((C3_closed d a0 q4.2).bind fun q5 =>
          (if q5.1 = 0 then
            L3_head_52 d a0 a1 q5.2
          else
            ((zv_gR q5.2 a0 3 1).bind fun v6 =>
            ((C0_startWith d a1 v6 q5.2).bind fun g7 =>
            ((C3_next d a0 g7).bind fun q8 =>
            L3_head_52 d a0 a1 q8.2)))))))))))
  else
    L3_head_52 d a0 a1 h)) := by
  refine (zy_lim_eq zyS3_head _ _ _ _).trans ?_
  rfl
set_option maxRecDepth 100000 in
theorem qL3_head_52 (d : Nat) (a0 : Nat) (a1 : Nat) (h : zv_H) : L3_head_52 d a0 a1 h =
  ((zv_gI h a0 3 8).bind fun v1 =>
  (if v1 = 0 then
    ((C3_is d a0 1000001 h).bind fun q2 =>
    (if q2.1 = 0 then
      (some (none, q2.2))
    else
      ((C3_next d a0 q2.2).bind fun q3 =>
      (if q3.1 = 0 then
        (some (none, q3.2))
      else
        ((zv_gR q3.2 a1 0 8).bind fun v4 =>
        ((C1_clear d v4 q3.2).bind fun g5 =>
        ((zv_gR g5 a1 0 8).bind fun v6 =>
        ((C3_test d a0 v6 (0 : Int) g5).bind fun q7 =>
        (if q7.1 = 0 then
          (some (none, q7.2))
        else
          ((C3_closed d a0 q7.2).bind fun q8 =>
          (if q8.1 = 0 then
            (some (none, q8.2))
          else
            ((C3_next d a0 q8.2).bind fun q9 =>
            (some (none, q9.2))))))))))))))
  else
    (some (none, h)))) := by
  refine (zy_lim_eq zyS3_head _ _ _ _).trans ?_
  rfl
theorem zyS3_closed : zy_srt 0 mc3_closed.2.1 = true := by decide +kernel
set_option maxRecDepth 100000 in
theorem qE3_closed (d : Nat) (a0 : Nat) (h : zv_H) : E3_closed d a0 h =
  ((C3_isSign d a0 (59 : Int) h).bind fun q1 =>
  (if q1.1 = 0 then
    ((C3_fail d a0 (2 : Int) q1.2).bind fun q2 =>
    (if q2.1 = 0 then
      (some (some (zv_i (0 : Int)), q2.2))
    else
      (some (some (zv_i (1 : Int)), q2.2))))
  else
    (some (some (zv_i (1 : Int)), q1.2)))) := by
  refine (zy_lim_eq zyS3_closed _ _ _ _).trans ?_
  rfl
theorem zyS3_spelled : zy_srt 0 mc3_spelled.2.1 = true := by decide +kernel
set_option maxRecDepth 100000 in
theorem qE3_spelled (d : Nat) (a0 : Nat) (a1 : Int) (h : zv_H) : E3_spelled d a0 a1 h =
  ((zv_gI h a0 3 4).bind fun v1 =>
  (if v1 = (1 : Int) then
    ((zv_gI h a0 3 6).bind fun v2 =>
    ((zv_gI h a0 3 5).bind fun v3 =>
    (if (zv_w (v2 - v3)) ≤ a1 then
      ((zv_gR h a0 3 1).bind fun v4 =>
      ((C7_clear d v4 h).bind fun g5 =>
      ((zv_gI g5 a0 3 5).bind fun v6 =>
      L3_spelled_45 d a0 v6 g5)))
    else
      ((C3_fail d a0 (4 : Int) h).bind fun q7 =>
      (if q7.1 = 0 ∨ q7.1 = 1 then some (some (zv_i q7.1), q7.2) else none)))))
  else
    ((C3_fail d a0 (2 : Int) h).bind fun q8 =>
    (if q8.1 = 0 ∨ q8.1 = 1 then some (some (zv_i q8.1), q8.2) else none)))) := by
  refine (zy_lim_eq zyS3_spelled _ _ _ _).trans ?_
  rfl
set_option maxRecDepth 100000 in
theorem qL3_spelled_45 (d : Nat) (a0 : Nat) (a2 : Int) (h : zv_H) : L3_spelled_45 d a0 a2 h =
  ((zv_gI h a0 3 6).bind fun v1 =>
  (if a2 < v1 then
    ((zv_gR h a0 3 1).bind fun v2 =>
    ((C3_byteAt d a0 a2 h).bind fun q3 =>
    ((C7_add d v2 (zv_w (q3.1 - (97 : Int))) q3.2).bind fun g4 =>
    L3_spelled_45 d a0 (zv_w (a2 + 1)) g4)))
  else
    ((C3_next d a0 h).bind fun q5 =>
    (if q5.1 = 0 ∨ q5.1 = 1 then some (some (zv_i q5.1), q5.2) else none)))) := by
  refine (zy_lim_eq zyS3_spelled _ _ _ _).trans ?_
  rfl
theorem zyS3_test : zy_srt 0 mc3_test.2.1 = true := by decide +kernel
set_option maxRecDepth 100000 in
theorem qE3_test (d : Nat) (a0 : Nat) (a1 : Nat) (a2 : Int) (h : zv_H) : E3_test d a0 a1 a2 h =
  ((C3_side d a0 a1 a2 h).bind fun q1 =>
  L3_test_10 d a0 a1 a2 q1.1 (0 : Int) q1.2) := by
  refine (zy_lim_eq zyS3_test _ _ _ _).trans ?_
  rfl
set_option maxRecDepth 100000 in
theorem qL3_test_10 (d : Nat) (a0 : Nat) (a1 : Nat) (a2 : Int) (a3 : Int) (a4 : Int) (h : zv_H) : L3_test_10 d a0 a1 a2 a3 a4 h =
  (if a4 < (700 : Int) then
    (if a3 = 0 then
      (if a3 = 0 ∨ a3 = 1 then some (some (zv_i a3), h) else none)
    else
      ((C3_is d a0 1000010 h).bind fun q1 =>
      (if q1.1 = 0 then
        (if a3 = 0 ∨ a3 = 1 then some (some (zv_i a3), q1.2) else none)
      else
        ((C3_next d a0 q1.2).bind fun q2 =>
        (if q2.1 = 0 then
          L3_test_51 d a0 a1 a2 a4 q2.2
        else
          ((C3_side d a0 a1 a2 q2.2).bind fun q3 =>
          (if q3.1 = 0 then
            L3_test_51 d a0 a1 a2 a4 q3.2
          else
            L3_test_52 d a0 a1 a2 a4 (1 : Int) q3.2)))))))
  else
    (if a3 = 0 ∨ a3 = 1 then some (some (zv_i a3), h) else none)) := by
  refine (zy_lim_eq zyS3_test _ _ _ _).trans ?_
  rfl
set_option maxRecDepth 100000 in
theorem qL3_test_51 (d : Nat) (a0 : Nat) (a1 : Nat) (a2 : Int) (a4 : Int) (h : zv_H) : L3_test_51 d a0 a1 a2 a4 h =
  L3_test_52 d a0 a1 a2 a4 (0 : Int) h := by
  refine (zy_lim_eq zyS3_test _ _ _ _).trans ?_
  rfl
set_option maxRecDepth 100000 in
theorem qL3_test_52 (d : Nat) (a0 : Nat) (a1 : Nat) (a2 : Int) (a4 : Int) (e0 : Int) (h : zv_H) : L3_test_52 d a0 a1 a2 a4 e0 h =
  ((C1_add d a1 (20 : Int) (0 : Int) h).bind fun g1 =>
  L3_test_10 d a0 a1 a2 e0 (zv_w (a4 + 1)) g1) := by
  refine (zy_lim_eq zyS3_test _ _ _ _).trans ?_
  rfl
theorem zyS3_side : zy_srt 0 mc3_side.2.1 = true := by decide +kernel
set_option maxRecDepth 100000 in
theorem qE3_side (d : Nat) (a0 : Nat) (a1 : Nat) (a2 : Int) (h : zv_H) : E3_side d a0 a1 a2 h =
  ((C3_fact d a0 a1 a2 h).bind fun q1 =>
  L3_side_10 d a0 a1 a2 q1.1 (0 : Int) q1.2) := by
  refine (zy_lim_eq zyS3_side _ _ _ _).trans ?_
  rfl
set_option maxRecDepth 100000 in
theorem qL3_side_10 (d : Nat) (a0 : Nat) (a1 : Nat) (a2 : Int) (a3 : Int) (a4 : Int) (h : zv_H) : L3_side_10 d a0 a1 a2 a3 a4 h =
  (if a4 < (700 : Int) then
    (if a3 = 0 then
      (if a3 = 0 ∨ a3 = 1 then some (some (zv_i a3), h) else none)
    else
      ((C3_is d a0 1000009 h).bind fun q1 =>
      (if q1.1 = 0 then
        (if a3 = 0 ∨ a3 = 1 then some (some (zv_i a3), q1.2) else none)
      else
        ((C3_next d a0 q1.2).bind fun q2 =>
        (if q2.1 = 0 then
          L3_side_51 d a0 a1 a2 a4 q2.2
        else
          ((C3_fact d a0 a1 a2 q2.2).bind fun q3 =>
          (if q3.1 = 0 then
            L3_side_51 d a0 a1 a2 a4 q3.2
          else
            L3_side_52 d a0 a1 a2 a4 (1 : Int) q3.2)))))))
  else
    (if a3 = 0 ∨ a3 = 1 then some (some (zv_i a3), h) else none)) := by
  refine (zy_lim_eq zyS3_side _ _ _ _).trans ?_
  rfl
set_option maxRecDepth 100000 in
theorem qL3_side_51 (d : Nat) (a0 : Nat) (a1 : Nat) (a2 : Int) (a4 : Int) (h : zv_H) : L3_side_51 d a0 a1 a2 a4 h =
  L3_side_52 d a0 a1 a2 a4 (0 : Int) h := by
  refine (zy_lim_eq zyS3_side _ _ _ _).trans ?_
  rfl
set_option maxRecDepth 100000 in
theorem qL3_side_52 (d : Nat) (a0 : Nat) (a1 : Nat) (a2 : Int) (a4 : Int) (e0 : Int) (h : zv_H) : L3_side_52 d a0 a1 a2 a4 e0 h =
  ((C1_add d a1 (19 : Int) (0 : Int) h).bind fun g1 =>
  L3_side_10 d a0 a1 a2 e0 (zv_w (a4 + 1)) g1) := by
  refine (zy_lim_eq zyS3_side _ _ _ _).trans ?_
  rfl
theorem zyS3_fact : zy_srt 0 mc3_fact.2.1 = true := by decide +kernel
set_option maxRecDepth 100000 in
theorem qE3_fact (d : Nat) (a0 : Nat) (a1 : Nat) (a2 : Int) (h : zv_H) : E3_fact d a0 a1 a2 h =
  ((C3_is d a0 1000002 h).bind fun q1 =>
  (if q1.1 = 0 then
    ((C3_isSign d a0 (91 : Int) q1.2).bind fun q2 =>
    (if q2.1 = 0 then
      ((C3_asked d a0 q2.2).bind fun q3 =>
      ((C3_comparison d a0 a1 q3.1 q3.2).bind fun q4 =>
      (if q4.1 = 0 ∨ q4.1 = 1 then some (some (zv_i q4.1), q4.2) else none)))
    else
      L3_fact_30 d a0 a1 a2 q1.1 q2.2))
  else
    L3_fact_30 d a0 a1 a2 q1.1 q1.2)) := by
  refine (zy_lim_eq zyS3_fact _ _ _ _).trans ?_
  rfl
set_option maxRecDepth 100000 in
theorem qL3_fact_30 (d : Nat) (a0 : Nat) (a1 : Nat) (a2 : Int) (a3 : Int) (h : zv_H) : L3_fact_30 d a0 a1 a2 a3 h =
  (if a2 < (6 : Int) then
    ((C3_next d a0 h).bind fun q1 =>
    (if q1.1 = 0 then
      (some (some (zv_i (0 : Int)), q1.2))
    else
      (if a3 = 0 then
        ((C3_test d a0 a1 (zv_w (a2 + (1 : Int))) q1.2).bind fun q2 =>
        (if q2.1 = 0 then
          (some (some (zv_i (0 : Int)), q2.2))
        else
          ((C3_isSign d a0 (93 : Int) q2.2).bind fun q3 =>
          (if q3.1 = 0 then
            ((C3_fail d a0 (2 : Int) q3.2).bind fun q4 =>
            (if q4.1 = 0 ∨ q4.1 = 1 then some (some (zv_i q4.1), q4.2) else none))
          else
            ((C3_next d a0 q3.2).bind fun q5 =>
            (if q5.1 = 0 ∨ q5.1 = 1 then some (some (zv_i q5.1), q5.2) else none))))))
      else
        ((C3_fact d a0 a1 (zv_w (a2 + (1 : Int))) q1.2).bind fun q6 =>
        ((C1_add d a1 (18 : Int) (0 : Int) q6.2).bind fun g7 =>
        (if q6.1 = 0 ∨ q6.1 = 1 then some (some (zv_i q6.1), g7) else none))))))
  else
    ((C3_fail d a0 (6 : Int) h).bind fun q8 =>
    (if q8.1 = 0 ∨ q8.1 = 1 then some (some (zv_i q8.1), q8.2) else none))) := by
  refine (zy_lim_eq zyS3_fact _ _ _ _).trans ?_
  rfl
theorem zyS3_comparison : zy_srt 0 mc3_comparison.2.1 = true := by decide +kernel
set_option maxRecDepth 100000 in
theorem qE3_comparison (d : Nat) (a0 : Nat) (a1 : Nat) (a2 : Int) (h : zv_H) : E3_comparison d a0 a1 a2 h =
  (if a2 = (-1 : Int) then
    ((C3_fail d a0 (2 : Int) h).bind fun q1 =>
    (if q1.1 = 0 ∨ q1.1 = 1 then some (some (zv_i q1.1), q1.2) else none))
  else
    ((C3_next d a0 h).bind fun q2 =>
    (if q2.1 = 0 then
      (some (some (zv_i (0 : Int)), q2.2))
    else
      ((zv_gI q2.2 a0 3 4).bind fun v3 =>
      (if v3 = (3 : Int) then
        ((zv_gI q2.2 a0 3 7).bind fun v4 =>
        (if v4 < (60 : Int) then
          L3_comparison_46 d a0 q2.2
        else
          ((zv_gI q2.2 a0 3 7).bind fun v5 =>
          (if v5 ≤ (62 : Int) then
            ((zv_gI q2.2 a0 3 7).bind fun v6 =>
            ((C3_next d a0 q2.2).bind fun q7 =>
            (if q7.1 = 0 then
              (some (some (zv_i (0 : Int)), q7.2))
            else
              ((zv_gI q7.2 a0 3 4).bind fun v8 =>
              (if v8 = (2 : Int) then
                ((zv_gI q7.2 a0 3 7).bind fun v9 =>
                ((C1_compare d a1 a2 (zv_w (v6 - (60 : Int))) v9 q7.2).bind fun g10 =>
                ((C3_next d a0 g10).bind fun q11 =>
                (if q11.1 = 0 ∨ q11.1 = 1 then some (some (zv_i q11.1), q11.2) else none))))
              else
                ((C3_fail d a0 (2 : Int) q7.2).bind fun q12 =>
                (if q12.1 = 0 ∨ q12.1 = 1 then some (some (zv_i q12.1), q12.2) else none)))))))
          else
            L3_comparison_46 d a0 q2.2))))
      else
        L3_comparison_46 d a0 q2.2))))) := by
  refine (zy_lim_eq zyS3_comparison _ _ _ _).trans ?_
  rfl
set_option maxRecDepth 100000 in
theorem qL3_comparison_46 (d : Nat) (a0 : Nat) (h : zv_H) : L3_comparison_46 d a0 h =
  ((C3_fail d a0 (2 : Int) h).bind fun q1 =>
  (if q1.1 = 0 ∨ q1.1 = 1 then some (some (zv_i q1.1), q1.2) else none)) := by
  refine (zy_lim_eq zyS3_comparison _ _ _ _).trans ?_
  rfl
theorem zyS3_asked : zy_srt 0 mc3_asked.2.1 = true := by decide +kernel
set_option maxRecDepth 100000 in
theorem qE3_asked (d : Nat) (a0 : Nat) (h : zv_H) : E3_asked d a0 h =
  ((C3_is d a0 1000003 h).bind fun q1 =>
  (if q1.1 = 0 then
    ((C3_is d a0 1000004 q1.2).bind fun q2 =>
    (if q2.1 = 0 then
      ((C3_is d a0 1000005 q2.2).bind fun q3 =>
      (if q3.1 = 0 then
        ((C3_is d a0 1000006 q3.2).bind fun q4 =>
        (if q4.1 = 0 then
          ((C3_is d a0 1000007 q4.2).bind fun q5 =>
          (if q5.1 = 0 then
            ((C3_is d a0 1000008 q5.2).bind fun q6 =>
            (if q6.1 = 0 then
              (some (some (zv_i (-1 : Int)), q6.2))
            else
              (some (some (zv_i (5 : Int)), q6.2))))
          else
            (some (some (zv_i (4 : Int)), q5.2))))
        else
          (some (some (zv_i (3 : Int)), q4.2))))
      else
        (some (some (zv_i (2 : Int)), q3.2))))
    else
      (some (some (zv_i (1 : Int)), q2.2))))
  else
    (some (some (zv_i (0 : Int)), q1.2)))) := by
  refine (zy_lim_eq zyS3_asked _ _ _ _).trans ?_
  rfl
theorem zyS3_line : zy_srt 0 mc3_line.2.1 = true := by decide +kernel
set_option maxRecDepth 100000 in
theorem qE3_line (d : Nat) (a0 : Nat) (h : zv_H) : E3_line d a0 h =
  ((C3_verbHere d a0 h).bind fun q1 =>
  ((zv_pI q1.2 a0 3 10 q1.1).bind fun g2 =>
  ((zv_gI g2 a0 3 10).bind fun v3 =>
  (if v3 = (-1 : Int) then
    ((C3_fail d a0 (2 : Int) g2).bind fun q4 =>
    (if q4.1 = 0 ∨ q4.1 = 1 then some (some (zv_i q4.1), q4.2) else none))
  else
    ((C3_next d a0 g2).bind fun q5 =>
    (if q5.1 = 0 then
      L3_line_85 d a0 q5.1 q5.2
    else
      ((zv_gI q5.2 a0 3 10).bind fun v6 =>
      (if v6 = (3 : Int) then
        L3_line_85 d a0 q5.1 q5.2
      else
        ((zv_gI q5.2 a0 3 10).bind fun v7 =>
        (if v7 = (4 : Int) then
          L3_line_85 d a0 q5.1 q5.2
        else
          ((zv_gI q5.2 a0 3 10).bind fun v8 =>
          (if v8 = (6 : Int) then
            L3_line_85 d a0 q5.1 q5.2
          else
            ((zv_gI q5.2 a0 3 7).bind fun v9 =>
            ((zv_pI q5.2 a0 3 11 v9).bind fun g10 =>
            ((zv_gI g10 a0 3 4).bind fun v11 =>
            (if v11 = (2 : Int) then
              ((C3_next d a0 g10).bind fun q12 =>
              L3_line_84 d a0 q12.1 q12.2)
            else
              ((C3_fail d a0 (2 : Int) g10).bind fun q13 =>
              L3_line_84 d a0 q13.1 q13.2))))))))))))))))) := by
  refine (zy_lim_eq zyS3_line _ _ _ _).trans ?_
  rfl
set_option maxRecDepth 100000 in
theorem qL3_line_84 (d : Nat) (a0 : Nat) (e0 : Int) (h : zv_H) : L3_line_84 d a0 e0 h =
  L3_line_85 d a0 e0 h := by
  refine (zy_lim_eq zyS3_line _ _ _ _).trans ?_
  rfl
set_option maxRecDepth 100000 in
theorem qL3_line_85 (d : Nat) (a0 : Nat) (a1 : Int) (h : zv_H) : L3_line_85 d a0 a1 h =
  (if a1 = 0 then
    L3_line_126 d a0 a1 h
  else
    ((zv_gI h a0 3 10).bind fun v1 =>
    (if v1 = (1 : Int) then
      ((zv_gI h a0 3 7).bind fun v2 =>
      ((zv_pI h a0 3 12 v2).bind fun g3 =>
      ((zv_gI g3 a0 3 4).bind fun v4 =>
      (if v4 = (2 : Int) then
        ((C3_next d a0 g3).bind fun q5 =>
        L3_line_125 d a0 q5.1 q5.2)
      else
        ((C3_fail d a0 (2 : Int) g3).bind fun q6 =>
        L3_line_125 d a0 q6.1 q6.2)))))
    else
      L3_line_126 d a0 a1 h))) := by
  refine (zy_lim_eq zyS3_line _ _ _ _).trans ?_
  rfl
set_option maxRecDepth 100000 in
theorem qL3_line_125 (d : Nat) (a0 : Nat) (e0 : Int) (h : zv_H) : L3_line_125 d a0 e0 h =
  L3_line_126 d a0 e0 h := by
  refine (zy_lim_eq zyS3_line _ _ _ _).trans ?_
  rfl
set_option maxRecDepth 100000 in
theorem qL3_line_126 (d : Nat) (a0 : Nat) (a1 : Int) (h : zv_H) : L3_line_126 d a0 a1 h =
  (if a1 = 0 then
    L3_line_144 d a0 a1 h
  else
    ((zv_gI h a0 3 10).bind fun v1 =>
    (if v1 = 0 then
      ((C3_spelled d a0 (12 : Int) h).bind fun q2 =>
      L3_line_144 d a0 q2.1 q2.2)
    else
      L3_line_144 d a0 a1 h))) := by
  refine (zy_lim_eq zyS3_line _ _ _ _).trans ?_
  rfl
set_option maxRecDepth 100000 in
theorem qL3_line_144 (d : Nat) (a0 : Nat) (a1 : Int) (h : zv_H) : L3_line_144 d a0 a1 h =
  (if a1 = 0 then
    L3_line_164 d a0 a1 h
  else
    ((zv_gI h a0 3 10).bind fun v1 =>
    (if v1 = (6 : Int) then
      ((C3_spelled d a0 (6 : Int) h).bind fun q2 =>
      L3_line_164 d a0 q2.1 q2.2)
    else
      L3_line_164 d a0 a1 h))) := by
  refine (zy_lim_eq zyS3_line _ _ _ _).trans ?_
  rfl
set_option maxRecDepth 100000 in
theorem qL3_line_164 (d : Nat) (a0 : Nat) (a1 : Int) (h : zv_H) : L3_line_164 d a0 a1 h =
  (if a1 = 0 then
    (some (some (zv_i (0 : Int)), h))
  else
    ((C3_closed d a0 h).bind fun q1 =>
    (if q1.1 = 0 then
      (some (some (zv_i (0 : Int)), q1.2))
    else
      (some (some (zv_i (1 : Int)), q1.2))))) := by
  refine (zy_lim_eq zyS3_line _ _ _ _).trans ?_
  rfl
theorem zyS3_verbHere : zy_srt 0 mc3_verbHere.2.1 = true := by decide +kernel
set_option maxRecDepth 100000 in
theorem qE3_verbHere (d : Nat) (a0 : Nat) (h : zv_H) : E3_verbHere d a0 h =
  ((C3_is d a0 1000011 h).bind fun q1 =>
  (if q1.1 = 0 then
    ((C3_is d a0 1000012 q1.2).bind fun q2 =>
    (if q2.1 = 0 then
      ((C3_is d a0 1000013 q2.2).bind fun q3 =>
      (if q3.1 = 0 then
        ((C3_is d a0 1000014 q3.2).bind fun q4 =>
        (if q4.1 = 0 then
          ((C3_is d a0 1000015 q4.2).bind fun q5 =>
          (if q5.1 = 0 then
            ((C3_is d a0 1000016 q5.2).bind fun q6 =>
            (if q6.1 = 0 then
              ((C3_is d a0 1000017 q6.2).bind fun q7 =>
              (if q7.1 = 0 then
                ((C3_is d a0 1000018 q7.2).bind fun q8 =>
                (if q8.1 = 0 then
                  ((C3_is d a0 1000019 q8.2).bind fun q9 =>
                  (if q9.1 = 0 then
                    ((C3_is d a0 1000020 q9.2).bind fun q10 =>
                    (if q10.1 = 0 then
                      ((C3_is d a0 1000021 q10.2).bind fun q11 =>
                      (if q11.1 = 0 then
                        ((C3_is d a0 1000022 q11.2).bind fun q12 =>
                        (if q12.1 = 0 then
                          (some (some (zv_i (-1 : Int)), q12.2))
                        else
                          (some (some (zv_i (11 : Int)), q12.2))))
                      else
                        (some (some (zv_i (10 : Int)), q11.2))))
                    else
                      (some (some (zv_i (9 : Int)), q10.2))))
                  else
                    (some (some (zv_i (8 : Int)), q9.2))))
                else
                  (some (some (zv_i (7 : Int)), q8.2))))
              else
                (some (some (zv_i (6 : Int)), q7.2))))
            else
              (some (some (zv_i (5 : Int)), q6.2))))
          else
            (some (some (zv_i (4 : Int)), q5.2))))
        else
          (some (some (zv_i (3 : Int)), q4.2))))
      else
        (some (some (zv_i (2 : Int)), q3.2))))
    else
      (some (some (zv_i (1 : Int)), q2.2))))
  else
    (some (some (zv_i (0 : Int)), q1.2)))) := by
  refine (zy_lim_eq zyS3_verbHere _ _ _ _).trans ?_
  rfl
end
