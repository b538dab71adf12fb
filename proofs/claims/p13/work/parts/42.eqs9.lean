theorem zyS9_init : zy_srt 0 mc9_init.2.1 = true := by decide +kernel
set_option maxRecDepth 100000 in
theorem qE9_init (d : Nat) (a0 : Nat) (h : zv_H) : E9_init d a0 h =
  (if a0 = 0 then none else
  ((zv_nA h 2 (4236 : Int)).bind fun g1 =>
  ((zv_pR g1 a0 9 0 (zv_n h + 1)).bind fun g2 =>
  ((zv_nA g2 2 (4236 : Int)).bind fun g3 =>
  ((zv_pR g3 a0 9 1 (zv_n g2 + 1)).bind fun g4 =>
  ((zv_nA g4 2 (4236 : Int)).bind fun g5 =>
  ((zv_pR g5 a0 9 2 (zv_n g4 + 1)).bind fun g6 =>
  ((zv_nA g6 2 (49 : Int)).bind fun g7 =>
  ((zv_pR g7 a0 9 5 (zv_n g6 + 1)).bind fun g8 =>
  ((zv_nA g8 2 (640 : Int)).bind fun g9 =>
  ((zv_pR g9 a0 9 6 (zv_n g8 + 1)).bind fun g10 =>
  ((zv_nA g10 2 (640 : Int)).bind fun g11 =>
  ((zv_pR g11 a0 9 7 (zv_n g10 + 1)).bind fun g12 =>
  ((zv_nA g12 3 (49 : Int)).bind fun g13 =>
  ((zv_pR g13 a0 9 8 (zv_n g12 + 1)).bind fun g14 =>
  ((zv_nA g14 3 (640 : Int)).bind fun g15 =>
  ((zv_pR g15 a0 9 9 (zv_n g14 + 1)).bind fun g16 =>
  ((zv_nA g16 2 (640 : Int)).bind fun g17 =>
  ((zv_pR g17 a0 9 13 (zv_n g16 + 1)).bind fun g18 =>
  ((zv_nA g18 2 (640 : Int)).bind fun g19 =>
  ((zv_pR g19 a0 9 14 (zv_n g18 + 1)).bind fun g20 =>
  ((zv_nA g20 2 (6 : Int)).bind fun g21 =>
  ((zv_pR g21 a0 9 15 (zv_n g20 + 1)).bind fun g22 =>
  ((zv_nA g22 3 (400 : Int)).bind fun g23 =>
  ((zv_pR g23 a0 9 16 (zv_n g22 + 1)).bind fun g24 =>
  ((zv_nA g24 2 (700 : Int)).bind fun g25 =>
  ((zv_pR g25 a0 9 17 (zv_n g24 + 1)).bind fun g26 =>
  ((zv_nA g26 2 (12 : Int)).bind fun g27 =>
  ((zv_pR g27 a0 9 18 (zv_n g26 + 1)).bind fun g28 =>
  ((zv_nA g28 2 (48 : Int)).bind fun g29 =>
  ((zv_pR g29 a0 9 21 (zv_n g28 + 1)).bind fun g30 =>
  ((zv_nA g30 2 (49 : Int)).bind fun g31 =>
  ((zv_pR g31 a0 9 22 (zv_n g30 + 1)).bind fun g32 =>
  ((zv_nA g32 3 (49 : Int)).bind fun g33 =>
  ((zv_pR g33 a0 9 23 (zv_n g32 + 1)).bind fun g34 =>
  ((zv_nA g34 3 (49 : Int)).bind fun g35 =>
  ((zv_pR g35 a0 9 25 (zv_n g34 + 1)).bind fun g36 =>
  ((zv_nA g36 4 (700 : Int)).bind fun g37 =>
  ((zv_pR g37 a0 9 26 (zv_n g36 + 1)).bind fun g38 =>
  ((zv_pI g38 a0 9 28 (-1 : Int)).bind fun g39 =>
  ((zv_pI g39 a0 9 29 (-1 : Int)).bind fun g40 =>
  ((zv_nA g40 5 (12 : Int)).bind fun g41 =>
  ((zv_wJ g41 (zv_n g40 + 1) (0 : Int) (12251 : Int64)).bind fun g42 =>
  ((zv_wJ g42 (zv_n g40 + 1) (1 : Int) (2774 : Int64)).bind fun g43 =>
  ((zv_wJ g43 (zv_n g40 + 1) (2 : Int) (453701 : Int64)).bind fun g44 =>
  ((zv_wJ g44 (zv_n g40 + 1) (3 : Int) (423672 : Int64)).bind fun g45 =>
  ((zv_wJ g45 (zv_n g40 + 1) (4 : Int) (358062 : Int64)).bind fun g46 =>
  ((zv_wJ g46 (zv_n g40 + 1) (5 : Int) (204 : Int64)).bind fun g47 =>
  ((zv_wJ g47 (zv_n g40 + 1) (6 : Int) (276647 : Int64)).bind fun g48 =>
  ((zv_wJ g48 (zv_n g40 + 1) (7 : Int) (244366229642 : Int64)).bind fun g49 =>
  ((zv_wJ g49 (zv_n g40 + 1) (8 : Int) (7055815802 : Int64)).bind fun g50 =>
  ((zv_wJ g50 (zv_n g40 + 1) (9 : Int) (1627639 : Int64)).bind fun g51 =>
  ((zv_wJ g51 (zv_n g40 + 1) (10 : Int) (7020464 : Int64)).bind fun g52 =>
  ((zv_wJ g52 (zv_n g40 + 1) (11 : Int) (8873042 : Int64)).bind fun g53 =>
  ((zv_pR g53 a0 9 39 (zv_n g40 + 1)).bind fun g54 =>
  ((zv_nA g54 5 (5 : Int)).bind fun g55 =>
  ((zv_wJ g55 (zv_n g54 + 1) (0 : Int) (10492274 : Int64)).bind fun g56 =>
  ((zv_wJ g56 (zv_n g54 + 1) (1 : Int) (208022 : Int64)).bind fun g57 =>
  ((zv_wJ g57 (zv_n g54 + 1) (2 : Int) (423 : Int64)).bind fun g58 =>
  ((zv_wJ g58 (zv_n g54 + 1) (3 : Int) (1111 : Int64)).bind fun g59 =>
  ((zv_wJ g59 (zv_n g54 + 1) (4 : Int) (10631 : Int64)).bind fun g60 =>
  ((zv_pR g60 a0 9 40 (zv_n g54 + 1)).bind fun g61 =>
  ((zv_nA g61 5 (6 : Int)).bind fun g62 =>
  ((zv_wJ g62 (zv_n g61 + 1) (0 : Int) (5146 : Int64)).bind fun g63 =>
  ((zv_wJ g63 (zv_n g61 + 1) (1 : Int) (381245 : Int64)).bind fun g64 =>
  ((zv_wJ g64 (zv_n g61 + 1) (2 : Int) (223456 : Int64)).bind fun g65 =>
  ((zv_wJ g65 (zv_n g61 + 1) (3 : Int) (375062 : Int64)).bind fun g66 =>
  ((zv_wJ g66 (zv_n g61 + 1) (4 : Int) (279252 : Int64)).bind fun g67 =>
  ((zv_wJ g67 (zv_n g61 + 1) (5 : Int) (247516 : Int64)).bind fun g68 =>
  ((zv_pR g68 a0 9 41 (zv_n g61 + 1)).bind fun g69 =>
  ((zv_nA g69 2 (640 : Int)).bind fun g70 =>
  ((zv_pR g70 a0 9 44 (zv_n g69 + 1)).bind fun g71 =>
  ((zv_nA g71 2 (14641 : Int)).bind fun g72 =>
  ((zv_pR g72 a0 9 45 (zv_n g71 + 1)).bind fun g73 =>
  ((zv_nA g73 2 (200 : Int)).bind fun g74 =>
  ((zv_pR g74 a0 9 46 (zv_n g73 + 1)).bind fun g75 =>
  ((C9_clears d a0 g75).bind fun g76 =>
  (some (none, g76))))))))))))))))))))))))))))))))))))))))))))))))))))))))))))))))))))))))))))))) := by
  refine (zy_lim_eq zyS9_init _ _ _ _).trans ?_
  rfl
theorem zyS9_status : zy_srt 0 mc9_status.2.1 = true := by decide +kernel
set_option maxRecDepth 100000 in
theorem qE9_status (d : Nat) (a0 : Nat) (h : zv_H) : E9_status d a0 h =
  ((zv_pI h a0 9 4 (0 : Int)).bind fun g1 =>
  ((zv_gI g1 a0 9 3).bind fun v2 =>
  (some (some (zv_i v2), g1)))) := by
  refine (zy_lim_eq zyS9_status _ _ _ _).trans ?_
  rfl
theorem zyS9_refuse : zy_srt 0 mc9_refuse.2.1 = true := by decide +kernel
set_option maxRecDepth 100000 in
theorem qE9_refuse (d : Nat) (a0 : Nat) (a1 : Int) (h : zv_H) : E9_refuse d a0 a1 h =
  ((zv_pI h a0 9 3 a1).bind fun g1 =>
  (some (some (zv_i (-1 : Int)), g1))) := by
  refine (zy_lim_eq zyS9_refuse _ _ _ _).trans ?_
  rfl
theorem zyS9_is : zy_srt 0 mc9_is.2.1 = true := by decide +kernel
set_option maxRecDepth 100000 in
theorem qE9_is (d : Nat) (a0 : Nat) (a1 : Int) (h : zv_H) : E9_is d a0 a1 h =
  ((zv_pI h a0 9 4 (0 : Int)).bind fun g1 =>
  ((zv_pI g1 a0 9 3 a1).bind fun g2 =>
  (if a1 = 0 then
    (some (some (zv_i (1 : Int)), g2))
  else
    (some (some (zv_i (0 : Int)), g2))))) := by
  refine (zy_lim_eq zyS9_is _ _ _ _).trans ?_
  rfl
theorem zyS9_isIn : zy_srt 0 mc9_isIn.2.1 = true := by decide +kernel
set_option maxRecDepth 100000 in
theorem qE9_isIn (d : Nat) (a0 : Int) (a1 : Int) (a2 : Int) (h : zv_H) : E9_isIn d a0 a1 a2 h =
  (if a0 < a1 then
    (some (some (zv_i (0 : Int)), h))
  else
    (if a0 ≤ a2 then
      (some (some (zv_i (1 : Int)), h))
    else
      (some (some (zv_i (0 : Int)), h)))) := by
  refine (zy_lim_eq zyS9_isIn _ _ _ _).trans ?_
  rfl
theorem zyS9_clears : zy_srt 0 mc9_clears.2.1 = true := by decide +kernel
set_option maxRecDepth 100000 in
theorem qE9_clears (d : Nat) (a0 : Nat) (h : zv_H) : E9_clears d a0 h =
  L9_clears_2 d a0 (0 : Int) h := by
  refine (zy_lim_eq zyS9_clears _ _ _ _).trans ?_
  rfl
set_option maxRecDepth 100000 in
theorem qL9_clears_2 (d : Nat) (a0 : Nat) (a1 : Int) (h : zv_H) : L9_clears_2 d a0 a1 h =
  (if a1 < (4236 : Int) then
    ((zv_gR h a0 9 0).bind fun v1 =>
    ((zv_wI h v1 a1 (0 : Int)).bind fun g2 =>
    L9_clears_2 d a0 (zv_w (a1 + 1)) g2))
  else
    ((C9_sets d a0 (0 : Int) (0 : Int) (1 : Int) h).bind fun g3 =>
    ((C9_sets d a0 (0 : Int) (1 : Int) (-1 : Int) g3).bind fun g4 =>
    ((C9_sets d a0 (0 : Int) (2 : Int) (-1 : Int) g4).bind fun g5 =>
    ((C9_sets d a0 (0 : Int) (4 : Int) (-1 : Int) g5).bind fun g6 =>
    (some (none, g6))))))) := by
  refine (zy_lim_eq zyS9_clears _ _ _ _).trans ?_
  rfl
theorem zyS9_of : zy_srt 0 mc9_of.2.1 = true := by decide +kernel
set_option maxRecDepth 100000 in
theorem qE9_of (d : Nat) (a0 : Nat) (a1 : Int) (a2 : Int) (h : zv_H) : E9_of d a0 a1 a2 h =
  ((zv_gR h a0 9 0).bind fun v1 =>
  ((zv_aI h v1 (zv_w ((zv_w ((432 : Int) + (zv_w ((76 : Int) * a1)))) + a2))).bind fun v2 =>
  (some (some (zv_i v2), h)))) := by
  refine (zy_lim_eq zyS9_of _ _ _ _).trans ?_
  rfl
theorem zyS9_sets : zy_srt 0 mc9_sets.2.1 = true := by decide +kernel
set_option maxRecDepth 100000 in
theorem qE9_sets (d : Nat) (a0 : Nat) (a1 : Int) (a2 : Int) (a3 : Int) (h : zv_H) : E9_sets d a0 a1 a2 a3 h =
  ((zv_gR h a0 9 0).bind fun v1 =>
  ((zv_wI h v1 (zv_w ((zv_w ((432 : Int) + (zv_w ((76 : Int) * a1)))) + a2)) a3).bind fun g2 =>
  (some (none, g2)))) := by
  refine (zy_lim_eq zyS9_sets _ _ _ _).trans ?_
  rfl
theorem zyS9_isState : zy_srt 0 mc9_isState.2.1 = true := by decide +kernel
set_option maxRecDepth 100000 in
theorem qE9_isState (d : Nat) (a0 : Nat) (a1 : Int) (h : zv_H) : E9_isState d a0 a1 h =
  ((C9_isIn d a1 (0 : Int) (47 : Int) h).bind fun q1 =>
  (if q1.1 = 0 then
    (some (some (zv_i (0 : Int)), q1.2))
  else
    ((C9_of d a0 a1 (0 : Int) q1.2).bind fun q2 =>
    (if q2.1 = (1 : Int) then
      (some (some (zv_i (1 : Int)), q2.2))
    else
      (some (some (zv_i (0 : Int)), q2.2)))))) := by
  refine (zy_lim_eq zyS9_isState _ _ _ _).trans ?_
  rfl
theorem zyS9_isEdit : zy_srt 0 mc9_isEdit.2.1 = true := by decide +kernel
set_option maxRecDepth 100000 in
theorem qE9_isEdit (d : Nat) (a0 : Nat) (a1 : Int) (h : zv_H) : E9_isEdit d a0 a1 h =
  ((C9_of d a0 a1 (2 : Int) h).bind fun q1 =>
  (if q1.1 = 0 then
    (some (some (zv_i (1 : Int)), q1.2))
  else
    ((C9_of d a0 a1 (2 : Int) q1.2).bind fun q2 =>
    (if q2.1 = (1 : Int) then
      (some (some (zv_i (1 : Int)), q2.2))
    else
      (some (some (zv_i (0 : Int)), q2.2)))))) := by
  refine (zy_lim_eq zyS9_isEdit _ _ _ _).trans ?_
  rfl
theorem zyS9_here : zy_srt 0 mc9_here.2.1 = true := by decide +kernel
set_option maxRecDepth 100000 in
theorem qE9_here (d : Nat) (a0 : Nat) (h : zv_H) : E9_here d a0 h =
  ((zv_gR h a0 9 0).bind fun v1 =>
  ((zv_aI h v1 (0 : Int)).bind fun v2 =>
  (some (some (zv_i v2), h)))) := by
  refine (zy_lim_eq zyS9_here _ _ _ _).trans ?_
  rfl
theorem zyS9_states : zy_srt 0 mc9_states.2.1 = true := by decide +kernel
set_option maxRecDepth 100000 in
theorem qE9_states (d : Nat) (a0 : Nat) (h : zv_H) : E9_states d a0 h =
  L9_states_4 d a0 (0 : Int) (0 : Int) h := by
  refine (zy_lim_eq zyS9_states _ _ _ _).trans ?_
  rfl
set_option maxRecDepth 100000 in
theorem qL9_states_4 (d : Nat) (a0 : Nat) (a1 : Int) (a2 : Int) (h : zv_H) : L9_states_4 d a0 a1 a2 h =
  (if a2 < (48 : Int) then
    ((C9_of d a0 a2 (0 : Int) h).bind fun q1 =>
    L9_states_4 d a0 (zv_w (a1 + q1.1)) (zv_w (a2 + 1)) q1.2)
  else
    (some (some (zv_i a1), h))) := by
  refine (zy_lim_eq zyS9_states _ _ _ _).trans ?_
  rfl
theorem zyS9_names : zy_srt 0 mc9_names.2.1 = true := by decide +kernel
set_option maxRecDepth 100000 in
theorem qE9_names (d : Nat) (a0 : Nat) (a1 : Int) (a2 : Int) (h : zv_H) : E9_names d a0 a1 a2 h =
  (if a2 < (24 : Int) then
    L9_names_15 d a2 a0 a1 (10 : Int) h
  else
    L9_names_15 d a2 a0 a1 (11 : Int) h) := by
  refine (zy_lim_eq zyS9_names _ _ _ _).trans ?_
  rfl
set_option maxRecDepth 100000 in
theorem qL9_names_15 (d : Nat) (a2 : Int) (e0 : Nat) (e1 : Int) (e2 : Int) (h : zv_H) : L9_names_15 d a2 e0 e1 e2 h =
  ((C9_of d e0 e1 e2 h).bind fun q1 =>
  (if (zv_and (zv_shr q1.1 ((a2).tmod (24 : Int))) (1 : Int)) = (1 : Int) then
    (some (some (zv_i (1 : Int)), q1.2))
  else
    (some (some (zv_i (0 : Int)), q1.2)))) := by
  refine (zy_lim_eq zyS9_names _ _ _ _).trans ?_
  rfl
theorem zyS9_namesToo : zy_srt 0 mc9_namesToo.2.1 = true := by decide +kernel
set_option maxRecDepth 100000 in
theorem qE9_namesToo (d : Nat) (a0 : Nat) (a1 : Int) (a2 : Int) (h : zv_H) : E9_namesToo d a0 a1 a2 h =
  (if a2 < (24 : Int) then
    L9_namesToo_15 d a0 a1 a2 a0 a1 (10 : Int) h
  else
    L9_namesToo_15 d a0 a1 a2 a0 a1 (11 : Int) h) := by
  refine (zy_lim_eq zyS9_namesToo _ _ _ _).trans ?_
  rfl
set_option maxRecDepth 100000 in
theorem qL9_namesToo_15 (d : Nat) (a0 : Nat) (a1 : Int) (a2 : Int) (e0 : Nat) (e1 : Int) (e2 : Int) (h : zv_H) : L9_namesToo_15 d a0 a1 a2 e0 e1 e2 h =
  (if a2 < (24 : Int) then
    L9_namesToo_30 d a2 e0 e1 e2 a0 a1 (10 : Int) h
  else
    L9_namesToo_30 d a2 e0 e1 e2 a0 a1 (11 : Int) h) := by
  refine (zy_lim_eq zyS9_namesToo _ _ _ _).trans ?_
  rfl
set_option maxRecDepth 100000 in
theorem qL9_namesToo_30 (d : Nat) (a2 : Int) (e0 : Nat) (e1 : Int) (e2 : Int) (e3 : Nat) (e4 : Int) (e5 : Int) (h : zv_H) : L9_namesToo_30 d a2 e0 e1 e2 e3 e4 e5 h =
  ((C9_of d e3 e4 e5 h).bind fun q1 =>
  ((C9_sets d e0 e1 e2 (zv_or q1.1 (zv_shl (1 : Int) ((a2).tmod (24 : Int)))) q1.2).bind fun g2 =>
  (some (none, g2)))) := by
  refine (zy_lim_eq zyS9_namesToo _ _ _ _).trans ?_
  rfl
theorem zyS9_isOfLine : zy_srt 0 mc9_isOfLine.2.1 = true := by decide +kernel
set_option maxRecDepth 100000 in
theorem qE9_isOfLine (d : Nat) (a0 : Nat) (a1 : Int) (a2 : Int) (h : zv_H) : E9_isOfLine d a0 a1 a2 h =
  L9_isOfLine_2 d a0 a1 a2 h := by
  refine (zy_lim_eq zyS9_isOfLine _ _ _ _).trans ?_
  rfl
set_option maxRecDepth 100000 in
theorem qL9_isOfLine_2 (d : Nat) (a0 : Nat) (a1 : Int) (a3 : Int) (h : zv_H) : L9_isOfLine_2 d a0 a1 a3 h =
  (if a3 < 0 then
    (some (some (zv_i (0 : Int)), h))
  else
    (if a3 = a1 then
      (some (some (zv_i (1 : Int)), h))
    else
      ((C9_of d a0 a3 (1 : Int) h).bind fun q1 =>
      L9_isOfLine_2 d a0 a1 q1.1 q1.2))) := by
  refine (zy_lim_eq zyS9_isOfLine _ _ _ _).trans ?_
  rfl
theorem zyS9_depthOf : zy_srt 0 mc9_depthOf.2.1 = true := by decide +kernel
set_option maxRecDepth 100000 in
theorem qE9_depthOf (d : Nat) (a0 : Nat) (a1 : Int) (h : zv_H) : E9_depthOf d a0 a1 h =
  ((C9_of d a0 a1 (1 : Int) h).bind fun q1 =>
  L9_depthOf_9 d a0 (0 : Int) q1.1 q1.2) := by
  refine (zy_lim_eq zyS9_depthOf _ _ _ _).trans ?_
  rfl
set_option maxRecDepth 100000 in
theorem qL9_depthOf_9 (d : Nat) (a0 : Nat) (a2 : Int) (a3 : Int) (h : zv_H) : L9_depthOf_9 d a0 a2 a3 h =
  (if a3 < 0 then
    (some (some (zv_i a2), h))
  else
    ((C9_of d a0 a3 (1 : Int) h).bind fun q1 =>
    L9_depthOf_9 d a0 (zv_w (a2 + 1)) q1.1 q1.2)) := by
  refine (zy_lim_eq zyS9_depthOf _ _ _ _).trans ?_
  rfl
theorem zyS9_rowOf : zy_srt 0 mc9_rowOf.2.1 = true := by decide +kernel
set_option maxRecDepth 100000 in
theorem qE9_rowOf (d : Nat) (a0 : Nat) (a1 : Int) (a2 : Int) (h : zv_H) : E9_rowOf d a0 a1 a2 h =
  L9_rowOf_2 d a0 a1 a2 (0 : Int) h := by
  refine (zy_lim_eq zyS9_rowOf _ _ _ _).trans ?_
  rfl
set_option maxRecDepth 100000 in
theorem qL9_rowOf_2 (d : Nat) (a0 : Nat) (a1 : Int) (a2 : Int) (a3 : Int) (h : zv_H) : L9_rowOf_2 d a0 a1 a2 a3 h =
  ((zv_gI h a0 9 11).bind fun v1 =>
  (if a3 < v1 then
    ((zv_gR h a0 9 6).bind fun v2 =>
    ((zv_aI h v2 a3).bind fun v3 =>
    (if v3 = a1 then
      ((zv_gR h a0 9 7).bind fun v4 =>
      ((zv_aI h v4 a3).bind fun v5 =>
      (if v5 = a2 then
        (some (some (zv_i a3), h))
      else
        L9_rowOf_2 d a0 a1 a2 (zv_w (a3 + 1)) h)))
    else
      L9_rowOf_2 d a0 a1 a2 (zv_w (a3 + 1)) h)))
  else
    (some (some (zv_i (-1 : Int)), h)))) := by
  refine (zy_lim_eq zyS9_rowOf _ _ _ _).trans ?_
  rfl
theorem zyS9_letsIn : zy_srt 0 mc9_letsIn.2.1 = true := by decide +kernel
set_option maxRecDepth 100000 in
theorem qE9_letsIn (d : Nat) (a0 : Nat) (a1 : Int) (h : zv_H) : E9_letsIn d a0 a1 h =
  ((C9_of d a0 a1 (8 : Int) h).bind fun q1 =>
  (if q1.1 < 0 then
    L9_letsIn_34 d a0 a1 (0 : Int) q1.2
  else
    ((C9_of d a0 a1 (8 : Int) q1.2).bind fun q2 =>
    ((C9_of d a0 a1 (9 : Int) q2.2).bind fun q3 =>
    ((C9_rowOf d a0 q2.1 q3.1 q3.2).bind fun q4 =>
    L9_letsIn_34 d a0 a1 (zv_w (q4.1 + (1 : Int))) q4.2))))) := by
  refine (zy_lim_eq zyS9_letsIn _ _ _ _).trans ?_
  rfl
set_option maxRecDepth 100000 in
theorem qL9_letsIn_34 (d : Nat) (a0 : Nat) (a1 : Int) (e0 : Int) (h : zv_H) : L9_letsIn_34 d a0 a1 e0 h =
  ((C9_of d a0 a1 (5 : Int) h).bind fun q1 =>
  ((zv_gI q1.2 a0 9 11).bind fun v2 =>
  L9_letsIn_50 d a0 a1 e0 q1.1 (zv_w (v2 - (1 : Int))) q1.2)) := by
  refine (zy_lim_eq zyS9_letsIn _ _ _ _).trans ?_
  rfl
set_option maxRecDepth 100000 in
theorem qL9_letsIn_50 (d : Nat) (a0 : Nat) (a1 : Int) (a2 : Int) (a3 : Int) (a4 : Int) (h : zv_H) : L9_letsIn_50 d a0 a1 a2 a3 a4 h =
  (if a4 < a2 then
    L9_letsIn_97 d a0 a1 a2 a3 (0 : Int) h
  else
    ((zv_gR h a0 9 6).bind fun v1 =>
    ((zv_gR h a0 9 6).bind fun v2 =>
    ((zv_aI h v2 a4).bind fun v3 =>
    ((zv_wI h v1 (zv_w (a4 + a3)) v3).bind fun g4 =>
    ((zv_gR g4 a0 9 7).bind fun v5 =>
    ((zv_gR g4 a0 9 7).bind fun v6 =>
    ((zv_aI g4 v6 a4).bind fun v7 =>
    ((zv_wI g4 v5 (zv_w (a4 + a3)) v7).bind fun g8 =>
    L9_letsIn_50 d a0 a1 a2 a3 (zv_w (a4 + (-1))) g8))))))))) := by
  refine (zy_lim_eq zyS9_letsIn _ _ _ _).trans ?_
  rfl
set_option maxRecDepth 100000 in
theorem qL9_letsIn_97 (d : Nat) (a0 : Nat) (a1 : Int) (a2 : Int) (a3 : Int) (a4 : Int) (h : zv_H) : L9_letsIn_97 d a0 a1 a2 a3 a4 h =
  (if a4 < a3 then
    ((zv_gR h a0 9 6).bind fun v1 =>
    ((zv_wI h v1 (zv_w (a2 + a4)) a1).bind fun g2 =>
    ((zv_gR g2 a0 9 7).bind fun v3 =>
    ((zv_wI g2 v3 (zv_w (a2 + a4)) a4).bind fun g4 =>
    L9_letsIn_97 d a0 a1 a2 a3 (zv_w (a4 + 1)) g4))))
  else
    ((zv_gI h a0 9 11).bind fun v5 =>
    ((zv_pI h a0 9 11 (zv_w (v5 + a3))).bind fun g6 =>
    (some (none, g6))))) := by
  refine (zy_lim_eq zyS9_letsIn _ _ _ _).trans ?_
  rfl
theorem zyS9_turns : zy_srt 0 mc9_turns.2.1 = true := by decide +kernel
set_option maxRecDepth 100000 in
theorem qE9_turns (d : Nat) (a0 : Nat) (a1 : Int) (h : zv_H) : E9_turns d a0 a1 h =
  L9_turns_2 d a0 a1 (0 : Int) h := by
  refine (zy_lim_eq zyS9_turns _ _ _ _).trans ?_
  rfl
set_option maxRecDepth 100000 in
theorem qL9_turns_2 (d : Nat) (a0 : Nat) (a1 : Int) (a2 : Int) (h : zv_H) : L9_turns_2 d a0 a1 a2 h =
  ((zv_gI h a0 9 10).bind fun v1 =>
  (if a2 < v1 then
    ((zv_gR h a0 9 5).bind fun v2 =>
    ((zv_aI h v2 a2).bind fun v3 =>
    ((C9_names d a0 a1 v3 h).bind fun q4 =>
    (if q4.1 = 0 then
      L9_turns_2 d a0 a1 (zv_w (a2 + 1)) q4.2
    else
      ((zv_gR q4.2 a0 9 8).bind fun v5 =>
      ((zv_gR q4.2 a0 9 5).bind fun v6 =>
      ((zv_aI q4.2 v6 a2).bind fun v7 =>
      ((C9_of d a0 a1 (2 : Int) q4.2).bind fun q8 =>
      (if q8.1 = (3 : Int) then
        ((zv_wB q8.2 v5 v7 (1 : Int)).bind fun g9 =>
        L9_turns_2 d a0 a1 (zv_w (a2 + 1)) g9)
      else
        ((zv_wB q8.2 v5 v7 (0 : Int)).bind fun g10 =>
        L9_turns_2 d a0 a1 (zv_w (a2 + 1)) g10))))))))))
  else
    (some (none, h)))) := by
  refine (zy_lim_eq zyS9_turns _ _ _ _).trans ?_
  rfl
theorem zyS9_sees : zy_srt 0 mc9_sees.2.1 = true := by decide +kernel
set_option maxRecDepth 100000 in
theorem qE9_sees (d : Nat) (a0 : Nat) (a1 : Int) (h : zv_H) : E9_sees d a0 a1 h =
  ((C9_depthOf d a0 a1 h).bind fun q1 =>
  ((zv_pI q1.2 a0 9 10 (zv_w (q1.1 + (1 : Int)))).bind fun g2 =>
  ((zv_gI g2 a0 9 10).bind fun v3 =>
  L9_sees_20 d a0 (zv_w (v3 - (1 : Int))) a1 g2))) := by
  refine (zy_lim_eq zyS9_sees _ _ _ _).trans ?_
  rfl
set_option maxRecDepth 100000 in
theorem qL9_sees_20 (d : Nat) (a0 : Nat) (a2 : Int) (a3 : Int) (h : zv_H) : L9_sees_20 d a0 a2 a3 h =
  (if a3 < 0 then
    ((C9_of d a0 (0 : Int) (5 : Int) h).bind fun q1 =>
    ((zv_pI q1.2 a0 9 11 q1.1).bind fun g2 =>
    L9_sees_56 d a0 (0 : Int) g2))
  else
    ((zv_gR h a0 9 5).bind fun v3 =>
    ((zv_wI h v3 a2 a3).bind fun g4 =>
    ((C9_of d a0 a3 (1 : Int) g4).bind fun q5 =>
    L9_sees_20 d a0 (zv_w (a2 + (-1))) q5.1 q5.2)))) := by
  refine (zy_lim_eq zyS9_sees _ _ _ _).trans ?_
  rfl
set_option maxRecDepth 100000 in
theorem qL9_sees_56 (d : Nat) (a0 : Nat) (a3 : Int) (h : zv_H) : L9_sees_56 d a0 a3 h =
  ((zv_gI h a0 9 11).bind fun v1 =>
  (if a3 < v1 then
    ((zv_gR h a0 9 6).bind fun v2 =>
    ((zv_wI h v2 a3 (0 : Int)).bind fun g3 =>
    ((zv_gR g3 a0 9 7).bind fun v4 =>
    ((zv_wI g3 v4 a3 a3).bind fun g5 =>
    L9_sees_56 d a0 (zv_w (a3 + 1)) g5))))
  else
    ((zv_gR h a0 9 8).bind fun v6 =>
    ((zv_wB h v6 (0 : Int) (1 : Int)).bind fun g7 =>
    L9_sees_93 d a0 (1 : Int) g7)))) := by
  refine (zy_lim_eq zyS9_sees _ _ _ _).trans ?_
  rfl
set_option maxRecDepth 100000 in
theorem qL9_sees_93 (d : Nat) (a0 : Nat) (a3 : Int) (h : zv_H) : L9_sees_93 d a0 a3 h =
  ((zv_gI h a0 9 10).bind fun v1 =>
  (if a3 < v1 then
    ((zv_gR h a0 9 5).bind fun v2 =>
    ((zv_aI h v2 a3).bind fun v3 =>
    ((zv_gR h a0 9 8).bind fun v4 =>
    ((C9_isEdit d a0 v3 h).bind fun q5 =>
    ((zv_wB q5.2 v4 v3 q5.1).bind fun g6 =>
    ((C9_of d a0 v3 (2 : Int) g6).bind fun q7 =>
    (if q7.1 = 0 then
      ((C9_letsIn d a0 v3 q7.2).bind fun g8 =>
      L9_sees_138 d a0 a3 v3 g8)
    else
      L9_sees_138 d a0 a3 v3 q7.2)))))))
  else
    L9_sees_161 d a0 (0 : Int) h)) := by
  refine (zy_lim_eq zyS9_sees _ _ _ _).trans ?_
  rfl
set_option maxRecDepth 100000 in
theorem qL9_sees_138 (d : Nat) (a0 : Nat) (a3 : Int) (a4 : Int) (h : zv_H) : L9_sees_138 d a0 a3 a4 h =
  ((C9_isEdit d a0 a4 h).bind fun q1 =>
  (if q1.1 = 0 then
    ((C9_turns d a0 a4 q1.2).bind fun g2 =>
    L9_sees_93 d a0 (zv_w (a3 + 1)) g2)
  else
    L9_sees_93 d a0 (zv_w (a3 + 1)) q1.2)) := by
  refine (zy_lim_eq zyS9_sees _ _ _ _).trans ?_
  rfl
set_option maxRecDepth 100000 in
theorem qL9_sees_161 (d : Nat) (a0 : Nat) (a3 : Int) (h : zv_H) : L9_sees_161 d a0 a3 h =
  ((zv_gI h a0 9 11).bind fun v1 =>
  (if a3 < v1 then
    ((zv_gR h a0 9 9).bind fun v2 =>
    ((zv_gR h a0 9 8).bind fun v3 =>
    ((zv_gR h a0 9 6).bind fun v4 =>
    ((zv_aI h v4 a3).bind fun v5 =>
    ((zv_aB h v3 v5).bind fun v6 =>
    ((zv_wB h v2 a3 v6).bind fun g7 =>
    L9_sees_161 d a0 (zv_w (a3 + 1)) g7))))))
  else
    L9_sees_194 d a0 (1 : Int) h)) := by
  refine (zy_lim_eq zyS9_sees _ _ _ _).trans ?_
  rfl
set_option maxRecDepth 100000 in
theorem qL9_sees_194 (d : Nat) (a0 : Nat) (a3 : Int) (h : zv_H) : L9_sees_194 d a0 a3 h =
  ((zv_gI h a0 9 10).bind fun v1 =>
  (if a3 < v1 then
    ((zv_gR h a0 9 5).bind fun v2 =>
    ((zv_aI h v2 a3).bind fun v3 =>
    L9_sees_213 d a0 a3 v3 (0 : Int) h))
  else
    ((zv_pI h a0 9 12 (0 : Int)).bind fun g4 =>
    L9_sees_303 d a0 (0 : Int) g4))) := by
  refine (zy_lim_eq zyS9_sees _ _ _ _).trans ?_
  rfl
set_option maxRecDepth 100000 in
theorem qL9_sees_213 (d : Nat) (a0 : Nat) (a3 : Int) (a4 : Int) (a5 : Int) (h : zv_H) : L9_sees_213 d a0 a3 a4 a5 h =
  ((C9_of d a0 a4 (2 : Int) h).bind fun q1 =>
  (if q1.1 = (1 : Int) then
    ((zv_gR q1.2 a0 9 8).bind fun v2 =>
    ((zv_aB q1.2 v2 a4).bind fun v3 =>
    (if v3 = 0 then
      L9_sees_194 d a0 (zv_w (a3 + 1)) q1.2
    else
      ((C9_of d a0 a4 (5 : Int) q1.2).bind fun q4 =>
      (if a5 < q4.1 then
        ((zv_gR q4.2 a0 9 9).bind fun v5 =>
        ((C9_of d a0 a4 (zv_w ((52 : Int) + (zv_w ((2 : Int) * a5)))) q4.2).bind fun q6 =>
        ((C9_of d a0 a4 (zv_w ((zv_w ((52 : Int) + (zv_w ((2 : Int) * a5)))) + (1 : Int))) q6.2).bind fun q7 =>
        ((C9_rowOf d a0 q6.1 q7.1 q7.2).bind fun q8 =>
        ((zv_wB q8.2 v5 q8.1 (0 : Int)).bind fun g9 =>
        L9_sees_213 d a0 a3 a4 (zv_w (a5 + 1)) g9)))))
      else
        L9_sees_194 d a0 (zv_w (a3 + 1)) q4.2)))))
  else
    L9_sees_194 d a0 (zv_w (a3 + 1)) q1.2)) := by
  refine (zy_lim_eq zyS9_sees _ _ _ _).trans ?_
  rfl
set_option maxRecDepth 100000 in
theorem qL9_sees_303 (d : Nat) (a0 : Nat) (a3 : Int) (h : zv_H) : L9_sees_303 d a0 a3 h =
  ((zv_gI h a0 9 11).bind fun v1 =>
  (if a3 < v1 then
    ((zv_gI h a0 9 12).bind fun v2 =>
    ((zv_gR h a0 9 9).bind fun v3 =>
    ((zv_aB h v3 a3).bind fun v4 =>
    (if v4 = 0 then
      ((zv_pI h a0 9 12 (zv_w (v2 + (0 : Int)))).bind fun g5 =>
      L9_sees_303 d a0 (zv_w (a3 + 1)) g5)
    else
      ((zv_pI h a0 9 12 (zv_w (v2 + (1 : Int)))).bind fun g6 =>
      L9_sees_303 d a0 (zv_w (a3 + 1)) g6)))))
  else
    (some (none, h)))) := by
  refine (zy_lim_eq zyS9_sees _ _ _ _).trans ?_
  rfl
theorem zyS9_rowPlace : zy_srt 0 mc9_rowPlace.2.1 = true := by decide +kernel
set_option maxRecDepth 100000 in
theorem qE9_rowPlace (d : Nat) (a0 : Nat) (a1 : Int) (h : zv_H) : E9_rowPlace d a0 a1 h =
  L9_rowPlace_4 d a0 a1 (0 : Int) h := by
  refine (zy_lim_eq zyS9_rowPlace _ _ _ _).trans ?_
  rfl
set_option maxRecDepth 100000 in
theorem qL9_rowPlace_4 (d : Nat) (a0 : Nat) (a2 : Int) (a3 : Int) (h : zv_H) : L9_rowPlace_4 d a0 a2 a3 h =
  ((zv_gI h a0 9 11).bind fun v1 =>
  (if a3 < v1 then
    ((zv_gR h a0 9 9).bind fun v2 =>
    ((zv_aB h v2 a3).bind fun v3 =>
    (if v3 = 0 then
      L9_rowPlace_4 d a0 a2 (zv_w (a3 + 1)) h
    else
      (if a2 = 0 then
        (some (some (zv_i a3), h))
      else
        L9_rowPlace_4 d a0 (zv_w (a2 + (-1))) (zv_w (a3 + 1)) h))))
  else
    (some (some (zv_i (-1 : Int)), h)))) := by
  refine (zy_lim_eq zyS9_rowPlace _ _ _ _).trans ?_
  rfl
theorem zyS9_letterIn : zy_srt 0 mc9_letterIn.2.1 = true := by decide +kernel
set_option maxRecDepth 100000 in
theorem qE9_letterIn (d : Nat) (a0 : Nat) (a1 : Int) (h : zv_H) : E9_letterIn d a0 a1 h =
  ((zv_gR h a0 9 6).bind fun v1 =>
  ((zv_aI h v1 a1).bind fun v2 =>
  ((zv_gR h a0 9 7).bind fun v3 =>
  ((zv_aI h v3 a1).bind fun v4 =>
  ((C9_of d a0 v2 (zv_w ((12 : Int) + v4)) h).bind fun q5 =>
  (some (some (zv_i q5.1), q5.2))))))) := by
  refine (zy_lim_eq zyS9_letterIn _ _ _ _).trans ?_
  rfl
theorem zyS9_lettersOf : zy_srt 0 mc9_lettersOf.2.1 = true := by decide +kernel
set_option maxRecDepth 100000 in
theorem qE9_lettersOf (d : Nat) (a0 : Nat) (a1 : Int) (h : zv_H) : E9_lettersOf d a0 a1 h =
  ((C9_sees d a0 a1 h).bind fun g1 =>
  ((zv_gI g1 a0 9 12).bind fun v2 =>
  (some (some (zv_i v2), g1)))) := by
  refine (zy_lim_eq zyS9_lettersOf _ _ _ _).trans ?_
  rfl
theorem zyS9_copies : zy_srt 0 mc9_copies.2.1 = true := by decide +kernel
set_option maxRecDepth 100000 in
theorem qE9_copies (d : Nat) (a0 : Nat) (a1 : Int) (a2 : Nat) (h : zv_H) : E9_copies d a0 a1 a2 h =
  ((C9_sees d a0 a1 h).bind fun g1 =>
  L9_copies_10 d a0 a2 (0 : Int) (0 : Int) g1) := by
  refine (zy_lim_eq zyS9_copies _ _ _ _).trans ?_
  rfl
set_option maxRecDepth 100000 in
theorem qL9_copies_10 (d : Nat) (a0 : Nat) (a2 : Nat) (a3 : Int) (a4 : Int) (h : zv_H) : L9_copies_10 d a0 a2 a3 a4 h =
  ((zv_gI h a0 9 11).bind fun v1 =>
  (if a4 < v1 then
    ((zv_gR h a0 9 9).bind fun v2 =>
    ((zv_aB h v2 a4).bind fun v3 =>
    (if v3 = 0 then
      L9_copies_10 d a0 a2 a3 (zv_w (a4 + 1)) h
    else
      ((C9_letterIn d a0 a4 h).bind fun q4 =>
      ((zv_wI q4.2 a2 a3 q4.1).bind fun g5 =>
      L9_copies_10 d a0 a2 (zv_w (a3 + 1)) (zv_w (a4 + 1)) g5)))))
  else
    (some (some (zv_i a3), h)))) := by
  refine (zy_lim_eq zyS9_copies _ _ _ _).trans ?_
  rfl
theorem zyS9_visits : zy_srt 0 mc9_visits.2.1 = true := by decide +kernel
set_option maxRecDepth 100000 in
theorem qE9_visits (d : Nat) (a0 : Nat) (a1 : Int) (h : zv_H) : E9_visits d a0 a1 h =
  ((C9_here d a0 h).bind fun q1 =>
  (if a1 = q1.1 then
    (some (none, q1.2))
  else
    ((zv_gR q1.2 a0 9 0).bind fun v2 =>
    ((zv_wI q1.2 v2 (0 : Int) a1).bind fun g3 =>
    ((zv_gR g3 a0 9 0).bind fun v4 =>
    ((zv_aI g3 v4 (2 : Int)).bind fun v5 =>
    ((zv_wI g3 v4 (2 : Int) (zv_w (v5 + (1 : Int)))).bind fun g6 =>
    ((zv_gR g6 a0 9 0).bind fun v7 =>
    ((zv_aI g6 v7 (2 : Int)).bind fun v8 =>
    ((C9_sets d a0 a1 (7 : Int) v8 g6).bind fun g9 =>
    L9_visits_42 d a0 a1 (79 : Int) g9)))))))))) := by
  refine (zy_lim_eq zyS9_visits _ _ _ _).trans ?_
  rfl
set_option maxRecDepth 100000 in
theorem qL9_visits_42 (d : Nat) (a0 : Nat) (a1 : Int) (a2 : Int) (h : zv_H) : L9_visits_42 d a0 a1 a2 h =
  (if a2 ≤ (1 : Int) then
    ((zv_gR h a0 9 0).bind fun v1 =>
    ((zv_wI h v1 (4156 : Int) a1).bind fun g2 =>
    ((zv_gR g2 a0 9 0).bind fun v3 =>
    ((zv_gR g2 a0 9 0).bind fun v4 =>
    ((zv_aI g2 v4 (1 : Int)).bind fun v5 =>
    ((zv_wI g2 v3 (4157 : Int) v5).bind fun g6 =>
    ((zv_gR g6 a0 9 0).bind fun v7 =>
    ((zv_gR g6 a0 9 0).bind fun v8 =>
    ((zv_aI g6 v8 (5 : Int)).bind fun v9 =>
    (if v9 < (40 : Int) then
      ((zv_gR g6 a0 9 0).bind fun v10 =>
      ((zv_aI g6 v10 (5 : Int)).bind fun v11 =>
      ((zv_wI g6 v7 (5 : Int) (zv_w (v11 + (1 : Int)))).bind fun g12 =>
      (some (none, g12)))))
    else
      ((zv_wI g6 v7 (5 : Int) (40 : Int)).bind fun g13 =>
      (some (none, g13)))))))))))))
  else
    ((zv_gR h a0 9 0).bind fun v14 =>
    ((zv_gR h a0 9 0).bind fun v15 =>
    ((zv_aI h v15 (zv_w ((zv_w ((4156 : Int) + a2)) - (2 : Int)))).bind fun v16 =>
    ((zv_wI h v14 (zv_w ((4156 : Int) + a2)) v16).bind fun g17 =>
    L9_visits_42 d a0 a1 (zv_w (a2 + (-1))) g17))))) := by
  refine (zy_lim_eq zyS9_visits _ _ _ _).trans ?_
  rfl
theorem zyS9_latestIn : zy_srt 0 mc9_latestIn.2.1 = true := by decide +kernel
set_option maxRecDepth 100000 in
theorem qE9_latestIn (d : Nat) (a0 : Nat) (a1 : Int) (h : zv_H) : E9_latestIn d a0 a1 h =
  ((C9_of d a0 a1 (7 : Int) h).bind fun q1 =>
  L9_latestIn_10 d a0 a1 q1.1 (0 : Int) q1.2) := by
  refine (zy_lim_eq zyS9_latestIn _ _ _ _).trans ?_
  rfl
set_option maxRecDepth 100000 in
theorem qL9_latestIn_10 (d : Nat) (a0 : Nat) (a1 : Int) (a2 : Int) (a3 : Int) (h : zv_H) : L9_latestIn_10 d a0 a1 a2 a3 h =
  (if a3 < (48 : Int) then
    ((C9_isState d a0 a3 h).bind fun q1 =>
    (if q1.1 = 0 then
      L9_latestIn_10 d a0 a1 a2 (zv_w (a3 + 1)) q1.2
    else
      ((C9_of d a0 a3 (7 : Int) q1.2).bind fun q2 =>
      (if q2.1 ≤ a2 then
        L9_latestIn_10 d a0 a1 a2 (zv_w (a3 + 1)) q2.2
      else
        ((C9_isOfLine d a0 a1 a3 q2.2).bind fun q3 =>
        (if q3.1 = 0 then
          L9_latestIn_10 d a0 a1 a2 (zv_w (a3 + 1)) q3.2
        else
          ((C9_of d a0 a3 (7 : Int) q3.2).bind fun q4 =>
          L9_latestIn_10 d a0 a1 q4.1 (zv_w (a3 + 1)) q4.2)))))))
  else
    (some (some (zv_i a2), h))) := by
  refine (zy_lim_eq zyS9_latestIn _ _ _ _).trans ?_
  rfl
theorem zyS9_childOf : zy_srt 0 mc9_childOf.2.1 = true := by decide +kernel
set_option maxRecDepth 100000 in
theorem qE9_childOf (d : Nat) (a0 : Nat) (a1 : Int) (a2 : Int) (h : zv_H) : E9_childOf d a0 a1 a2 h =
  L9_childOf_2 d a0 a1 a2 (0 : Int) h := by
  refine (zy_lim_eq zyS9_childOf _ _ _ _).trans ?_
  rfl
set_option maxRecDepth 100000 in
theorem qL9_childOf_2 (d : Nat) (a0 : Nat) (a1 : Int) (a2 : Int) (a3 : Int) (h : zv_H) : L9_childOf_2 d a0 a1 a2 a3 h =
  (if a3 < (48 : Int) then
    ((C9_isState d a0 a3 h).bind fun q1 =>
    (if q1.1 = 0 then
      L9_childOf_2 d a0 a1 a2 (zv_w (a3 + 1)) q1.2
    else
      ((C9_of d a0 a3 (1 : Int) q1.2).bind fun q2 =>
      (if q2.1 = a1 then
        L9_childOf_35 d a0 a1 a2 a3 (0 : Int) (0 : Int) q2.2
      else
        L9_childOf_2 d a0 a1 a2 (zv_w (a3 + 1)) q2.2))))
  else
    (some (some (zv_i (-1 : Int)), h))) := by
  refine (zy_lim_eq zyS9_childOf _ _ _ _).trans ?_
  rfl
set_option maxRecDepth 100000 in
theorem qL9_childOf_35 (d : Nat) (a0 : Nat) (a1 : Int) (a2 : Int) (a3 : Int) (a4 : Int) (a5 : Int) (h : zv_H) : L9_childOf_35 d a0 a1 a2 a3 a4 a5 h =
  (if a5 < (48 : Int) then
    ((C9_isState d a0 a5 h).bind fun q1 =>
    (if q1.1 = 0 then
      L9_childOf_35 d a0 a1 a2 a3 (zv_w (a4 + (0 : Int))) (zv_w (a5 + 1)) q1.2
    else
      ((C9_of d a0 a5 (1 : Int) q1.2).bind fun q2 =>
      (if q2.1 = a1 then
        ((C9_latestIn d a0 a5 q2.2).bind fun q3 =>
        ((C9_latestIn d a0 a3 q3.2).bind fun q4 =>
        (if q3.1 ≤ q4.1 then
          L9_childOf_35 d a0 a1 a2 a3 (zv_w (a4 + (0 : Int))) (zv_w (a5 + 1)) q4.2
        else
          L9_childOf_35 d a0 a1 a2 a3 (zv_w (a4 + (1 : Int))) (zv_w (a5 + 1)) q4.2)))
      else
        L9_childOf_35 d a0 a1 a2 a3 (zv_w (a4 + (0 : Int))) (zv_w (a5 + 1)) q2.2))))
  else
    (if a4 = a2 then
      (some (some (zv_i a3), h))
    else
      L9_childOf_2 d a0 a1 a2 (zv_w (a3 + 1)) h)) := by
  refine (zy_lim_eq zyS9_childOf _ _ _ _).trans ?_
  rfl
theorem zyS9_childrenOf : zy_srt 0 mc9_childrenOf.2.1 = true := by decide +kernel
set_option maxRecDepth 100000 in
theorem qE9_childrenOf (d : Nat) (a0 : Nat) (a1 : Int) (h : zv_H) : E9_childrenOf d a0 a1 h =
  L9_childrenOf_4 d a0 a1 (0 : Int) (0 : Int) h := by
  refine (zy_lim_eq zyS9_childrenOf _ _ _ _).trans ?_
  rfl
set_option maxRecDepth 100000 in
theorem qL9_childrenOf_4 (d : Nat) (a0 : Nat) (a1 : Int) (a2 : Int) (a3 : Int) (h : zv_H) : L9_childrenOf_4 d a0 a1 a2 a3 h =
  (if a3 < (48 : Int) then
    ((C9_isState d a0 a3 h).bind fun q1 =>
    (if q1.1 = 0 then
      L9_childrenOf_4 d a0 a1 (zv_w (a2 + (0 : Int))) (zv_w (a3 + 1)) q1.2
    else
      ((C9_of d a0 a3 (1 : Int) q1.2).bind fun q2 =>
      (if q2.1 = a1 then
        L9_childrenOf_4 d a0 a1 (zv_w (a2 + (1 : Int))) (zv_w (a3 + 1)) q2.2
      else
        L9_childrenOf_4 d a0 a1 (zv_w (a2 + (0 : Int))) (zv_w (a3 + 1)) q2.2))))
  else
    (some (some (zv_i a2), h))) := by
  refine (zy_lim_eq zyS9_childrenOf _ _ _ _).trans ?_
  rfl
theorem zyS9_freeState : zy_srt 0 mc9_freeState.2.1 = true := by decide +kernel
set_option maxRecDepth 100000 in
theorem qE9_freeState (d : Nat) (a0 : Nat) (h : zv_H) : E9_freeState d a0 h =
  L9_freeState_2 d a0 (0 : Int) h := by
  refine (zy_lim_eq zyS9_freeState _ _ _ _).trans ?_
  rfl
set_option maxRecDepth 100000 in
theorem qL9_freeState_2 (d : Nat) (a0 : Nat) (a1 : Int) (h : zv_H) : L9_freeState_2 d a0 a1 h =
  (if a1 < (48 : Int) then
    ((C9_of d a0 a1 (0 : Int) h).bind fun q1 =>
    (if q1.1 = (1 : Int) then
      L9_freeState_2 d a0 (zv_w (a1 + 1)) q1.2
    else
      (some (some (zv_i a1), q1.2))))
  else
    (some (some (zv_i a1), h))) := by
  refine (zy_lim_eq zyS9_freeState _ _ _ _).trans ?_
  rfl
theorem zyS9_isNear : zy_srt 0 mc9_isNear.2.1 = true := by decide +kernel
set_option maxRecDepth 100000 in
theorem qE9_isNear (d : Nat) (a0 : Nat) (a1 : Int) (a2 : Int) (a3 : Int) (a4 : Int) (h : zv_H) : E9_isNear d a0 a1 a2 a3 a4 h =
  ((C9_of d a0 a4 (2 : Int) h).bind fun q1 =>
  (if q1.1 = 0 then
    L9_isNear_15 d a0 a1 a2 a3 a4 (1 : Int) q1.2
  else
    L9_isNear_15 d a0 a1 a2 a3 a4 (0 : Int) q1.2)) := by
  refine (zy_lim_eq zyS9_isNear _ _ _ _).trans ?_
  rfl
set_option maxRecDepth 100000 in
theorem qL9_isNear_15 (d : Nat) (a0 : Nat) (a1 : Int) (a2 : Int) (a3 : Int) (a4 : Int) (e0 : Int) (h : zv_H) : L9_isNear_15 d a0 a1 a2 a3 a4 e0 h =
  ((C9_of d a0 a4 (4 : Int) h).bind fun q1 =>
  ((C9_of d a0 a4 (5 : Int) q1.2).bind fun q2 =>
  (if a1 = 0 then
    (if e0 = 0 then
      (if a2 = q1.1 then
        (some (some (zv_i (1 : Int)), q2.2))
      else
        (some (some (zv_i (0 : Int)), q2.2)))
    else
      (if a2 = (zv_w (q1.1 + q2.1)) then
        (some (some (zv_i (1 : Int)), q2.2))
      else
        (some (some (zv_i (0 : Int)), q2.2))))
  else
    (if e0 = 0 then
      (if a2 = q1.1 then
        (some (some (zv_i (1 : Int)), q2.2))
      else
        (if (zv_w (a2 + a3)) = q1.1 then
          (some (some (zv_i (1 : Int)), q2.2))
        else
          (some (some (zv_i (0 : Int)), q2.2))))
    else
      (if (zv_w (a2 + a3)) = (zv_w (q1.1 + q2.1)) then
        (some (some (zv_i (1 : Int)), q2.2))
      else
        (some (some (zv_i (0 : Int)), q2.2))))))) := by
  refine (zy_lim_eq zyS9_isNear _ _ _ _).trans ?_
  rfl
theorem zyS9_compares : zy_srt 0 mc9_compares.2.1 = true := by decide +kernel
set_option maxRecDepth 100000 in
theorem qE9_compares (d : Nat) (a0 : Int) (a1 : Int) (a2 : Int) (h : zv_H) : E9_compares d a0 a1 a2 h =
  (if a0 = 0 then
    (if a1 < a2 then
      (some (some (zv_i (1 : Int)), h))
    else
      (some (some (zv_i (0 : Int)), h)))
  else
    (if a0 = (1 : Int) then
      (if a1 = a2 then
        (some (some (zv_i (1 : Int)), h))
      else
        (some (some (zv_i (0 : Int)), h)))
    else
      (if a1 ≤ a2 then
        (some (some (zv_i (0 : Int)), h))
      else
        (some (some (zv_i (1 : Int)), h))))) := by
  refine (zy_lim_eq zyS9_compares _ _ _ _).trans ?_
  rfl
theorem zyS9_holds : zy_srt 0 mc9_holds.2.1 = true := by decide +kernel
set_option maxRecDepth 100000 in
theorem qE9_holds (d : Nat) (a0 : Nat) (h : zv_H) : E9_holds d a0 h =
  ((zv_gR h a0 9 0).bind fun v1 =>
  ((zv_aI h v1 (4 : Int)).bind fun v2 =>
  (if v2 = 0 then
    ((zv_gR h a0 9 15).bind fun v3 =>
    ((zv_aI h v3 (0 : Int)).bind fun v4 =>
    (if v4 < (3 : Int) then
      ((zv_gR h a0 9 15).bind fun v5 =>
      ((zv_aI h v5 (3 : Int)).bind fun v6 =>
      (if v6 = (1 : Int) then
        ((zv_gR h a0 9 15).bind fun v7 =>
        ((zv_aI h v7 (4 : Int)).bind fun v8 =>
        (if v8 = (1 : Int) then
          ((zv_gR h a0 9 15).bind fun v9 =>
          ((zv_aI h v9 (1 : Int)).bind fun v10 =>
          (if v10 < (8 : Int) then
            (some (some (zv_i (1 : Int)), h))
          else
            (some (some (zv_i (0 : Int)), h)))))
        else
          (some (some (zv_i (0 : Int)), h)))))
      else
        (some (some (zv_i (0 : Int)), h)))))
    else
      (some (some (zv_i (0 : Int)), h)))))
  else
    L9_holds_60 d a0 (0 : Int) (0 : Int) h))) := by
  refine (zy_lim_eq zyS9_holds _ _ _ _).trans ?_
  rfl
set_option maxRecDepth 100000 in
theorem qL9_holds_60 (d : Nat) (a0 : Nat) (a1 : Int) (a2 : Int) (h : zv_H) : L9_holds_60 d a0 a1 a2 h =
  ((zv_gR h a0 9 0).bind fun v1 =>
  ((zv_aI h v1 (4 : Int)).bind fun v2 =>
  (if a2 < v2 then
    ((zv_gR h a0 9 0).bind fun v3 =>
    ((zv_aI h v3 (zv_w ((8 : Int) + a2))).bind fun v4 =>
    (if v4 < 0 then
      (if v4 = (-1 : Int) then
        ((zv_gR h a0 9 16).bind fun v5 =>
        ((zv_gR h a0 9 16).bind fun v6 =>
        ((zv_aB h v6 (zv_w (a1 - (1 : Int)))).bind fun v7 =>
        (if v7 = 0 then
          ((zv_wB h v5 (zv_w (a1 - (1 : Int))) (1 : Int)).bind fun g8 =>
          L9_holds_60 d a0 a1 (zv_w (a2 + 1)) g8)
        else
          ((zv_wB h v5 (zv_w (a1 - (1 : Int))) (0 : Int)).bind fun g9 =>
          L9_holds_60 d a0 a1 (zv_w (a2 + 1)) g9)))))
      else
        ((zv_gR h a0 9 16).bind fun v10 =>
        (if v4 = (-2 : Int) then
          ((zv_gR h a0 9 16).bind fun v11 =>
          ((zv_aB h v11 (zv_w ((zv_w (a1 + (-1))) - (1 : Int)))).bind fun v12 =>
          (if v12 = 0 then
            ((zv_wB h v10 (zv_w ((zv_w (a1 + (-1))) - (1 : Int))) (0 : Int)).bind fun g13 =>
            L9_holds_60 d a0 (zv_w (a1 + (-1))) (zv_w (a2 + 1)) g13)
          else
            ((zv_gR h a0 9 16).bind fun v14 =>
            ((zv_aB h v14 (zv_w (a1 + (-1)))).bind fun v15 =>
            (if v15 = 0 then
              ((zv_wB h v10 (zv_w ((zv_w (a1 + (-1))) - (1 : Int))) (0 : Int)).bind fun g16 =>
              L9_holds_60 d a0 (zv_w (a1 + (-1))) (zv_w (a2 + 1)) g16)
            else
              ((zv_wB h v10 (zv_w ((zv_w (a1 + (-1))) - (1 : Int))) (1 : Int)).bind fun g17 =>
              L9_holds_60 d a0 (zv_w (a1 + (-1))) (zv_w (a2 + 1)) g17)))))))
        else
          ((zv_gR h a0 9 16).bind fun v18 =>
          ((zv_aB h v18 (zv_w ((zv_w (a1 + (-1))) - (1 : Int)))).bind fun v19 =>
          (if v19 = 0 then
            ((zv_gR h a0 9 16).bind fun v20 =>
            ((zv_aB h v20 (zv_w (a1 + (-1)))).bind fun v21 =>
            (if v21 = 0 then
              ((zv_wB h v10 (zv_w ((zv_w (a1 + (-1))) - (1 : Int))) (0 : Int)).bind fun g22 =>
              L9_holds_60 d a0 (zv_w (a1 + (-1))) (zv_w (a2 + 1)) g22)
            else
              ((zv_wB h v10 (zv_w ((zv_w (a1 + (-1))) - (1 : Int))) (1 : Int)).bind fun g23 =>
              L9_holds_60 d a0 (zv_w (a1 + (-1))) (zv_w (a2 + 1)) g23))))
          else
            ((zv_wB h v10 (zv_w ((zv_w (a1 + (-1))) - (1 : Int))) (1 : Int)).bind fun g24 =>
            L9_holds_60 d a0 (zv_w (a1 + (-1))) (zv_w (a2 + 1)) g24)))))))
    else
      ((zv_gR h a0 9 16).bind fun v25 =>
      ((zv_gR h a0 9 15).bind fun v26 =>
      ((zv_aI h v26 ((v4).tmod (6 : Int))).bind fun v27 =>
      ((C9_compares d (((zv_w ((v4).tdiv (6 : Int)))).tmod (3 : Int)) v27 (zv_w ((v4).tdiv (18 : Int))) h).bind fun q28 =>
      ((zv_wB q28.2 v25 a1 q28.1).bind fun g29 =>
      L9_holds_60 d a0 (zv_w (a1 + 1)) (zv_w (a2 + 1)) g29))))))))
  else
    ((zv_gR h a0 9 16).bind fun v30 =>
    ((zv_aB h v30 (0 : Int)).bind fun v31 =>
    (if v31 = 0 ∨ v31 = 1 then some (some (zv_i v31), h) else none)))))) := by
  refine (zy_lim_eq zyS9_holds _ _ _ _).trans ?_
  rfl
theorem zyS9_joins : zy_srt 0 mc9_joins.2.1 = true := by decide +kernel
set_option maxRecDepth 100000 in
theorem qE9_joins (d : Nat) (a0 : Nat) (a1 : Int) (a2 : Int) (a3 : Int) (h : zv_H) : E9_joins d a0 a1 a2 a3 h =
  ((C9_here d a0 h).bind fun q1 =>
  ((C9_isEdit d a0 q1.1 q1.2).bind fun q2 =>
  (if q2.1 = 0 then
    (some (some (zv_i (0 : Int)), q2.2))
  else
    ((zv_gR q2.2 a0 9 15).bind fun v3 =>
    ((zv_gR q2.2 a0 9 0).bind fun v4 =>
    ((zv_aI q2.2 v4 (1 : Int)).bind fun v5 =>
    ((C9_of d a0 q1.1 (3 : Int) q2.2).bind fun q6 =>
    ((zv_wI q6.2 v3 (0 : Int) (zv_w (v5 - q6.1))).bind fun g7 =>
    ((zv_gR g7 a0 9 15).bind fun v8 =>
    ((C9_depthOf d a0 q1.1 g7).bind fun q9 =>
    ((C9_of d a0 q1.1 (6 : Int) q9.2).bind fun q10 =>
    ((C9_depthOf d a0 q10.1 q10.2).bind fun q11 =>
    ((zv_wI q11.2 v8 (1 : Int) (zv_w ((zv_w (q9.1 - q11.1)) + (1 : Int)))).bind fun g12 =>
    ((zv_gR g12 a0 9 15).bind fun v13 =>
    ((zv_wI g12 v13 (2 : Int) a1).bind fun g14 =>
    ((zv_gR g14 a0 9 15).bind fun v15 =>
    ((C9_of d a0 q1.1 (2 : Int) g14).bind fun q16 =>
    (if q16.1 = a1 then
      L9_joins_92 d a0 a1 a2 a3 q1.1 v15 (3 : Int) (1 : Int) q16.2
    else
      L9_joins_92 d a0 a1 a2 a3 q1.1 v15 (3 : Int) (0 : Int) q16.2)))))))))))))))))) := by
  refine (zy_lim_eq zyS9_joins _ _ _ _).trans ?_
  rfl
set_option maxRecDepth 100000 in
theorem qL9_joins_92 (d : Nat) (a0 : Nat) (a1 : Int) (a2 : Int) (a3 : Int) (a4 : Int) (e0 : Nat) (e1 : Int) (e2 : Int) (h : zv_H) : L9_joins_92 d a0 a1 a2 a3 a4 e0 e1 e2 h =
  ((zv_wI h e0 e1 e2).bind fun g1 =>
  ((zv_gR g1 a0 9 15).bind fun v2 =>
  ((C9_isNear d a0 a1 a2 a3 a4 g1).bind fun q3 =>
  (if q3.1 = 0 then
    L9_joins_115 d a0 a3 v2 (4 : Int) (0 : Int) q3.2
  else
    L9_joins_115 d a0 a3 v2 (4 : Int) (1 : Int) q3.2)))) := by
  refine (zy_lim_eq zyS9_joins _ _ _ _).trans ?_
  rfl
set_option maxRecDepth 100000 in
theorem qL9_joins_115 (d : Nat) (a0 : Nat) (a3 : Int) (e0 : Nat) (e1 : Int) (e2 : Int) (h : zv_H) : L9_joins_115 d a0 a3 e0 e1 e2 h =
  ((zv_wI h e0 e1 e2).bind fun g1 =>
  ((zv_gR g1 a0 9 15).bind fun v2 =>
  ((zv_wI g1 v2 (5 : Int) a3).bind fun g3 =>
  ((C9_holds d a0 g3).bind fun q4 =>
  (if q4.1 = 0 ∨ q4.1 = 1 then some (some (zv_i q4.1), q4.2) else none))))) := by
  refine (zy_lim_eq zyS9_joins _ _ _ _).trans ?_
  rfl
theorem zyS9_begins : zy_srt 0 mc9_begins.2.1 = true := by decide +kernel
set_option maxRecDepth 100000 in
theorem qE9_begins (d : Nat) (a0 : Nat) (a1 : Int) (a2 : Int) (a3 : Int) (a4 : Int) (a5 : Int) (h : zv_H) : E9_begins d a0 a1 a2 a3 a4 a5 h =
  L9_begins_3 d a0 a1 a2 a3 a4 a5 (0 : Int) h := by
  refine (zy_lim_eq zyS9_begins _ _ _ _).trans ?_
  rfl
set_option maxRecDepth 100000 in
theorem qL9_begins_3 (d : Nat) (a0 : Nat) (a1 : Int) (a2 : Int) (a3 : Int) (a4 : Int) (a5 : Int) (a6 : Int) (h : zv_H) : L9_begins_3 d a0 a1 a2 a3 a4 a5 a6 h =
  (if a6 < (76 : Int) then
    ((C9_sets d a0 a1 a6 (0 : Int) h).bind fun g1 =>
    L9_begins_3 d a0 a1 a2 a3 a4 a5 (zv_w (a6 + 1)) g1)
  else
    ((C9_sets d a0 a1 (0 : Int) (1 : Int) h).bind fun g2 =>
    ((C9_here d a0 g2).bind fun q3 =>
    ((C9_sets d a0 a1 (1 : Int) q3.1 q3.2).bind fun g4 =>
    ((C9_sets d a0 a1 (2 : Int) a2 g4).bind fun g5 =>
    ((zv_gR g5 a0 9 0).bind fun v6 =>
    ((zv_aI g5 v6 (1 : Int)).bind fun v7 =>
    ((C9_sets d a0 a1 (3 : Int) v7 g5).bind fun g8 =>
    ((C9_sets d a0 a1 (4 : Int) a3 g8).bind fun g9 =>
    ((C9_sets d a0 a1 (5 : Int) a4 g9).bind fun g10 =>
    (if a5 = 0 then
      L9_begins_98 d a0 a1 a0 a1 (6 : Int) a1 g10
    else
      ((C9_here d a0 g10).bind fun q11 =>
      ((C9_of d a0 q11.1 (6 : Int) q11.2).bind fun q12 =>
      L9_begins_98 d a0 a1 a0 a1 (6 : Int) q12.1 q12.2))))))))))))) := by
  refine (zy_lim_eq zyS9_begins _ _ _ _).trans ?_
  rfl
set_option maxRecDepth 100000 in
theorem qL9_begins_98 (d : Nat) (a0 : Nat) (a1 : Int) (e0 : Nat) (e1 : Int) (e2 : Int) (e3 : Int) (h : zv_H) : L9_begins_98 d a0 a1 e0 e1 e2 e3 h =
  ((C9_sets d e0 e1 e2 e3 h).bind fun g1 =>
  ((C9_sets d a0 a1 (8 : Int) (-1 : Int) g1).bind fun g2 =>
  (some (none, g2)))) := by
  refine (zy_lim_eq zyS9_begins _ _ _ _).trans ?_
  rfl
theorem zyS9_packed : zy_srt 0 mc9_packed.2.1 = true := by decide +kernel
set_option maxRecDepth 100000 in
theorem qE9_packed (d : Nat) (a0 : Nat) (a1 : Int) (h : zv_H) : E9_packed d a0 a1 h =
  L9_packed_4 d a0 a1 (0 : Int) (0 : Int) h := by
  refine (zy_lim_eq zyS9_packed _ _ _ _).trans ?_
  rfl
set_option maxRecDepth 100000 in
theorem qL9_packed_4 (d : Nat) (a0 : Nat) (a1 : Int) (a2 : Int) (a3 : Int) (h : zv_H) : L9_packed_4 d a0 a1 a2 a3 h =
  (if a3 < a1 then
    ((zv_aI h a0 a3).bind fun v1 =>
    L9_packed_4 d a0 a1 (zv_w ((zv_w ((zv_w ((32 : Int) * a2)) + v1)) + (1 : Int))) (zv_w (a3 + 1)) h)
  else
    (some (some (zv_i a2), h))) := by
  refine (zy_lim_eq zyS9_packed _ _ _ _).trans ?_
  rfl
theorem zyS9_nameAt : zy_srt 0 mc9_nameAt.2.1 = true := by decide +kernel
set_option maxRecDepth 100000 in
theorem qE9_nameAt (d : Nat) (a0 : Nat) (a1 : Int) (h : zv_H) : E9_nameAt d a0 a1 h =
  L9_nameAt_2 d a0 a1 (0 : Int) h := by
  refine (zy_lim_eq zyS9_nameAt _ _ _ _).trans ?_
  rfl
set_option maxRecDepth 100000 in
theorem qL9_nameAt_2 (d : Nat) (a0 : Nat) (a1 : Int) (a2 : Int) (h : zv_H) : L9_nameAt_2 d a0 a1 a2 h =
  ((zv_gR h a0 9 0).bind fun v1 =>
  ((zv_aI h v1 (3 : Int)).bind fun v2 =>
  (if a2 < v2 then
    ((zv_gR h a0 9 0).bind fun v3 =>
    ((zv_aI h v3 (zv_w ((408 : Int) + (zv_w ((2 : Int) * a2))))).bind fun v4 =>
    (if v4 = a1 then
      (some (some (zv_i a2), h))
    else
      L9_nameAt_2 d a0 a1 (zv_w (a2 + 1)) h)))
  else
    (some (some (zv_i (-1 : Int)), h))))) := by
  refine (zy_lim_eq zyS9_nameAt _ _ _ _).trans ?_
  rfl
theorem zyS9_type : zy_srt 0 mc9_type.2.1 = true := by decide +kernel
set_option maxRecDepth 100000 in
theorem qE9_type (d : Nat) (a0 : Nat) (a1 : Int) (a2 : Int) (h : zv_H) : E9_type d a0 a1 a2 h =
  ((zv_pI h a0 9 4 (0 : Int)).bind fun g1 =>
  L9_type_13 d a0 a1 a2 (0 : Int) (1 : Int) (0 : Int) g1) := by
  refine (zy_lim_eq zyS9_type _ _ _ _).trans ?_
  rfl
set_option maxRecDepth 100000 in
theorem qL9_type_13 (d : Nat) (a0 : Nat) (a1 : Int) (a2 : Int) (a3 : Int) (a4 : Int) (a5 : Int) (h : zv_H) : L9_type_13 d a0 a1 a2 a3 a4 a5 h =
  (if a5 < (12 : Int) then
    (if a4 = 0 then
      L9_type_103 d a0 a3 (0 : Int) h
    else
      (if a5 < (6 : Int) then
        L9_type_37 d a0 a1 a2 a3 a5 a1 h
      else
        L9_type_37 d a0 a1 a2 a3 a5 a2 h))
  else
    L9_type_103 d a0 a3 (0 : Int) h) := by
  refine (zy_lim_eq zyS9_type _ _ _ _).trans ?_
  rfl
set_option maxRecDepth 100000 in
theorem qL9_type_37 (d : Nat) (a0 : Nat) (a1 : Int) (a2 : Int) (a3 : Int) (a5 : Int) (e0 : Int) (h : zv_H) : L9_type_37 d a0 a1 a2 a3 a5 e0 h =
  (if (zv_and (zv_ushr e0 (zv_w ((5 : Int) * ((a5).tmod (6 : Int))))) (31 : Int)) ≤ (26 : Int) then
    (if (zv_and (zv_ushr e0 (zv_w ((5 : Int) * ((a5).tmod (6 : Int))))) (31 : Int)) ≤ 0 then
      L9_type_69 d a0 a1 a2 a3 a5 (zv_and (zv_ushr e0 (zv_w ((5 : Int) * ((a5).tmod (6 : Int))))) (31 : Int)) (0 : Int) h
    else
      L9_type_69 d a0 a1 a2 a3 a5 (zv_and (zv_ushr e0 (zv_w ((5 : Int) * ((a5).tmod (6 : Int))))) (31 : Int)) (1 : Int) h)
  else
    (some (some (zv_i (-1 : Int)), h))) := by
  refine (zy_lim_eq zyS9_type _ _ _ _).trans ?_
  rfl
set_option maxRecDepth 100000 in
theorem qL9_type_69 (d : Nat) (a0 : Nat) (a1 : Int) (a2 : Int) (a3 : Int) (a5 : Int) (a6 : Int) (e0 : Int) (h : zv_H) : L9_type_69 d a0 a1 a2 a3 a5 a6 e0 h =
  ((zv_gR h a0 9 17).bind fun v1 =>
  ((zv_wI h v1 a3 (zv_w (a6 - (1 : Int)))).bind fun g2 =>
  (if e0 = 0 then
    L9_type_13 d a0 a1 a2 (zv_w (a3 + (0 : Int))) e0 (zv_w (a5 + 1)) g2
  else
    L9_type_13 d a0 a1 a2 (zv_w (a3 + (1 : Int))) e0 (zv_w (a5 + 1)) g2))) := by
  refine (zy_lim_eq zyS9_type _ _ _ _).trans ?_
  rfl
set_option maxRecDepth 100000 in
theorem qL9_type_103 (d : Nat) (a0 : Nat) (a3 : Int) (a5 : Int) (h : zv_H) : L9_type_103 d a0 a3 a5 h =
  (if a5 < a3 then
    ((zv_gR h a0 9 18).bind fun v1 =>
    ((zv_gR h a0 9 17).bind fun v2 =>
    ((zv_aI h v2 a5).bind fun v3 =>
    ((zv_wI h v1 a5 v3).bind fun g4 =>
    L9_type_103 d a0 a3 (zv_w (a5 + 1)) g4))))
  else
    ((zv_pI h a0 9 20 a3).bind fun g5 =>
    (some (some (zv_i a3), g5)))) := by
  refine (zy_lim_eq zyS9_type _ _ _ _).trans ?_
  rfl
theorem zyS9_hand : zy_srt 0 mc9_hand.2.1 = true := by decide +kernel
set_option maxRecDepth 100000 in
theorem qE9_hand (d : Nat) (a0 : Nat) (h : zv_H) : E9_hand d a0 h =
  L9_hand_2 d a0 (0 : Int) h := by
  refine (zy_lim_eq zyS9_hand _ _ _ _).trans ?_
  rfl
set_option maxRecDepth 100000 in
theorem qL9_hand_2 (d : Nat) (a0 : Nat) (a1 : Int) (h : zv_H) : L9_hand_2 d a0 a1 h =
  ((zv_gI h a0 9 20).bind fun v1 =>
  (if a1 < v1 then
    ((zv_gR h a0 9 17).bind fun v2 =>
    ((zv_gR h a0 9 18).bind fun v3 =>
    ((zv_aI h v3 a1).bind fun v4 =>
    ((zv_wI h v2 a1 v4).bind fun g5 =>
    L9_hand_2 d a0 (zv_w (a1 + 1)) g5))))
  else
    ((zv_gI h a0 9 20).bind fun v6 =>
    ((zv_pI h a0 9 19 v6).bind fun g7 =>
    (some (none, g7)))))) := by
  refine (zy_lim_eq zyS9_hand _ _ _ _).trans ?_
  rfl
theorem zyS9_putNow : zy_srt 0 mc9_putNow.2.1 = true := by decide +kernel
set_option maxRecDepth 100000 in
theorem qE9_putNow (d : Nat) (a0 : Nat) (a1 : Int) (h : zv_H) : E9_putNow d a0 a1 h =
  ((C9_here d a0 h).bind fun q1 =>
  ((C9_lettersOf d a0 q1.1 q1.2).bind fun q2 =>
  ((C9_isIn d a1 (0 : Int) q2.1 q2.2).bind fun q3 =>
  (if q3.1 = 0 then
    L9_putNow_25 d a0 q3.2
  else
    ((zv_gI q3.2 a0 9 19).bind fun v4 =>
    (if v4 = 0 then
      L9_putNow_25 d a0 q3.2
    else
      ((C9_states d a0 q3.2).bind fun q5 =>
      (if q5.1 = (48 : Int) then
        ((C9_refuse d a0 (3 : Int) q5.2).bind fun q6 =>
        (some (some (zv_i q6.1), q6.2)))
      else
        ((zv_gI q5.2 a0 9 19).bind fun v7 =>
        (if (zv_w (q2.1 + v7)) ≤ (120 : Int) then
          ((C9_freeState d a0 q5.2).bind fun q8 =>
          (if a1 = 0 then
            L9_putNow_84 d a0 a1 q8.1 (-1 : Int) q8.2
          else
            ((C9_rowPlace d a0 (zv_w (a1 - (1 : Int))) q8.2).bind fun q9 =>
            L9_putNow_84 d a0 a1 q8.1 q9.1 q9.2)))
        else
          ((C9_refuse d a0 (6 : Int) q5.2).bind fun q10 =>
          (some (some (zv_i q10.1), q10.2))))))))))))) := by
  refine (zy_lim_eq zyS9_putNow _ _ _ _).trans ?_
  rfl
set_option maxRecDepth 100000 in
theorem qL9_putNow_25 (d : Nat) (a0 : Nat) (h : zv_H) : L9_putNow_25 d a0 h =
  ((C9_refuse d a0 (1 : Int) h).bind fun q1 =>
  (some (some (zv_i q1.1), q1.2))) := by
  refine (zy_lim_eq zyS9_putNow _ _ _ _).trans ?_
  rfl
set_option maxRecDepth 100000 in
theorem qL9_putNow_84 (d : Nat) (a0 : Nat) (a1 : Int) (a3 : Int) (e0 : Int) (h : zv_H) : L9_putNow_84 d a0 a1 a3 e0 h =
  ((zv_gI h a0 9 19).bind fun v1 =>
  ((zv_gI h a0 9 19).bind fun v2 =>
  ((C9_joins d a0 (0 : Int) a1 v2 h).bind fun q3 =>
  ((C9_begins d a0 a3 (0 : Int) a1 v1 q3.1 q3.2).bind fun g4 =>
  L9_putNow_110 d a0 a3 e0 (0 : Int) g4)))) := by
  refine (zy_lim_eq zyS9_putNow _ _ _ _).trans ?_
  rfl
set_option maxRecDepth 100000 in
theorem qL9_putNow_110 (d : Nat) (a0 : Nat) (a3 : Int) (a4 : Int) (a5 : Int) (h : zv_H) : L9_putNow_110 d a0 a3 a4 a5 h =
  ((zv_gI h a0 9 19).bind fun v1 =>
  (if a5 < v1 then
    ((zv_gR h a0 9 17).bind fun v2 =>
    ((zv_aI h v2 a5).bind fun v3 =>
    ((C9_sets d a0 a3 (zv_w ((12 : Int) + a5)) v3 h).bind fun g4 =>
    L9_putNow_110 d a0 a3 a4 (zv_w (a5 + 1)) g4)))
  else
    (if a4 < 0 then
      L9_putNow_175 d a0 a3 h
    else
      ((zv_gR h a0 9 6).bind fun v5 =>
      ((zv_aI h v5 a4).bind fun v6 =>
      ((C9_sets d a0 a3 (8 : Int) v6 h).bind fun g7 =>
      ((zv_gR g7 a0 9 7).bind fun v8 =>
      ((zv_aI g7 v8 a4).bind fun v9 =>
      ((C9_sets d a0 a3 (9 : Int) v9 g7).bind fun g10 =>
      L9_putNow_175 d a0 a3 g10))))))))) := by
  refine (zy_lim_eq zyS9_putNow _ _ _ _).trans ?_
  rfl
set_option maxRecDepth 100000 in
theorem qL9_putNow_175 (d : Nat) (a0 : Nat) (a3 : Int) (h : zv_H) : L9_putNow_175 d a0 a3 h =
  ((C9_visits d a0 a3 h).bind fun g1 =>
  (some (some (zv_i a3), g1))) := by
  refine (zy_lim_eq zyS9_putNow _ _ _ _).trans ?_
  rfl
theorem zyS9_cutNow : zy_srt 0 mc9_cutNow.2.1 = true := by decide +kernel
set_option maxRecDepth 100000 in
theorem qE9_cutNow (d : Nat) (a0 : Nat) (a1 : Int) (a2 : Int) (h : zv_H) : E9_cutNow d a0 a1 a2 h =
  ((C9_isIn d a2 (1 : Int) (12 : Int) h).bind fun q1 =>
  (if q1.1 = 0 then
    L9_cutNow_14 d a0 q1.2
  else
    (if a1 < 0 then
      L9_cutNow_14 d a0 q1.2
    else
      ((C9_here d a0 q1.2).bind fun q2 =>
      ((C9_lettersOf d a0 q2.1 q2.2).bind fun q3 =>
      (if a2 ≤ (zv_w (q3.1 - a1)) then
        ((C9_states d a0 q3.2).bind fun q4 =>
        (if q4.1 = (48 : Int) then
          ((C9_refuse d a0 (3 : Int) q4.2).bind fun q5 =>
          (some (some (zv_i q5.1), q5.2)))
        else
          ((C9_freeState d a0 q4.2).bind fun q6 =>
          ((C9_joins d a0 (1 : Int) a1 a2 q6.2).bind fun q7 =>
          ((C9_begins d a0 q6.1 (1 : Int) a1 a2 q7.1 q7.2).bind fun g8 =>
          L9_cutNow_78 d a0 a1 a2 q6.1 (0 : Int) g8)))))
      else
        ((C9_refuse d a0 (5 : Int) q3.2).bind fun q9 =>
        (some (some (zv_i q9.1), q9.2))))))))) := by
  refine (zy_lim_eq zyS9_cutNow _ _ _ _).trans ?_
  rfl
set_option maxRecDepth 100000 in
theorem qL9_cutNow_14 (d : Nat) (a0 : Nat) (h : zv_H) : L9_cutNow_14 d a0 h =
  ((C9_refuse d a0 (1 : Int) h).bind fun q1 =>
  (some (some (zv_i q1.1), q1.2))) := by
  refine (zy_lim_eq zyS9_cutNow _ _ _ _).trans ?_
  rfl
set_option maxRecDepth 100000 in
theorem qL9_cutNow_78 (d : Nat) (a0 : Nat) (a1 : Int) (a2 : Int) (a3 : Int) (a4 : Int) (h : zv_H) : L9_cutNow_78 d a0 a1 a2 a3 a4 h =
  (if a4 < a2 then
    ((C9_rowPlace d a0 (zv_w (a1 + a4)) h).bind fun q1 =>
    ((zv_gR q1.2 a0 9 6).bind fun v2 =>
    ((zv_aI q1.2 v2 q1.1).bind fun v3 =>
    ((C9_sets d a0 a3 (zv_w ((52 : Int) + (zv_w ((2 : Int) * a4)))) v3 q1.2).bind fun g4 =>
    ((zv_gR g4 a0 9 7).bind fun v5 =>
    ((zv_aI g4 v5 q1.1).bind fun v6 =>
    ((C9_sets d a0 a3 (zv_w ((zv_w ((52 : Int) + (zv_w ((2 : Int) * a4)))) + (1 : Int))) v6 g4).bind fun g7 =>
    L9_cutNow_78 d a0 a1 a2 a3 (zv_w (a4 + 1)) g7)))))))
  else
    ((C9_visits d a0 a3 h).bind fun g8 =>
    (some (some (zv_i a3), g8)))) := by
  refine (zy_lim_eq zyS9_cutNow _ _ _ _).trans ?_
  rfl
theorem zyS9_plain : zy_srt 0 mc9_plain.2.1 = true := by decide +kernel
set_option maxRecDepth 100000 in
theorem qE9_plain (d : Nat) (a0 : Nat) (h : zv_H) : E9_plain d a0 h =
  L9_plain_2 d a0 (0 : Int) h := by
  refine (zy_lim_eq zyS9_plain _ _ _ _).trans ?_
  rfl
set_option maxRecDepth 100000 in
theorem qL9_plain_2 (d : Nat) (a0 : Nat) (a1 : Int) (h : zv_H) : L9_plain_2 d a0 a1 h =
  (if a1 < (48 : Int) then
    ((zv_gR h a0 9 21).bind fun v1 =>
    ((zv_wI h v1 a1 a1).bind fun g2 =>
    L9_plain_2 d a0 (zv_w (a1 + 1)) g2))
  else
    (some (none, h))) := by
  refine (zy_lim_eq zyS9_plain _ _ _ _).trans ?_
  rfl
theorem zyS9_carries : zy_srt 0 mc9_carries.2.1 = true := by decide +kernel
set_option maxRecDepth 100000 in
theorem qE9_carries (d : Nat) (a0 : Nat) (a1 : Int) (h : zv_H) : E9_carries d a0 a1 h =
  ((C9_of d a0 a1 (2 : Int) h).bind fun q1 =>
  (if q1.1 = (1 : Int) then
    ((C9_carriesCut d a0 a1 q1.2).bind fun q2 =>
    (some (some (zv_i q2.1), q2.2)))
  else
    ((C9_here d a0 q1.2).bind fun q3 =>
    ((C9_sees d a0 q3.1 q3.2).bind fun g4 =>
    ((C9_of d a0 a1 (8 : Int) g4).bind fun q5 =>
    (if q5.1 < 0 then
      L9_carries_104 d a0 a1 (0 : Int) q5.2
    else
      ((zv_gR q5.2 a0 9 21).bind fun v6 =>
      ((C9_of d a0 a1 (8 : Int) q5.2).bind fun q7 =>
      ((zv_aI q7.2 v6 q7.1).bind fun v8 =>
      ((C9_of d a0 a1 (9 : Int) q7.2).bind fun q9 =>
      ((C9_rowOf d a0 v8 q9.1 q9.2).bind fun q10 =>
      (if q10.1 < 0 then
        ((C9_refuse d a0 (10 : Int) q10.2).bind fun q11 =>
        (some (some (zv_i q11.1), q11.2)))
      else
        L9_carries_74 d a0 a1 (0 : Int) q10.1 (0 : Int) q10.2)))))))))))) := by
  refine (zy_lim_eq zyS9_carries _ _ _ _).trans ?_
  rfl
set_option maxRecDepth 100000 in
theorem qL9_carries_74 (d : Nat) (a0 : Nat) (a1 : Int) (a2 : Int) (a3 : Int) (a4 : Int) (h : zv_H) : L9_carries_74 d a0 a1 a2 a3 a4 h =
  (if a4 ≤ a3 then
    ((zv_gR h a0 9 9).bind fun v1 =>
    ((zv_aB h v1 a4).bind fun v2 =>
    (if v2 = 0 then
      L9_carries_74 d a0 a1 (zv_w (a2 + (0 : Int))) a3 (zv_w (a4 + 1)) h
    else
      L9_carries_74 d a0 a1 (zv_w (a2 + (1 : Int))) a3 (zv_w (a4 + 1)) h)))
  else
    L9_carries_104 d a0 a1 a2 h) := by
  refine (zy_lim_eq zyS9_carries _ _ _ _).trans ?_
  rfl
set_option maxRecDepth 100000 in
theorem qL9_carries_104 (d : Nat) (a0 : Nat) (a1 : Int) (a2 : Int) (h : zv_H) : L9_carries_104 d a0 a1 a2 h =
  ((C9_of d a0 a1 (5 : Int) h).bind fun q1 =>
  ((zv_pI q1.2 a0 9 19 q1.1).bind fun g2 =>
  L9_carries_116 d a0 a1 a2 (0 : Int) g2)) := by
  refine (zy_lim_eq zyS9_carries _ _ _ _).trans ?_
  rfl
set_option maxRecDepth 100000 in
theorem qL9_carries_116 (d : Nat) (a0 : Nat) (a1 : Int) (a2 : Int) (a3 : Int) (h : zv_H) : L9_carries_116 d a0 a1 a2 a3 h =
  ((zv_gI h a0 9 19).bind fun v1 =>
  (if a3 < v1 then
    ((zv_gR h a0 9 17).bind fun v2 =>
    ((C9_of d a0 a1 (zv_w ((12 : Int) + a3)) h).bind fun q3 =>
    ((zv_wI q3.2 v2 a3 q3.1).bind fun g4 =>
    L9_carries_116 d a0 a1 a2 (zv_w (a3 + 1)) g4)))
  else
    ((C9_putNow d a0 a2 h).bind fun q5 =>
    (some (some (zv_i q5.1), q5.2))))) := by
  refine (zy_lim_eq zyS9_carries _ _ _ _).trans ?_
  rfl
theorem zyS9_isTaken : zy_srt 0 mc9_isTaken.2.1 = true := by decide +kernel
set_option maxRecDepth 100000 in
theorem qE9_isTaken (d : Nat) (a0 : Nat) (a1 : Int) (a2 : Int) (h : zv_H) : E9_isTaken d a0 a1 a2 h =
  L9_isTaken_2 d a0 a1 a2 (0 : Int) h := by
  refine (zy_lim_eq zyS9_isTaken _ _ _ _).trans ?_
  rfl
set_option maxRecDepth 100000 in
theorem qL9_isTaken_2 (d : Nat) (a0 : Nat) (a1 : Int) (a2 : Int) (a3 : Int) (h : zv_H) : L9_isTaken_2 d a0 a1 a2 a3 h =
  ((C9_of d a0 a1 (5 : Int) h).bind fun q1 =>
  (if a3 < q1.1 then
    ((zv_gR q1.2 a0 9 21).bind fun v2 =>
    ((C9_of d a0 a1 (zv_w ((52 : Int) + (zv_w ((2 : Int) * a3)))) q1.2).bind fun q3 =>
    ((zv_aI q3.2 v2 q3.1).bind fun v4 =>
    ((zv_gR q3.2 a0 9 6).bind fun v5 =>
    ((zv_aI q3.2 v5 a2).bind fun v6 =>
    (if v4 = v6 then
      ((C9_of d a0 a1 (zv_w ((zv_w ((52 : Int) + (zv_w ((2 : Int) * a3)))) + (1 : Int))) q3.2).bind fun q7 =>
      ((zv_gR q7.2 a0 9 7).bind fun v8 =>
      ((zv_aI q7.2 v8 a2).bind fun v9 =>
      (if q7.1 = v9 then
        (some (some (zv_i (1 : Int)), q7.2))
      else
        L9_isTaken_2 d a0 a1 a2 (zv_w (a3 + 1)) q7.2))))
    else
      L9_isTaken_2 d a0 a1 a2 (zv_w (a3 + 1)) q3.2))))))
  else
    (some (some (zv_i (0 : Int)), q1.2)))) := by
  refine (zy_lim_eq zyS9_isTaken _ _ _ _).trans ?_
  rfl
theorem zyS9_carriesCut : zy_srt 0 mc9_carriesCut.2.1 = true := by decide +kernel
set_option maxRecDepth 100000 in
theorem qE9_carriesCut (d : Nat) (a0 : Nat) (a1 : Int) (h : zv_H) : E9_carriesCut d a0 a1 h =
  ((C9_here d a0 h).bind fun q1 =>
  ((C9_sees d a0 q1.1 q1.2).bind fun g2 =>
  L9_carriesCut_18 d a0 a1 (-1 : Int) (0 : Int) (0 : Int) (0 : Int) g2)) := by
  refine (zy_lim_eq zyS9_carriesCut _ _ _ _).trans ?_
  rfl
set_option maxRecDepth 100000 in
theorem qL9_carriesCut_18 (d : Nat) (a0 : Nat) (a1 : Int) (a2 : Int) (a3 : Int) (a4 : Int) (a5 : Int) (h : zv_H) : L9_carriesCut_18 d a0 a1 a2 a3 a4 a5 h =
  ((zv_gI h a0 9 11).bind fun v1 =>
  (if a5 < v1 then
    ((zv_gR h a0 9 9).bind fun v2 =>
    ((zv_aB h v2 a5).bind fun v3 =>
    (if v3 = 0 then
      L9_carriesCut_18 d a0 a1 a2 a3 a4 (zv_w (a5 + 1)) h
    else
      ((C9_isTaken d a0 a1 a5 h).bind fun q4 =>
      (if q4.1 = 0 then
        L9_carriesCut_18 d a0 a1 a2 a3 (zv_w (a4 + 1)) (zv_w (a5 + 1)) q4.2
      else
        (if a2 < 0 then
          L9_carriesCut_69 d a0 a1 a2 a3 a4 a5 q4.2
        else
          (if a4 = (zv_w (a2 + a3)) then
            L9_carriesCut_69 d a0 a1 a2 a3 a4 a5 q4.2
          else
            ((C9_refuse d a0 (10 : Int) q4.2).bind fun q5 =>
            (some (some (zv_i q5.1), q5.2))))))))))
  else
    (if a3 = 0 then
      ((C9_refuse d a0 (10 : Int) h).bind fun q6 =>
      (some (some (zv_i q6.1), q6.2)))
    else
      ((C9_cutNow d a0 a2 a3 h).bind fun q7 =>
      (some (some (zv_i q7.1), q7.2)))))) := by
  refine (zy_lim_eq zyS9_carriesCut _ _ _ _).trans ?_
  rfl
set_option maxRecDepth 100000 in
theorem qL9_carriesCut_69 (d : Nat) (a0 : Nat) (a1 : Int) (a2 : Int) (a3 : Int) (a4 : Int) (a5 : Int) (h : zv_H) : L9_carriesCut_69 d a0 a1 a2 a3 a4 a5 h =
  (if a2 < 0 then
    L9_carriesCut_18 d a0 a1 a4 (zv_w (a3 + 1)) (zv_w (a4 + 1)) (zv_w (a5 + 1)) h
  else
    L9_carriesCut_18 d a0 a1 a2 (zv_w (a3 + 1)) (zv_w (a4 + 1)) (zv_w (a5 + 1)) h) := by
  refine (zy_lim_eq zyS9_carriesCut _ _ _ _).trans ?_
  rfl
theorem zyS9_carryNow : zy_srt 0 mc9_carryNow.2.1 = true := by decide +kernel
set_option maxRecDepth 100000 in
theorem qE9_carryNow (d : Nat) (a0 : Nat) (a1 : Int) (h : zv_H) : E9_carryNow d a0 a1 h =
  ((C9_isState d a0 a1 h).bind fun q1 =>
  (if q1.1 = 0 then
    ((C9_refuse d a0 (2 : Int) q1.2).bind fun q2 =>
    (some (some (zv_i q2.1), q2.2)))
  else
    ((C9_here d a0 q1.2).bind fun q3 =>
    ((C9_isOfLine d a0 a1 q3.1 q3.2).bind fun q4 =>
    (if q4.1 = 0 then
      ((C9_isEdit d a0 a1 q4.2).bind fun q5 =>
      (if q5.1 = 0 then
        L9_carryNow_34 d a0 q5.2
      else
        ((C9_plain d a0 q5.2).bind fun g6 =>
        ((C9_carries d a0 a1 g6).bind fun q7 =>
        (some (some (zv_i q7.1), q7.2))))))
    else
      L9_carryNow_34 d a0 q4.2))))) := by
  refine (zy_lim_eq zyS9_carryNow _ _ _ _).trans ?_
  rfl
set_option maxRecDepth 100000 in
theorem qL9_carryNow_34 (d : Nat) (a0 : Nat) (h : zv_H) : L9_carryNow_34 d a0 h =
  ((C9_refuse d a0 (7 : Int) h).bind fun q1 =>
  (some (some (zv_i q1.1), q1.2))) := by
  refine (zy_lim_eq zyS9_carryNow _ _ _ _).trans ?_
  rfl
theorem zyS9_mergeNow : zy_srt 0 mc9_mergeNow.2.1 = true := by decide +kernel
set_option maxRecDepth 100000 in
theorem qE9_mergeNow (d : Nat) (a0 : Nat) (a1 : Int) (h : zv_H) : E9_mergeNow d a0 a1 h =
  ((C9_isState d a0 a1 h).bind fun q1 =>
  (if q1.1 = 0 then
    ((C9_refuse d a0 (2 : Int) q1.2).bind fun q2 =>
    (some (some (zv_i q2.1), q2.2)))
  else
    ((C9_here d a0 q1.2).bind fun q3 =>
    ((C9_isOfLine d a0 a1 q3.1 q3.2).bind fun q4 =>
    (if q4.1 = 0 then
      ((C9_sees d a0 a1 q4.2).bind fun g5 =>
      ((zv_gI g5 a0 9 10).bind fun v6 =>
      L9_mergeNow_44 d a0 v6 (0 : Int) g5))
    else
      ((C9_refuse d a0 (4 : Int) q4.2).bind fun q7 =>
      (some (some (zv_i q7.1), q7.2)))))))) := by
  refine (zy_lim_eq zyS9_mergeNow _ _ _ _).trans ?_
  rfl
set_option maxRecDepth 100000 in
theorem qL9_mergeNow_44 (d : Nat) (a0 : Nat) (a2 : Int) (a3 : Int) (h : zv_H) : L9_mergeNow_44 d a0 a2 a3 h =
  (if a3 < a2 then
    ((zv_gR h a0 9 22).bind fun v1 =>
    ((zv_gR h a0 9 5).bind fun v2 =>
    ((zv_aI h v2 a3).bind fun v3 =>
    ((zv_wI h v1 a3 v3).bind fun g4 =>
    ((zv_gR g4 a0 9 23).bind fun v5 =>
    ((zv_gR g4 a0 9 5).bind fun v6 =>
    ((zv_aI g4 v6 a3).bind fun v7 =>
    ((C9_isEdit d a0 v7 g4).bind fun q8 =>
    (if q8.1 = 0 then
      ((zv_wB q8.2 v5 a3 (0 : Int)).bind fun g9 =>
      L9_mergeNow_44 d a0 a2 (zv_w (a3 + 1)) g9)
    else
      ((zv_gR q8.2 a0 9 8).bind fun v10 =>
      ((zv_gR q8.2 a0 9 5).bind fun v11 =>
      ((zv_aI q8.2 v11 a3).bind fun v12 =>
      ((zv_aB q8.2 v10 v12).bind fun v13 =>
      (if v13 = 0 then
        ((zv_wB q8.2 v5 a3 (0 : Int)).bind fun g14 =>
        L9_mergeNow_44 d a0 a2 (zv_w (a3 + 1)) g14)
      else
        ((zv_gR q8.2 a0 9 5).bind fun v15 =>
        ((zv_aI q8.2 v15 a3).bind fun v16 =>
        ((C9_here d a0 q8.2).bind fun q17 =>
        ((C9_isOfLine d a0 v16 q17.1 q17.2).bind fun q18 =>
        (if q18.1 = 0 then
          ((zv_wB q18.2 v5 a3 (1 : Int)).bind fun g19 =>
          L9_mergeNow_44 d a0 a2 (zv_w (a3 + 1)) g19)
        else
          ((zv_wB q18.2 v5 a3 (0 : Int)).bind fun g20 =>
          L9_mergeNow_44 d a0 a2 (zv_w (a3 + 1)) g20))))))))))))))))))))
  else
    ((C9_plain d a0 h).bind fun g21 =>
    ((zv_pI g21 a0 9 24 (0 : Int)).bind fun g22 =>
    L9_mergeNow_136 d a0 a2 (0 : Int) (1 : Int) g22))) := by
  refine (zy_lim_eq zyS9_mergeNow _ _ _ _).trans ?_
  rfl
set_option maxRecDepth 100000 in
theorem qL9_mergeNow_136 (d : Nat) (a0 : Nat) (a2 : Int) (a3 : Int) (a4 : Int) (h : zv_H) : L9_mergeNow_136 d a0 a2 a3 a4 h =
  (if a4 < a2 then
    ((zv_gR h a0 9 23).bind fun v1 =>
    ((zv_aB h v1 a4).bind fun v2 =>
    (if v2 = 0 then
      L9_mergeNow_136 d a0 a2 a3 (zv_w (a4 + 1)) h
    else
      ((zv_gR h a0 9 22).bind fun v3 =>
      ((zv_aI h v3 a4).bind fun v4 =>
      ((C9_carries d a0 v4 h).bind fun q5 =>
      (if q5.1 < 0 then
        L9_mergeNow_187 d a0 a2 a3 a4 q5.1 q5.2
      else
        ((zv_gR q5.2 a0 9 21).bind fun v6 =>
        ((zv_gR q5.2 a0 9 22).bind fun v7 =>
        ((zv_aI q5.2 v7 a4).bind fun v8 =>
        ((zv_wI q5.2 v6 v8 q5.1).bind fun g9 =>
        L9_mergeNow_187 d a0 a2 a3 a4 q5.1 g9)))))))))))
  else
    ((zv_pI h a0 9 3 (0 : Int)).bind fun g10 =>
    (some (some (zv_i a3), g10)))) := by
  refine (zy_lim_eq zyS9_mergeNow _ _ _ _).trans ?_
  rfl
set_option maxRecDepth 100000 in
theorem qL9_mergeNow_187 (d : Nat) (a0 : Nat) (a2 : Int) (a3 : Int) (a4 : Int) (a5 : Int) (h : zv_H) : L9_mergeNow_187 d a0 a2 a3 a4 a5 h =
  (if a5 < 0 then
    L9_mergeNow_198 d a0 a2 a4 a5 a3 (0 : Int) h
  else
    L9_mergeNow_198 d a0 a2 a4 a5 a3 (1 : Int) h) := by
  refine (zy_lim_eq zyS9_mergeNow _ _ _ _).trans ?_
  rfl
set_option maxRecDepth 100000 in
theorem qL9_mergeNow_198 (d : Nat) (a0 : Nat) (a2 : Int) (a4 : Int) (a5 : Int) (e0 : Int) (e1 : Int) (h : zv_H) : L9_mergeNow_198 d a0 a2 a4 a5 e0 e1 h =
  ((zv_gI h a0 9 24).bind fun v1 =>
  (if a5 < 0 then
    ((zv_pI h a0 9 24 (zv_w (v1 + (1 : Int)))).bind fun g2 =>
    L9_mergeNow_136 d a0 a2 (zv_w (e0 + e1)) (zv_w (a4 + 1)) g2)
  else
    ((zv_pI h a0 9 24 (zv_w (v1 + (0 : Int)))).bind fun g3 =>
    L9_mergeNow_136 d a0 a2 (zv_w (e0 + e1)) (zv_w (a4 + 1)) g3))) := by
  refine (zy_lim_eq zyS9_mergeNow _ _ _ _).trans ?_
  rfl
theorem zyS9_undoNow : zy_srt 0 mc9_undoNow.2.1 = true := by decide +kernel
set_option maxRecDepth 100000 in
theorem qE9_undoNow (d : Nat) (a0 : Nat) (h : zv_H) : E9_undoNow d a0 h =
  ((C9_here d a0 h).bind fun q1 =>
  (if q1.1 = 0 then
    ((C9_refuse d a0 (5 : Int) q1.2).bind fun q2 =>
    (some (some (zv_i q2.1), q2.2)))
  else
    ((C9_here d a0 q1.2).bind fun q3 =>
    ((C9_of d a0 q3.1 (6 : Int) q3.2).bind fun q4 =>
    ((C9_of d a0 q4.1 (1 : Int) q4.2).bind fun q5 =>
    ((C9_visits d a0 q5.1 q5.2).bind fun g6 =>
    ((C9_here d a0 g6).bind fun q7 =>
    (some (some (zv_i q7.1), q7.2))))))))) := by
  refine (zy_lim_eq zyS9_undoNow _ _ _ _).trans ?_
  rfl
theorem zyS9_redoNow : zy_srt 0 mc9_redoNow.2.1 = true := by decide +kernel
set_option maxRecDepth 100000 in
theorem qE9_redoNow (d : Nat) (a0 : Nat) (h : zv_H) : E9_redoNow d a0 h =
  ((C9_here d a0 h).bind fun q1 =>
  ((C9_childOf d a0 q1.1 (0 : Int) q1.2).bind fun q2 =>
  (if q2.1 < 0 then
    ((C9_refuse d a0 (5 : Int) q2.2).bind fun q3 =>
    (some (some (zv_i q3.1), q3.2)))
  else
    ((C9_of d a0 q2.1 (6 : Int) q2.2).bind fun q4 =>
    ((C9_childOf d a0 q2.1 (0 : Int) q4.2).bind fun q5 =>
    L9_redoNow_35 d a0 q2.1 q4.1 q5.1 q5.2))))) := by
  refine (zy_lim_eq zyS9_redoNow _ _ _ _).trans ?_
  rfl
set_option maxRecDepth 100000 in
theorem qL9_redoNow_35 (d : Nat) (a0 : Nat) (a1 : Int) (a2 : Int) (a3 : Int) (h : zv_H) : L9_redoNow_35 d a0 a1 a2 a3 h =
  (if a3 < 0 then
    L9_redoNow_62 d a0 a1 h
  else
    ((C9_of d a0 a3 (6 : Int) h).bind fun q1 =>
    (if q1.1 = a2 then
      ((C9_childOf d a0 a3 (0 : Int) q1.2).bind fun q2 =>
      L9_redoNow_35 d a0 a3 a2 q2.1 q2.2)
    else
      L9_redoNow_62 d a0 a1 q1.2))) := by
  refine (zy_lim_eq zyS9_redoNow _ _ _ _).trans ?_
  rfl
set_option maxRecDepth 100000 in
theorem qL9_redoNow_62 (d : Nat) (a0 : Nat) (a1 : Int) (h : zv_H) : L9_redoNow_62 d a0 a1 h =
  ((C9_visits d a0 a1 h).bind fun g1 =>
  (some (some (zv_i a1), g1))) := by
  refine (zy_lim_eq zyS9_redoNow _ _ _ _).trans ?_
  rfl
theorem zyS9_commonOf : zy_srt 0 mc9_commonOf.2.1 = true := by decide +kernel
set_option maxRecDepth 100000 in
theorem qE9_commonOf (d : Nat) (a0 : Nat) (a1 : Int) (a2 : Int) (h : zv_H) : E9_commonOf d a0 a1 a2 h =
  L9_commonOf_2 d a0 a2 a1 h := by
  refine (zy_lim_eq zyS9_commonOf _ _ _ _).trans ?_
  rfl
set_option maxRecDepth 100000 in
theorem qL9_commonOf_2 (d : Nat) (a0 : Nat) (a2 : Int) (a3 : Int) (h : zv_H) : L9_commonOf_2 d a0 a2 a3 h =
  ((C9_isOfLine d a0 a3 a2 h).bind fun q1 =>
  (if q1.1 = 0 then
    ((C9_of d a0 a3 (1 : Int) q1.2).bind fun q2 =>
    L9_commonOf_2 d a0 a2 q2.1 q2.2)
  else
    (some (some (zv_i a3), q1.2)))) := by
  refine (zy_lim_eq zyS9_commonOf _ _ _ _).trans ?_
  rfl
theorem zyS9_wayMany : zy_srt 0 mc9_wayMany.2.1 = true := by decide +kernel
set_option maxRecDepth 100000 in
theorem qE9_wayMany (d : Nat) (a0 : Nat) (a1 : Int) (a2 : Int) (h : zv_H) : E9_wayMany d a0 a1 a2 h =
  ((C9_depthOf d a0 a1 h).bind fun q1 =>
  ((C9_depthOf d a0 a2 q1.2).bind fun q2 =>
  ((C9_commonOf d a0 a1 a2 q2.2).bind fun q3 =>
  ((C9_depthOf d a0 q3.1 q3.2).bind fun q4 =>
  (some (some (zv_i (zv_w ((zv_w (q1.1 + q2.1)) - (zv_w ((2 : Int) * q4.1))))), q4.2)))))) := by
  refine (zy_lim_eq zyS9_wayMany _ _ _ _).trans ?_
  rfl
theorem zyS9_goNow : zy_srt 0 mc9_goNow.2.1 = true := by decide +kernel
set_option maxRecDepth 100000 in
theorem qE9_goNow (d : Nat) (a0 : Nat) (a1 : Int) (h : zv_H) : E9_goNow d a0 a1 h =
  ((C9_isState d a0 a1 h).bind fun q1 =>
  (if q1.1 = 0 then
    ((C9_refuse d a0 (2 : Int) q1.2).bind fun q2 =>
    (some (some (zv_i q2.1), q2.2)))
  else
    ((C9_here d a0 q1.2).bind fun q3 =>
    (if a1 = q3.1 then
      ((C9_refuse d a0 (4 : Int) q3.2).bind fun q4 =>
      (some (some (zv_i q4.1), q4.2)))
    else
      ((C9_here d a0 q3.2).bind fun q5 =>
      ((C9_wayMany d a0 q5.1 a1 q5.2).bind fun q6 =>
      ((C9_visits d a0 a1 q6.2).bind fun g7 =>
      (some (some (zv_i q6.1), g7))))))))) := by
  refine (zy_lim_eq zyS9_goNow _ _ _ _).trans ?_
  rfl
theorem zyS9_nameNow : zy_srt 0 mc9_nameNow.2.1 = true := by decide +kernel
set_option maxRecDepth 100000 in
theorem qE9_nameNow (d : Nat) (a0 : Nat) (h : zv_H) : E9_nameNow d a0 h =
  ((zv_gI h a0 9 19).bind fun v1 =>
  ((C9_isIn d v1 (1 : Int) (6 : Int) h).bind fun q2 =>
  (if q2.1 = 0 then
    ((C9_refuse d a0 (1 : Int) q2.2).bind fun q3 =>
    (some (some (zv_i q3.1), q3.2)))
  else
    ((zv_gR q2.2 a0 9 17).bind fun v4 =>
    ((zv_gI q2.2 a0 9 19).bind fun v5 =>
    ((C9_packed d v4 v5 q2.2).bind fun q6 =>
    ((C9_nameAt d a0 q6.1 q6.2).bind fun q7 =>
    (if q7.1 < 0 then
      ((zv_gR q7.2 a0 9 0).bind fun v8 =>
      ((zv_aI q7.2 v8 (3 : Int)).bind fun v9 =>
      (if v9 = (12 : Int) then
        ((C9_refuse d a0 (3 : Int) q7.2).bind fun q10 =>
        (some (some (zv_i q10.1), q10.2)))
      else
        L9_nameNow_58 d a0 q6.1 q7.1 q7.2)))
    else
      L9_nameNow_58 d a0 q6.1 q7.1 q7.2)))))))) := by
  refine (zy_lim_eq zyS9_nameNow _ _ _ _).trans ?_
  rfl
set_option maxRecDepth 100000 in
theorem qL9_nameNow_58 (d : Nat) (a0 : Nat) (a1 : Int) (a2 : Int) (h : zv_H) : L9_nameNow_58 d a0 a1 a2 h =
  (if a2 < 0 then
    L9_nameNow_89 d a0 a1 a2 h
  else
    ((zv_gR h a0 9 0).bind fun v1 =>
    ((zv_aI h v1 (zv_w ((zv_w ((408 : Int) + (zv_w ((2 : Int) * a2)))) + (1 : Int)))).bind fun v2 =>
    ((C9_here d a0 h).bind fun q3 =>
    (if v2 = q3.1 then
      ((C9_refuse d a0 (4 : Int) q3.2).bind fun q4 =>
      (some (some (zv_i q4.1), q4.2)))
    else
      L9_nameNow_89 d a0 a1 a2 q3.2))))) := by
  refine (zy_lim_eq zyS9_nameNow _ _ _ _).trans ?_
  rfl
set_option maxRecDepth 100000 in
theorem qL9_nameNow_89 (d : Nat) (a0 : Nat) (a1 : Int) (a2 : Int) (h : zv_H) : L9_nameNow_89 d a0 a1 a2 h =
  (if a2 < 0 then
    ((zv_gR h a0 9 0).bind fun v1 =>
    ((zv_aI h v1 (3 : Int)).bind fun v2 =>
    ((zv_gR h a0 9 0).bind fun v3 =>
    ((zv_aI h v3 (3 : Int)).bind fun v4 =>
    ((zv_wI h v3 (3 : Int) (zv_w (v4 + (1 : Int)))).bind fun g5 =>
    L9_nameNow_110 d a0 a1 v2 g5)))))
  else
    L9_nameNow_110 d a0 a1 a2 h) := by
  refine (zy_lim_eq zyS9_nameNow _ _ _ _).trans ?_
  rfl
set_option maxRecDepth 100000 in
theorem qL9_nameNow_110 (d : Nat) (a0 : Nat) (a1 : Int) (a2 : Int) (h : zv_H) : L9_nameNow_110 d a0 a1 a2 h =
  ((zv_gR h a0 9 0).bind fun v1 =>
  ((zv_wI h v1 (zv_w ((408 : Int) + (zv_w ((2 : Int) * a2)))) a1).bind fun g2 =>
  ((zv_gR g2 a0 9 0).bind fun v3 =>
  ((C9_here d a0 g2).bind fun q4 =>
  ((zv_wI q4.2 v3 (zv_w ((zv_w ((408 : Int) + (zv_w ((2 : Int) * a2)))) + (1 : Int))) q4.1).bind fun g5 =>
  ((zv_gR g5 a0 9 0).bind fun v6 =>
  ((zv_aI g5 v6 (3 : Int)).bind fun v7 =>
  (some (some (zv_i v7), g5))))))))) := by
  refine (zy_lim_eq zyS9_nameNow _ _ _ _).trans ?_
  rfl
theorem zyS9_leansOn : zy_srt 0 mc9_leansOn.2.1 = true := by decide +kernel
set_option maxRecDepth 100000 in
theorem qE9_leansOn (d : Nat) (a0 : Nat) (a1 : Int) (a2 : Int) (h : zv_H) : E9_leansOn d a0 a1 a2 h =
  ((C9_of d a0 a1 (2 : Int) h).bind fun q1 =>
  (if q1.1 = 0 then
    ((C9_of d a0 a1 (8 : Int) q1.2).bind fun q2 =>
    (if q2.1 = a2 then
      (some (some (zv_i (1 : Int)), q2.2))
    else
      (some (some (zv_i (0 : Int)), q2.2))))
  else
    L9_leansOn_28 d a0 a1 a2 (0 : Int) q1.2)) := by
  refine (zy_lim_eq zyS9_leansOn _ _ _ _).trans ?_
  rfl
set_option maxRecDepth 100000 in
theorem qL9_leansOn_28 (d : Nat) (a0 : Nat) (a1 : Int) (a2 : Int) (a3 : Int) (h : zv_H) : L9_leansOn_28 d a0 a1 a2 a3 h =
  ((C9_of d a0 a1 (5 : Int) h).bind fun q1 =>
  (if a3 < q1.1 then
    ((C9_of d a0 a1 (zv_w ((52 : Int) + (zv_w ((2 : Int) * a3)))) q1.2).bind fun q2 =>
    (if q2.1 = a2 then
      (some (some (zv_i (1 : Int)), q2.2))
    else
      L9_leansOn_28 d a0 a1 a2 (zv_w (a3 + 1)) q2.2))
  else
    (some (some (zv_i (0 : Int)), q1.2)))) := by
  refine (zy_lim_eq zyS9_leansOn _ _ _ _).trans ?_
  rfl
theorem zyS9_marks : zy_srt 0 mc9_marks.2.1 = true := by decide +kernel
set_option maxRecDepth 100000 in
theorem qE9_marks (d : Nat) (a0 : Nat) (a1 : Int) (a2 : Int) (h : zv_H) : E9_marks d a0 a1 a2 h =
  ((C9_here d a0 h).bind fun q1 =>
  ((C9_sees d a0 q1.1 q1.2).bind fun g2 =>
  L9_marks_10 d a0 a1 a2 (0 : Int) g2)) := by
  refine (zy_lim_eq zyS9_marks _ _ _ _).trans ?_
  rfl
set_option maxRecDepth 100000 in
theorem qL9_marks_10 (d : Nat) (a0 : Nat) (a1 : Int) (a2 : Int) (a3 : Int) (h : zv_H) : L9_marks_10 d a0 a1 a2 a3 h =
  (if a3 < (48 : Int) then
    ((zv_gR h a0 9 25).bind fun v1 =>
    (if a3 = a1 then
      ((zv_wB h v1 a3 (1 : Int)).bind fun g2 =>
      L9_marks_10 d a0 a1 a2 (zv_w (a3 + 1)) g2)
    else
      ((zv_wB h v1 a3 (0 : Int)).bind fun g3 =>
      L9_marks_10 d a0 a1 a2 (zv_w (a3 + 1)) g3)))
  else
    L9_marks_40 d a0 a2 (1 : Int) h) := by
  refine (zy_lim_eq zyS9_marks _ _ _ _).trans ?_
  rfl
set_option maxRecDepth 100000 in
theorem qL9_marks_40 (d : Nat) (a0 : Nat) (a2 : Int) (a3 : Int) (h : zv_H) : L9_marks_40 d a0 a2 a3 h =
  ((zv_gI h a0 9 10).bind fun v1 =>
  (if a3 < v1 then
    ((zv_gR h a0 9 5).bind fun v2 =>
    (if a2 = 0 then
      ((zv_aI h v2 a3).bind fun v3 =>
      L9_marks_72 d a0 a2 a3 v3 (1 : Int) h)
    else
      ((zv_gI h a0 9 10).bind fun v4 =>
      ((zv_aI h v2 (zv_w (v4 - a3))).bind fun v5 =>
      L9_marks_72 d a0 a2 a3 v5 (1 : Int) h))))
  else
    (some (none, h)))) := by
  refine (zy_lim_eq zyS9_marks _ _ _ _).trans ?_
  rfl
set_option maxRecDepth 100000 in
theorem qL9_marks_72 (d : Nat) (a0 : Nat) (a2 : Int) (a3 : Int) (a4 : Int) (a5 : Int) (h : zv_H) : L9_marks_72 d a0 a2 a3 a4 a5 h =
  ((zv_gI h a0 9 10).bind fun v1 =>
  (if a5 < v1 then
    ((C9_isEdit d a0 a4 h).bind fun q2 =>
    (if q2.1 = 0 then
      L9_marks_40 d a0 a2 (zv_w (a3 + 1)) q2.2
    else
      ((zv_gR q2.2 a0 9 25).bind fun v3 =>
      ((zv_aB q2.2 v3 a4).bind fun v4 =>
      (if v4 = 0 then
        ((zv_gR q2.2 a0 9 5).bind fun v5 =>
        ((zv_aI q2.2 v5 a5).bind fun v6 =>
        ((zv_gR q2.2 a0 9 25).bind fun v7 =>
        ((zv_aB q2.2 v7 v6).bind fun v8 =>
        (if v8 = 0 then
          L9_marks_72 d a0 a2 a3 a4 (zv_w (a5 + 1)) q2.2
        else
          ((C9_isEdit d a0 v6 q2.2).bind fun q9 =>
          (if q9.1 = 0 then
            L9_marks_72 d a0 a2 a3 a4 (zv_w (a5 + 1)) q9.2
          else
            (if a2 = 0 then
              ((C9_isOfLine d a0 v6 a4 q9.2).bind fun q10 =>
              (if q10.1 = 0 then
                L9_marks_72 d a0 a2 a3 a4 (zv_w (a5 + 1)) q10.2
              else
                ((C9_leansOn d a0 a4 v6 q10.2).bind fun q11 =>
                (if q11.1 = 0 then
                  L9_marks_72 d a0 a2 a3 a4 (zv_w (a5 + 1)) q11.2
                else
                  ((zv_gR q11.2 a0 9 25).bind fun v12 =>
                  ((zv_wB q11.2 v12 a4 (1 : Int)).bind fun g13 =>
                  L9_marks_72 d a0 a2 a3 a4 (zv_w (a5 + 1)) g13))))))
            else
              ((C9_isOfLine d a0 a4 v6 q9.2).bind fun q14 =>
              (if q14.1 = 0 then
                L9_marks_72 d a0 a2 a3 a4 (zv_w (a5 + 1)) q14.2
              else
                ((C9_leansOn d a0 v6 a4 q14.2).bind fun q15 =>
                (if q15.1 = 0 then
                  L9_marks_72 d a0 a2 a3 a4 (zv_w (a5 + 1)) q15.2
                else
                  ((zv_gR q15.2 a0 9 25).bind fun v16 =>
                  ((zv_wB q15.2 v16 a4 (1 : Int)).bind fun g17 =>
                  L9_marks_72 d a0 a2 a3 a4 (zv_w (a5 + 1)) g17))))))))))))))
      else
        L9_marks_40 d a0 a2 (zv_w (a3 + 1)) q2.2)))))
  else
    L9_marks_40 d a0 a2 (zv_w (a3 + 1)) h)) := by
  refine (zy_lim_eq zyS9_marks _ _ _ _).trans ?_
  rfl
theorem zyS9_triesNames : zy_srt 0 mc9_triesNames.2.1 = true := by decide +kernel
set_option maxRecDepth 100000 in
theorem qE9_triesNames (d : Nat) (a0 : Nat) (a1 : Int) (h : zv_H) : E9_triesNames d a0 a1 h =
  ((C9_here d a0 h).bind fun q1 =>
  ((C9_sees d a0 q1.1 q1.2).bind fun g2 =>
  ((C9_begins d a0 (48 : Int) a1 (-1 : Int) (0 : Int) (0 : Int) g2).bind fun g3 =>
  L9_triesNames_22 d a0 a1 (0 : Int) (1 : Int) g3))) := by
  refine (zy_lim_eq zyS9_triesNames _ _ _ _).trans ?_
  rfl
set_option maxRecDepth 100000 in
theorem qL9_triesNames_22 (d : Nat) (a0 : Nat) (a1 : Int) (a2 : Int) (a3 : Int) (h : zv_H) : L9_triesNames_22 d a0 a1 a2 a3 h =
  ((zv_gI h a0 9 10).bind fun v1 =>
  (if a3 < v1 then
    ((zv_gR h a0 9 25).bind fun v2 =>
    ((zv_gR h a0 9 5).bind fun v3 =>
    ((zv_aI h v3 a3).bind fun v4 =>
    ((zv_aB h v2 v4).bind fun v5 =>
    (if v5 = 0 then
      L9_triesNames_22 d a0 a1 a2 (zv_w (a3 + 1)) h
    else
      ((zv_gR h a0 9 8).bind fun v6 =>
      ((zv_gR h a0 9 5).bind fun v7 =>
      ((zv_aI h v7 a3).bind fun v8 =>
      ((zv_aB h v6 v8).bind fun v9 =>
      (if a1 = (2 : Int) then
        L9_triesNames_65 d a0 a1 a2 a3 v9 (1 : Int) h
      else
        L9_triesNames_65 d a0 a1 a2 a3 v9 (0 : Int) h))))))))))
  else
    (some (some (zv_i a2), h)))) := by
  refine (zy_lim_eq zyS9_triesNames _ _ _ _).trans ?_
  rfl
set_option maxRecDepth 100000 in
theorem qL9_triesNames_65 (d : Nat) (a0 : Nat) (a1 : Int) (a2 : Int) (a3 : Int) (e0 : Int) (e1 : Int) (h : zv_H) : L9_triesNames_65 d a0 a1 a2 a3 e0 e1 h =
  (if e0 = e1 then
    ((zv_gR h a0 9 5).bind fun v1 =>
    ((zv_aI h v1 a3).bind fun v2 =>
    ((C9_namesToo d a0 (48 : Int) v2 h).bind fun g3 =>
    L9_triesNames_22 d a0 a1 (zv_w (a2 + 1)) (zv_w (a3 + 1)) g3)))
  else
    L9_triesNames_22 d a0 a1 a2 (zv_w (a3 + 1)) h) := by
  refine (zy_lim_eq zyS9_triesNames _ _ _ _).trans ?_
  rfl
theorem zyS9_turnNow : zy_srt 0 mc9_turnNow.2.1 = true := by decide +kernel
set_option maxRecDepth 100000 in
theorem qE9_turnNow (d : Nat) (a0 : Nat) (a1 : Int) (a2 : Int) (h : zv_H) : E9_turnNow d a0 a1 a2 h =
  ((C9_isState d a0 a1 h).bind fun q1 =>
  (if q1.1 = 0 then
    ((C9_refuse d a0 (2 : Int) q1.2).bind fun q2 =>
    (some (some (zv_i q2.1), q2.2)))
  else
    ((C9_here d a0 q1.2).bind fun q3 =>
    ((C9_isOfLine d a0 a1 q3.1 q3.2).bind fun q4 =>
    (if q4.1 = 0 then
      L9_turnNow_34 d a0 q4.2
    else
      ((C9_isEdit d a0 a1 q4.2).bind fun q5 =>
      (if q5.1 = 0 then
        L9_turnNow_34 d a0 q5.2
      else
        ((C9_here d a0 q5.2).bind fun q6 =>
        ((C9_sees d a0 q6.1 q6.2).bind fun g7 =>
        ((zv_gR g7 a0 9 8).bind fun v8 =>
        ((zv_aB g7 v8 a1).bind fun v9 =>
        (if a2 = (2 : Int) then
          L9_turnNow_65 d a0 a1 a2 v9 (1 : Int) g7
        else
          L9_turnNow_65 d a0 a1 a2 v9 (0 : Int) g7)))))))))))) := by
  refine (zy_lim_eq zyS9_turnNow _ _ _ _).trans ?_
  rfl
set_option maxRecDepth 100000 in
theorem qL9_turnNow_34 (d : Nat) (a0 : Nat) (h : zv_H) : L9_turnNow_34 d a0 h =
  ((C9_refuse d a0 (7 : Int) h).bind fun q1 =>
  (some (some (zv_i q1.1), q1.2))) := by
  refine (zy_lim_eq zyS9_turnNow _ _ _ _).trans ?_
  rfl
set_option maxRecDepth 100000 in
theorem qL9_turnNow_65 (d : Nat) (a0 : Nat) (a1 : Int) (a2 : Int) (e0 : Int) (e1 : Int) (h : zv_H) : L9_turnNow_65 d a0 a1 a2 e0 e1 h =
  (if e0 = e1 then
    ((C9_states d a0 h).bind fun q1 =>
    (if q1.1 = (48 : Int) then
      ((C9_refuse d a0 (3 : Int) q1.2).bind fun q2 =>
      (some (some (zv_i q2.1), q2.2)))
    else
      (if a2 = (3 : Int) then
        L9_turnNow_101 d a0 a2 a0 a1 (1 : Int) q1.2
      else
        L9_turnNow_101 d a0 a2 a0 a1 (0 : Int) q1.2)))
  else
    ((C9_refuse d a0 (4 : Int) h).bind fun q3 =>
    (some (some (zv_i q3.1), q3.2)))) := by
  refine (zy_lim_eq zyS9_turnNow _ _ _ _).trans ?_
  rfl
set_option maxRecDepth 100000 in
theorem qL9_turnNow_101 (d : Nat) (a0 : Nat) (a2 : Int) (e0 : Nat) (e1 : Int) (e2 : Int) (h : zv_H) : L9_turnNow_101 d a0 a2 e0 e1 e2 h =
  ((C9_marks d e0 e1 e2 h).bind fun g1 =>
  ((C9_triesNames d a0 a2 g1).bind fun q2 =>
  ((C9_lettersOf d a0 (48 : Int) q2.2).bind fun q3 =>
  (if q3.1 ≤ (120 : Int) then
    ((C9_freeState d a0 q3.2).bind fun q4 =>
    ((C9_begins d a0 q4.1 a2 (-1 : Int) q2.1 (0 : Int) q4.2).bind fun g5 =>
    ((C9_of d a0 (48 : Int) (10 : Int) g5).bind fun q6 =>
    ((C9_sets d a0 q4.1 (10 : Int) q6.1 q6.2).bind fun g7 =>
    ((C9_of d a0 (48 : Int) (11 : Int) g7).bind fun q8 =>
    ((C9_sets d a0 q4.1 (11 : Int) q8.1 q8.2).bind fun g9 =>
    ((C9_visits d a0 q4.1 g9).bind fun g10 =>
    (some (some (zv_i q4.1), g10)))))))))
  else
    ((C9_refuse d a0 (6 : Int) q3.2).bind fun q11 =>
    (some (some (zv_i q11.1), q11.2))))))) := by
  refine (zy_lim_eq zyS9_turnNow _ _ _ _).trans ?_
  rfl
theorem zyS9_lays : zy_srt 0 mc9_lays.2.1 = true := by decide +kernel
set_option maxRecDepth 100000 in
theorem qE9_lays (d : Nat) (a0 : Nat) (a1 : Int) (h : zv_H) : E9_lays d a0 a1 h =
  L9_lays_3 d a0 a1 (24 : Int) h := by
  refine (zy_lim_eq zyS9_lays _ _ _ _).trans ?_
  rfl
set_option maxRecDepth 100000 in
theorem qL9_lays_3 (d : Nat) (a0 : Nat) (a1 : Int) (a2 : Int) (h : zv_H) : L9_lays_3 d a0 a1 a2 h =
  (if a2 < 0 then
    (some (none, h))
  else
    ((zv_gR h a0 9 26).bind fun v1 =>
    ((zv_gI h a0 9 27).bind fun v2 =>
    ((zv_wB h v1 v2 (zv_i2b (zv_shr a1 a2))).bind fun g3 =>
    ((zv_gI g3 a0 9 27).bind fun v4 =>
    ((zv_pI g3 a0 9 27 (zv_w (v4 + (1 : Int)))).bind fun g5 =>
    L9_lays_3 d a0 a1 (zv_w (a2 + (-8))) g5)))))) := by
  refine (zy_lim_eq zyS9_lays _ _ _ _).trans ?_
  rfl
theorem zyS9_feed : zy_srt 0 mc9_feed.2.1 = true := by decide +kernel
set_option maxRecDepth 100000 in
theorem qE9_feed (d : Nat) (a0 : Nat) (a1 : Int) (a2 : Int) (a3 : Int) (a4 : Int) (a5 : Int) (h : zv_H) : E9_feed d a0 a1 a2 a3 a4 a5 h =
  ((zv_pI h a0 9 4 (0 : Int)).bind fun g1 =>
  ((zv_gI g1 a0 9 27).bind fun v2 =>
  (if (zv_w (v2 + (20 : Int))) ≤ (700 : Int) then
    ((C9_lays d a0 a1 g1).bind fun g3 =>
    ((C9_lays d a0 a2 g3).bind fun g4 =>
    ((C9_lays d a0 a3 g4).bind fun g5 =>
    ((C9_lays d a0 a4 g5).bind fun g6 =>
    ((C9_lays d a0 a5 g6).bind fun g7 =>
    ((zv_gI g7 a0 9 27).bind fun v8 =>
    (some (some (zv_i v8), g7))))))))
  else
    (some (some (zv_i (-1 : Int)), g1))))) := by
  refine (zy_lim_eq zyS9_feed _ _ _ _).trans ?_
  rfl
theorem zyS9_isOf : zy_srt 0 mc9_isOf.2.1 = true := by decide +kernel
set_option maxRecDepth 100000 in
theorem qE9_isOf (d : Nat) (a0 : Nat) (a1 : Int) (a2 : Int) (a3 : Int) (h : zv_H) : E9_isOf d a0 a1 a2 a3 h =
  ((zv_gI h a0 9 36).bind fun v1 =>
  (if a1 < v1 then
    ((zv_gR h a0 9 26).bind fun v2 =>
    ((zv_aB h v2 a1).bind fun v3 =>
    ((C9_isIn d v3 a2 a3 h).bind fun q4 =>
    (if q4.1 = 0 then
      (some (some (zv_i (0 : Int)), q4.2))
    else
      (some (some (zv_i (1 : Int)), q4.2))))))
  else
    (some (some (zv_i (0 : Int)), h)))) := by
  refine (zy_lim_eq zyS9_isOf _ _ _ _).trans ?_
  rfl
theorem zyS9_reads : zy_srt 0 mc9_reads.2.1 = true := by decide +kernel
set_option maxRecDepth 100000 in
theorem qE9_reads (d : Nat) (a0 : Nat) (h : zv_H) : E9_reads d a0 h =
  ((zv_gI h a0 9 33).bind fun v1 =>
  ((zv_pI h a0 9 32 v1).bind fun g2 =>
  L9_reads_8 d a0 g2)) := by
  refine (zy_lim_eq zyS9_reads _ _ _ _).trans ?_
  rfl
set_option maxRecDepth 100000 in
theorem qL9_reads_8 (d : Nat) (a0 : Nat) (h : zv_H) : L9_reads_8 d a0 h =
  ((zv_gI h a0 9 32).bind fun v1 =>
  ((zv_gI h a0 9 36).bind fun v2 =>
  (if v1 < v2 then
    ((zv_gR h a0 9 26).bind fun v3 =>
    ((zv_gI h a0 9 32).bind fun v4 =>
    ((zv_aB h v3 v4).bind fun v5 =>
    (if v5 = (10 : Int) then
      ((zv_gI h a0 9 32).bind fun v6 =>
      ((zv_pI h a0 9 32 (zv_w (v6 + (1 : Int)))).bind fun g7 =>
      L9_reads_8 d a0 g7))
    else
      ((zv_gR h a0 9 26).bind fun v8 =>
      ((zv_gI h a0 9 32).bind fun v9 =>
      ((zv_aB h v8 v9).bind fun v10 =>
      (if v10 = (32 : Int) then
        ((zv_gI h a0 9 32).bind fun v11 =>
        ((zv_pI h a0 9 32 (zv_w (v11 + (1 : Int)))).bind fun g12 =>
        L9_reads_8 d a0 g12))
      else
        L9_reads_60 d a0 h))))))))
  else
    L9_reads_60 d a0 h))) := by
  refine (zy_lim_eq zyS9_reads _ _ _ _).trans ?_
  rfl
set_option maxRecDepth 100000 in
theorem qL9_reads_60 (d : Nat) (a0 : Nat) (h : zv_H) : L9_reads_60 d a0 h =
  ((zv_gI h a0 9 32).bind fun v1 =>
  ((zv_pI h a0 9 33 (zv_w (v1 + (1 : Int)))).bind fun g2 =>
  ((zv_gI g2 a0 9 32).bind fun v3 =>
  ((zv_gI g2 a0 9 36).bind fun v4 =>
  (if v3 < v4 then
    ((zv_gR g2 a0 9 26).bind fun v5 =>
    ((zv_gI g2 a0 9 32).bind fun v6 =>
    ((zv_aB g2 v5 v6).bind fun v7 =>
    ((C13_indexOf d 1000023 (zv_i2c v7) g2).bind fun q8 =>
    (if q8.1 < 0 then
      L9_reads_110 d a0 a0 (4 : Int) q8.2
    else
      L9_reads_110 d a0 a0 (3 : Int) q8.2)))))
  else
    L9_reads_110 d a0 a0 (0 : Int) g2))))) := by
  refine (zy_lim_eq zyS9_reads _ _ _ _).trans ?_
  rfl
set_option maxRecDepth 100000 in
theorem qL9_reads_110 (d : Nat) (a0 : Nat) (e0 : Nat) (e1 : Int) (h : zv_H) : L9_reads_110 d a0 e0 e1 h =
  ((zv_pI h e0 9 34 e1).bind fun g1 =>
  ((zv_gI g1 a0 9 32).bind fun v2 =>
  ((C9_isOf d a0 v2 (97 : Int) (122 : Int) g1).bind fun q3 =>
  (if q3.1 = 0 then
    ((zv_gI q3.2 a0 9 32).bind fun v4 =>
    ((C9_isOf d a0 v4 (48 : Int) (57 : Int) q3.2).bind fun q5 =>
    (if q5.1 = 0 then
      (some (none, q5.2))
    else
      ((zv_pI q5.2 a0 9 35 (0 : Int)).bind fun g6 =>
      ((zv_gI g6 a0 9 32).bind fun v7 =>
      ((zv_pI g6 a0 9 33 v7).bind fun g8 =>
      L9_reads_250 d a0 g8))))))
  else
    ((zv_pI q3.2 a0 9 34 (1 : Int)).bind fun g9 =>
    ((zv_pJ g9 a0 9 38 (Int64.ofNat 0)).bind fun g10 =>
    ((zv_gI g10 a0 9 32).bind fun v11 =>
    ((zv_pI g10 a0 9 33 v11).bind fun g12 =>
    L9_reads_146 d a0 g12)))))))) := by
  refine (zy_lim_eq zyS9_reads _ _ _ _).trans ?_
  rfl
set_option maxRecDepth 100000 in
theorem qL9_reads_146 (d : Nat) (a0 : Nat) (h : zv_H) : L9_reads_146 d a0 h =
  ((zv_gI h a0 9 33).bind fun v1 =>
  ((C9_isOf d a0 v1 (97 : Int) (122 : Int) h).bind fun q2 =>
  (if q2.1 = 0 then
    (some (none, q2.2))
  else
    ((zv_gI q2.2 a0 9 33).bind fun v3 =>
    ((zv_gI q2.2 a0 9 32).bind fun v4 =>
    (if (zv_w (v3 - v4)) < (9 : Int) then
      ((zv_gJ q2.2 a0 9 38).bind fun v5 =>
      ((zv_gR q2.2 a0 9 26).bind fun v6 =>
      ((zv_gI q2.2 a0 9 33).bind fun v7 =>
      ((zv_aB q2.2 v6 v7).bind fun v8 =>
      ((zv_pJ q2.2 a0 9 38 ((((27 : Int64) * v5) + (zv_i2l v8)) - (96 : Int64))).bind fun g9 =>
      ((zv_gI g9 a0 9 33).bind fun v10 =>
      ((zv_pI g9 a0 9 33 (zv_w (v10 + (1 : Int)))).bind fun g11 =>
      L9_reads_146 d a0 g11)))))))
    else
      ((zv_gJ q2.2 a0 9 38).bind fun v12 =>
      ((zv_pJ q2.2 a0 9 38 v12).bind fun g13 =>
      ((zv_gI g13 a0 9 33).bind fun v14 =>
      ((zv_pI g13 a0 9 33 (zv_w (v14 + (1 : Int)))).bind fun g15 =>
      L9_reads_146 d a0 g15)))))))))) := by
  refine (zy_lim_eq zyS9_reads _ _ _ _).trans ?_
  rfl
set_option maxRecDepth 100000 in
theorem qL9_reads_250 (d : Nat) (a0 : Nat) (h : zv_H) : L9_reads_250 d a0 h =
  ((zv_gI h a0 9 33).bind fun v1 =>
  ((C9_isOf d a0 v1 (48 : Int) (57 : Int) h).bind fun q2 =>
  (if q2.1 = 0 then
    ((zv_gI q2.2 a0 9 33).bind fun v3 =>
    ((zv_gI q2.2 a0 9 32).bind fun v4 =>
    (if (zv_w (v3 - v4)) ≤ (3 : Int) then
      ((zv_pI q2.2 a0 9 34 (2 : Int)).bind fun g5 =>
      (some (none, g5)))
    else
      ((zv_pI q2.2 a0 9 34 (4 : Int)).bind fun g6 =>
      (some (none, g6))))))
  else
    ((zv_gI q2.2 a0 9 33).bind fun v7 =>
    ((zv_gI q2.2 a0 9 32).bind fun v8 =>
    (if (zv_w (v7 - v8)) < (3 : Int) then
      ((zv_gI q2.2 a0 9 35).bind fun v9 =>
      ((zv_gR q2.2 a0 9 26).bind fun v10 =>
      ((zv_gI q2.2 a0 9 33).bind fun v11 =>
      ((zv_aB q2.2 v10 v11).bind fun v12 =>
      ((zv_pI q2.2 a0 9 35 (zv_w ((zv_w ((zv_w ((10 : Int) * v9)) + v12)) - (48 : Int)))).bind fun g13 =>
      ((zv_gI g13 a0 9 33).bind fun v14 =>
      ((zv_pI g13 a0 9 33 (zv_w (v14 + (1 : Int)))).bind fun g15 =>
      L9_reads_250 d a0 g15)))))))
    else
      ((zv_gI q2.2 a0 9 35).bind fun v16 =>
      ((zv_pI q2.2 a0 9 35 v16).bind fun g17 =>
      ((zv_gI g17 a0 9 33).bind fun v18 =>
      ((zv_pI g17 a0 9 33 (zv_w (v18 + (1 : Int)))).bind fun g19 =>
      L9_reads_250 d a0 g19)))))))))) := by
  refine (zy_lim_eq zyS9_reads _ _ _ _).trans ?_
  rfl
theorem zyS9_must : zy_srt 0 mc9_must.2.1 = true := by decide +kernel
set_option maxRecDepth 100000 in
theorem qE9_must (d : Nat) (a0 : Nat) (a1 : Int) (a2 : Int) (h : zv_H) : E9_must d a0 a1 a2 h =
  (if a1 = 0 then
    ((zv_gI h a0 9 30).bind fun v1 =>
    (if v1 ≤ 0 then
      (if a2 = (2 : Int) then
        ((zv_gI h a0 9 34).bind fun v2 =>
        (if v2 = (4 : Int) then
          ((zv_pI h a0 9 30 (1 : Int)).bind fun g3 =>
          ((zv_gI g3 a0 9 32).bind fun v4 =>
          ((zv_pI g3 a0 9 31 v4).bind fun g5 =>
          (some (none, g5)))))
        else
          ((zv_pI h a0 9 30 a2).bind fun g6 =>
          ((zv_gI g6 a0 9 32).bind fun v7 =>
          ((zv_pI g6 a0 9 31 v7).bind fun g8 =>
          (some (none, g8)))))))
      else
        ((zv_pI h a0 9 30 a2).bind fun g9 =>
        ((zv_gI g9 a0 9 32).bind fun v10 =>
        ((zv_pI g9 a0 9 31 v10).bind fun g11 =>
        (some (none, g11))))))
    else
      (some (none, h))))
  else
    (some (none, h))) := by
  refine (zy_lim_eq zyS9_must _ _ _ _).trans ?_
  rfl
theorem zyS9_which : zy_srt 0 mc9_which.2.1 = true := by decide +kernel
set_option maxRecDepth 100000 in
theorem qE9_which (d : Nat) (a0 : Nat) (a1 : Nat) (h : zv_H) : E9_which d a0 a1 h =
  L9_which_2 d a0 a1 (0 : Int) h := by
  refine (zy_lim_eq zyS9_which _ _ _ _).trans ?_
  rfl
set_option maxRecDepth 100000 in
theorem qL9_which_2 (d : Nat) (a0 : Nat) (a1 : Nat) (a2 : Int) (h : zv_H) : L9_which_2 d a0 a1 a2 h =
  ((zv_al h a1).bind fun v1 =>
  (if a2 < v1 then
    ((zv_gI h a0 9 34).bind fun v2 =>
    (if v2 = (1 : Int) then
      ((zv_gI h a0 9 30).bind fun v3 =>
      (if v3 = 0 then
        ((zv_aJ h a1 a2).bind fun v4 =>
        ((zv_gJ h a0 9 38).bind fun v5 =>
        (if (zv_lcmp v4 v5) = 0 then
          ((zv_gI h a0 9 33).bind fun v6 =>
          ((zv_gI h a0 9 32).bind fun v7 =>
          (if (zv_w (v6 - v7)) ≤ (8 : Int) then
            (some (some (zv_i a2), h))
          else
            L9_which_2 d a0 a1 (zv_w (a2 + 1)) h)))
        else
          L9_which_2 d a0 a1 (zv_w (a2 + 1)) h)))
      else
        (some (some (zv_i (-1 : Int)), h))))
    else
      (some (some (zv_i (-1 : Int)), h))))
  else
    (some (some (zv_i (-1 : Int)), h)))) := by
  refine (zy_lim_eq zyS9_which _ _ _ _).trans ?_
  rfl
theorem zyS9_isSign : zy_srt 0 mc9_isSign.2.1 = true := by decide +kernel
set_option maxRecDepth 100000 in
theorem qE9_isSign (d : Nat) (a0 : Nat) (a1 : Int) (h : zv_H) : E9_isSign d a0 a1 h =
  ((zv_gI h a0 9 30).bind fun v1 =>
  (if v1 = 0 then
    ((zv_gI h a0 9 34).bind fun v2 =>
    (if v2 = (3 : Int) then
      ((zv_gR h a0 9 26).bind fun v3 =>
      ((zv_gI h a0 9 32).bind fun v4 =>
      ((zv_aB h v3 v4).bind fun v5 =>
      (if v5 = a1 then
        (some (some (zv_i (1 : Int)), h))
      else
        (some (some (zv_i (0 : Int)), h))))))
    else
      (some (some (zv_i (0 : Int)), h))))
  else
    (some (some (zv_i (0 : Int)), h)))) := by
  refine (zy_lim_eq zyS9_isSign _ _ _ _).trans ?_
  rfl
theorem zyS9_takes : zy_srt 0 mc9_takes.2.1 = true := by decide +kernel
set_option maxRecDepth 100000 in
theorem qE9_takes (d : Nat) (a0 : Nat) (a1 : Int) (h : zv_H) : E9_takes d a0 a1 h =
  ((C9_isSign d a0 a1 h).bind fun q1 =>
  ((C9_must d a0 q1.1 (2 : Int) q1.2).bind fun g2 =>
  ((zv_gI g2 a0 9 30).bind fun v3 =>
  (if v3 = 0 then
    ((C9_reads d a0 g2).bind fun g4 =>
    (some (none, g4)))
  else
    (some (none, g2)))))) := by
  refine (zy_lim_eq zyS9_takes _ _ _ _).trans ?_
  rfl
theorem zyS9_takesNumber : zy_srt 0 mc9_takesNumber.2.1 = true := by decide +kernel
set_option maxRecDepth 100000 in
theorem qE9_takesNumber (d : Nat) (a0 : Nat) (h : zv_H) : E9_takesNumber d a0 h =
  ((zv_gI h a0 9 34).bind fun v1 =>
  (if v1 = (2 : Int) then
    L9_takesNumber_14 d a0 a0 (1 : Int) h
  else
    L9_takesNumber_14 d a0 a0 (0 : Int) h)) := by
  refine (zy_lim_eq zyS9_takesNumber _ _ _ _).trans ?_
  rfl
set_option maxRecDepth 100000 in
theorem qL9_takesNumber_14 (d : Nat) (a0 : Nat) (e0 : Nat) (e1 : Int) (h : zv_H) : L9_takesNumber_14 d a0 e0 e1 h =
  ((C9_must d e0 e1 (2 : Int) h).bind fun g1 =>
  ((zv_gI g1 a0 9 35).bind fun v2 =>
  ((zv_gI g1 a0 9 30).bind fun v3 =>
  (if v3 = 0 then
    ((C9_reads d a0 g1).bind fun g4 =>
    (some (some (zv_i v2), g4)))
  else
    (some (some (zv_i v2), g1)))))) := by
  refine (zy_lim_eq zyS9_takesNumber _ _ _ _).trans ?_
  rfl
theorem zyS9_takesWord : zy_srt 0 mc9_takesWord.2.1 = true := by decide +kernel
set_option maxRecDepth 100000 in
theorem qE9_takesWord (d : Nat) (a0 : Nat) (a1 : Int) (h : zv_H) : E9_takesWord d a0 a1 h =
  ((zv_gI h a0 9 34).bind fun v1 =>
  (if v1 = (1 : Int) then
    L9_takesWord_14 d a0 a1 a0 (1 : Int) h
  else
    L9_takesWord_14 d a0 a1 a0 (0 : Int) h)) := by
  refine (zy_lim_eq zyS9_takesWord _ _ _ _).trans ?_
  rfl
set_option maxRecDepth 100000 in
theorem qL9_takesWord_14 (d : Nat) (a0 : Nat) (a1 : Int) (e0 : Nat) (e1 : Int) (h : zv_H) : L9_takesWord_14 d a0 a1 e0 e1 h =
  ((C9_must d e0 e1 (2 : Int) h).bind fun g1 =>
  ((zv_gI g1 a0 9 33).bind fun v2 =>
  ((zv_gI g1 a0 9 32).bind fun v3 =>
  (if (zv_w (v2 - v3)) ≤ a1 then
    L9_takesWord_37 d a0 a0 (1 : Int) g1
  else
    L9_takesWord_37 d a0 a0 (0 : Int) g1)))) := by
  refine (zy_lim_eq zyS9_takesWord _ _ _ _).trans ?_
  rfl
set_option maxRecDepth 100000 in
theorem qL9_takesWord_37 (d : Nat) (a0 : Nat) (e0 : Nat) (e1 : Int) (h : zv_H) : L9_takesWord_37 d a0 e0 e1 h =
  ((C9_must d e0 e1 (4 : Int) h).bind fun g1 =>
  ((zv_gI g1 a0 9 30).bind fun v2 =>
  (if v2 ≤ 0 then
    ((zv_gI g1 a0 9 33).bind fun v3 =>
    ((zv_gI g1 a0 9 32).bind fun v4 =>
    ((zv_pI g1 a0 9 19 (zv_w (v3 - v4))).bind fun g5 =>
    L9_takesWord_64 d a0 (0 : Int) g5)))
  else
    (some (none, g1))))) := by
  refine (zy_lim_eq zyS9_takesWord _ _ _ _).trans ?_
  rfl
set_option maxRecDepth 100000 in
theorem qL9_takesWord_64 (d : Nat) (a0 : Nat) (a2 : Int) (h : zv_H) : L9_takesWord_64 d a0 a2 h =
  ((zv_gI h a0 9 19).bind fun v1 =>
  (if a2 < v1 then
    ((zv_gR h a0 9 17).bind fun v2 =>
    ((zv_gR h a0 9 26).bind fun v3 =>
    ((zv_gI h a0 9 32).bind fun v4 =>
    ((zv_aB h v3 (zv_w (v4 + a2))).bind fun v5 =>
    ((zv_wI h v2 a2 (zv_w (v5 - (97 : Int)))).bind fun g6 =>
    L9_takesWord_64 d a0 (zv_w (a2 + 1)) g6)))))
  else
    ((C9_reads d a0 h).bind fun g7 =>
    (some (none, g7))))) := by
  refine (zy_lim_eq zyS9_takesWord _ _ _ _).trans ?_
  rfl
theorem zyS9_emits : zy_srt 0 mc9_emits.2.1 = true := by decide +kernel
set_option maxRecDepth 100000 in
theorem qE9_emits (d : Nat) (a0 : Nat) (a1 : Int) (h : zv_H) : E9_emits d a0 a1 h =
  ((zv_gI h a0 9 30).bind fun v1 =>
  (if v1 ≤ 0 then
    ((zv_gR h a0 9 0).bind fun v2 =>
    ((zv_gR h a0 9 0).bind fun v3 =>
    ((zv_aI h v3 (4 : Int)).bind fun v4 =>
    ((zv_wI h v2 (zv_w ((8 : Int) + v4)) a1).bind fun g5 =>
    ((zv_gR g5 a0 9 0).bind fun v6 =>
    ((zv_aI g5 v6 (4 : Int)).bind fun v7 =>
    ((zv_wI g5 v6 (4 : Int) (zv_w (v7 + (1 : Int)))).bind fun g8 =>
    (some (none, g8)))))))))
  else
    (some (none, h)))) := by
  refine (zy_lim_eq zyS9_emits _ _ _ _).trans ?_
  rfl
theorem zyS9_test : zy_srt 0 mc9_test.2.1 = true := by decide +kernel
set_option maxRecDepth 100000 in
theorem qE9_test (d : Nat) (a0 : Nat) (h : zv_H) : E9_test d a0 h =
  ((C9_side d a0 h).bind fun g1 =>
  L9_test_4 d a0 g1) := by
  refine (zy_lim_eq zyS9_test _ _ _ _).trans ?_
  rfl
set_option maxRecDepth 100000 in
theorem qL9_test_4 (d : Nat) (a0 : Nat) (h : zv_H) : L9_test_4 d a0 h =
  ((zv_gR h a0 9 40).bind fun v1 =>
  ((C9_which d a0 v1 h).bind fun q2 =>
  (if q2.1 = (2 : Int) then
    ((C9_reads d a0 q2.2).bind fun g3 =>
    ((C9_side d a0 g3).bind fun g4 =>
    ((C9_emits d a0 (-3 : Int) g4).bind fun g5 =>
    L9_test_4 d a0 g5)))
  else
    (some (none, q2.2))))) := by
  refine (zy_lim_eq zyS9_test _ _ _ _).trans ?_
  rfl
theorem zyS9_side : zy_srt 0 mc9_side.2.1 = true := by decide +kernel
set_option maxRecDepth 100000 in
theorem qE9_side (d : Nat) (a0 : Nat) (h : zv_H) : E9_side d a0 h =
  ((C9_fact d a0 h).bind fun g1 =>
  L9_side_4 d a0 g1) := by
  refine (zy_lim_eq zyS9_side _ _ _ _).trans ?_
  rfl
set_option maxRecDepth 100000 in
theorem qL9_side_4 (d : Nat) (a0 : Nat) (h : zv_H) : L9_side_4 d a0 h =
  ((zv_gR h a0 9 40).bind fun v1 =>
  ((C9_which d a0 v1 h).bind fun q2 =>
  (if q2.1 = (3 : Int) then
    ((C9_reads d a0 q2.2).bind fun g3 =>
    ((C9_fact d a0 g3).bind fun g4 =>
    ((C9_emits d a0 (-2 : Int) g4).bind fun g5 =>
    L9_side_4 d a0 g5)))
  else
    (some (none, q2.2))))) := by
  refine (zy_lim_eq zyS9_side _ _ _ _).trans ?_
  rfl
theorem zyS9_fact : zy_srt 0 mc9_fact.2.1 = true := by decide +kernel
set_option maxRecDepth 100000 in
theorem qE9_fact (d : Nat) (a0 : Nat) (h : zv_H) : E9_fact d a0 h =
  ((zv_gR h a0 9 40).bind fun v1 =>
  ((C9_which d a0 v1 h).bind fun q2 =>
  (if q2.1 = (4 : Int) then
    L9_fact_17 d a0 (1 : Int) q2.2
  else
    L9_fact_17 d a0 (0 : Int) q2.2))) := by
  refine (zy_lim_eq zyS9_fact _ _ _ _).trans ?_
  rfl
set_option maxRecDepth 100000 in
theorem qL9_fact_17 (d : Nat) (a0 : Nat) (e0 : Int) (h : zv_H) : L9_fact_17 d a0 e0 h =
  ((zv_gI h a0 9 30).bind fun v1 =>
  (if v1 = 0 then
    (if e0 = 0 then
      ((C9_isSign d a0 (91 : Int) h).bind fun q2 =>
      (if q2.1 = 0 then
        L9_fact_117 d a0 q2.2
      else
        L9_fact_38 d a0 e0 q2.2))
    else
      L9_fact_38 d a0 e0 h)
  else
    L9_fact_117 d a0 h)) := by
  refine (zy_lim_eq zyS9_fact _ _ _ _).trans ?_
  rfl
set_option maxRecDepth 100000 in
theorem qL9_fact_38 (d : Nat) (a0 : Nat) (a1 : Int) (h : zv_H) : L9_fact_38 d a0 a1 h =
  ((zv_gI h a0 9 37).bind fun v1 =>
  (if v1 < (6 : Int) then
    L9_fact_53 d a0 a1 a0 (1 : Int) h
  else
    L9_fact_53 d a0 a1 a0 (0 : Int) h)) := by
  refine (zy_lim_eq zyS9_fact _ _ _ _).trans ?_
  rfl
set_option maxRecDepth 100000 in
theorem qL9_fact_53 (d : Nat) (a0 : Nat) (a1 : Int) (e0 : Nat) (e1 : Int) (h : zv_H) : L9_fact_53 d a0 a1 e0 e1 h =
  ((C9_must d e0 e1 (6 : Int) h).bind fun g1 =>
  ((zv_gI g1 a0 9 30).bind fun v2 =>
  (if v2 ≤ 0 then
    ((zv_gI g1 a0 9 37).bind fun v3 =>
    ((zv_pI g1 a0 9 37 (zv_w (v3 + (1 : Int)))).bind fun g4 =>
    ((C9_reads d a0 g4).bind fun g5 =>
    (if a1 = 0 then
      ((C9_test d a0 g5).bind fun g6 =>
      ((C9_takes d a0 (93 : Int) g6).bind fun g7 =>
      ((zv_gI g7 a0 9 37).bind fun v8 =>
      ((zv_pI g7 a0 9 37 (zv_w (v8 - (1 : Int)))).bind fun g9 =>
      (some (none, g9))))))
    else
      ((C9_fact d a0 g5).bind fun g10 =>
      ((C9_emits d a0 (-1 : Int) g10).bind fun g11 =>
      ((zv_gI g11 a0 9 37).bind fun v12 =>
      ((zv_pI g11 a0 9 37 (zv_w (v12 - (1 : Int)))).bind fun g13 =>
      (some (none, g13))))))))))
  else
    (some (none, g1))))) := by
  refine (zy_lim_eq zyS9_fact _ _ _ _).trans ?_
  rfl
set_option maxRecDepth 100000 in
theorem qL9_fact_117 (d : Nat) (a0 : Nat) (h : zv_H) : L9_fact_117 d a0 h =
  ((zv_gR h a0 9 41).bind fun v1 =>
  ((C9_which d a0 v1 h).bind fun q2 =>
  (if q2.1 < 0 then
    L9_fact_136 d a0 q2.1 a0 (0 : Int) q2.2
  else
    L9_fact_136 d a0 q2.1 a0 (1 : Int) q2.2))) := by
  refine (zy_lim_eq zyS9_fact _ _ _ _).trans ?_
  rfl
set_option maxRecDepth 100000 in
theorem qL9_fact_136 (d : Nat) (a0 : Nat) (a2 : Int) (e0 : Nat) (e1 : Int) (h : zv_H) : L9_fact_136 d a0 a2 e0 e1 h =
  ((C9_must d e0 e1 (2 : Int) h).bind fun g1 =>
  ((zv_gI g1 a0 9 30).bind fun v2 =>
  (if v2 ≤ 0 then
    ((C9_reads d a0 g1).bind fun g3 =>
    ((C9_isSign d a0 (60 : Int) g3).bind fun q4 =>
    (if q4.1 = 0 then
      ((C9_isSign d a0 (61 : Int) q4.2).bind fun q5 =>
      (if q5.1 = 0 then
        ((C9_isSign d a0 (62 : Int) q5.2).bind fun q6 =>
        (if q6.1 = 0 then
          L9_fact_192 d a0 a2 (-1 : Int) q6.2
        else
          L9_fact_192 d a0 a2 (2 : Int) q6.2))
      else
        L9_fact_192 d a0 a2 (1 : Int) q5.2))
    else
      L9_fact_192 d a0 a2 (0 : Int) q4.2)))
  else
    (some (none, g1))))) := by
  refine (zy_lim_eq zyS9_fact _ _ _ _).trans ?_
  rfl
set_option maxRecDepth 100000 in
theorem qL9_fact_192 (d : Nat) (a0 : Nat) (a2 : Int) (e0 : Int) (h : zv_H) : L9_fact_192 d a0 a2 e0 h =
  (if e0 < 0 then
    L9_fact_203 d a0 a2 e0 a0 (0 : Int) h
  else
    L9_fact_203 d a0 a2 e0 a0 (1 : Int) h) := by
  refine (zy_lim_eq zyS9_fact _ _ _ _).trans ?_
  rfl
set_option maxRecDepth 100000 in
theorem qL9_fact_203 (d : Nat) (a0 : Nat) (a2 : Int) (a3 : Int) (e0 : Nat) (e1 : Int) (h : zv_H) : L9_fact_203 d a0 a2 a3 e0 e1 h =
  ((C9_must d e0 e1 (2 : Int) h).bind fun g1 =>
  ((zv_gI g1 a0 9 30).bind fun v2 =>
  (if v2 = 0 then
    ((C9_reads d a0 g1).bind fun g3 =>
    L9_fact_218 d a0 a2 a3 g3)
  else
    L9_fact_218 d a0 a2 a3 g1))) := by
  refine (zy_lim_eq zyS9_fact _ _ _ _).trans ?_
  rfl
set_option maxRecDepth 100000 in
theorem qL9_fact_218 (d : Nat) (a0 : Nat) (a2 : Int) (a3 : Int) (h : zv_H) : L9_fact_218 d a0 a2 a3 h =
  ((C9_takesNumber d a0 h).bind fun q1 =>
  ((C9_emits d a0 (zv_w ((zv_w (a2 + (zv_w ((6 : Int) * a3)))) + (zv_w ((18 : Int) * q1.1)))) q1.2).bind fun g2 =>
  (some (none, g2)))) := by
  refine (zy_lim_eq zyS9_fact _ _ _ _).trans ?_
  rfl
theorem zyS9_readsLine : zy_srt 0 mc9_readsLine.2.1 = true := by decide +kernel
set_option maxRecDepth 100000 in
theorem qE9_readsLine (d : Nat) (a0 : Nat) (h : zv_H) : E9_readsLine d a0 h =
  ((zv_gR h a0 9 39).bind fun v1 =>
  ((C9_which d a0 v1 h).bind fun q2 =>
  (if q2.1 < 0 then
    L9_readsLine_19 d a0 q2.1 a0 (0 : Int) q2.2
  else
    L9_readsLine_19 d a0 q2.1 a0 (1 : Int) q2.2))) := by
  refine (zy_lim_eq zyS9_readsLine _ _ _ _).trans ?_
  rfl
set_option maxRecDepth 100000 in
theorem qL9_readsLine_19 (d : Nat) (a0 : Nat) (a1 : Int) (e0 : Nat) (e1 : Int) (h : zv_H) : L9_readsLine_19 d a0 a1 e0 e1 h =
  ((C9_must d e0 e1 (2 : Int) h).bind fun g1 =>
  ((zv_gI g1 a0 9 30).bind fun v2 =>
  (if v2 ≤ 0 then
    ((C9_reads d a0 g1).bind fun g3 =>
    ((zv_pI g3 a0 9 42 (0 : Int)).bind fun g4 =>
    ((zv_pI g4 a0 9 43 (0 : Int)).bind fun g5 =>
    (if a1 < (3 : Int) then
      L9_readsLine_61 d a0 a1 g5
    else
      (if a1 = (5 : Int) then
        L9_readsLine_61 d a0 a1 g5
      else
        (if a1 ≤ (6 : Int) then
          L9_readsLine_69 d a0 a1 g5
        else
          L9_readsLine_61 d a0 a1 g5))))))
  else
    (some (none, g1))))) := by
  refine (zy_lim_eq zyS9_readsLine _ _ _ _).trans ?_
  rfl
set_option maxRecDepth 100000 in
theorem qL9_readsLine_61 (d : Nat) (a0 : Nat) (a1 : Int) (h : zv_H) : L9_readsLine_61 d a0 a1 h =
  ((C9_takesNumber d a0 h).bind fun q1 =>
  ((zv_pI q1.2 a0 9 42 q1.1).bind fun g2 =>
  L9_readsLine_69 d a0 a1 g2)) := by
  refine (zy_lim_eq zyS9_readsLine _ _ _ _).trans ?_
  rfl
set_option maxRecDepth 100000 in
theorem qL9_readsLine_69 (d : Nat) (a0 : Nat) (a1 : Int) (h : zv_H) : L9_readsLine_69 d a0 a1 h =
  (if a1 = (1 : Int) then
    ((C9_takesNumber d a0 h).bind fun q1 =>
    ((zv_pI q1.2 a0 9 43 q1.1).bind fun g2 =>
    L9_readsLine_82 d a0 a1 g2))
  else
    L9_readsLine_82 d a0 a1 h) := by
  refine (zy_lim_eq zyS9_readsLine _ _ _ _).trans ?_
  rfl
set_option maxRecDepth 100000 in
theorem qL9_readsLine_82 (d : Nat) (a0 : Nat) (a1 : Int) (h : zv_H) : L9_readsLine_82 d a0 a1 h =
  (if a1 = 0 then
    ((C9_takesWord d a0 (12 : Int) h).bind fun g1 =>
    L9_readsLine_92 d a0 a1 g1)
  else
    L9_readsLine_92 d a0 a1 h) := by
  refine (zy_lim_eq zyS9_readsLine _ _ _ _).trans ?_
  rfl
set_option maxRecDepth 100000 in
theorem qL9_readsLine_92 (d : Nat) (a0 : Nat) (a1 : Int) (h : zv_H) : L9_readsLine_92 d a0 a1 h =
  (if a1 = (6 : Int) then
    ((C9_takesWord d a0 (6 : Int) h).bind fun g1 =>
    L9_readsLine_104 d a0 a1 g1)
  else
    L9_readsLine_104 d a0 a1 h) := by
  refine (zy_lim_eq zyS9_readsLine _ _ _ _).trans ?_
  rfl
set_option maxRecDepth 100000 in
theorem qL9_readsLine_104 (d : Nat) (a0 : Nat) (a1 : Int) (h : zv_H) : L9_readsLine_104 d a0 a1 h =
  ((zv_gI h a0 9 34).bind fun v1 =>
  (if v1 = (3 : Int) then
    ((zv_gR h a0 9 26).bind fun v2 =>
    ((zv_gI h a0 9 32).bind fun v3 =>
    ((zv_aB h v2 v3).bind fun v4 =>
    (if v4 = (59 : Int) then
      L9_readsLine_132 d a0 a1 a0 (1 : Int) h
    else
      L9_readsLine_131 d a0 a1 a0 h))))
  else
    L9_readsLine_131 d a0 a1 a0 h)) := by
  refine (zy_lim_eq zyS9_readsLine _ _ _ _).trans ?_
  rfl
set_option maxRecDepth 100000 in
theorem qL9_readsLine_131 (d : Nat) (a0 : Nat) (a1 : Int) (e0 : Nat) (h : zv_H) : L9_readsLine_131 d a0 a1 e0 h =
  L9_readsLine_132 d a0 a1 e0 (0 : Int) h := by
  refine (zy_lim_eq zyS9_readsLine _ _ _ _).trans ?_
  rfl
set_option maxRecDepth 100000 in
theorem qL9_readsLine_132 (d : Nat) (a0 : Nat) (a1 : Int) (e0 : Nat) (e1 : Int) (h : zv_H) : L9_readsLine_132 d a0 a1 e0 e1 h =
  ((C9_must d e0 e1 (2 : Int) h).bind fun g1 =>
  ((zv_gI g1 a0 9 30).bind fun v2 =>
  (if v2 ≤ 0 then
    ((C9_does d a0 a1 g1).bind fun q3 =>
    (if q3.1 < 0 then
      L9_readsLine_158 d a0 a0 (0 : Int) q3.2
    else
      L9_readsLine_158 d a0 a0 (1 : Int) q3.2))
  else
    (some (none, g1))))) := by
  refine (zy_lim_eq zyS9_readsLine _ _ _ _).trans ?_
  rfl
set_option maxRecDepth 100000 in
theorem qL9_readsLine_158 (d : Nat) (a0 : Nat) (e0 : Nat) (e1 : Int) (h : zv_H) : L9_readsLine_158 d a0 e0 e1 h =
  ((C9_must d e0 e1 (7 : Int) h).bind fun g1 =>
  ((zv_gI g1 a0 9 30).bind fun v2 =>
  (if v2 = 0 then
    ((C9_reads d a0 g1).bind fun g3 =>
    (some (none, g3)))
  else
    (some (none, g1))))) := by
  refine (zy_lim_eq zyS9_readsLine _ _ _ _).trans ?_
  rfl
theorem zyS9_does : zy_srt 0 mc9_does.2.1 = true := by decide +kernel
set_option maxRecDepth 100000 in
theorem qE9_does (d : Nat) (a0 : Nat) (a1 : Int) (h : zv_H) : E9_does d a0 a1 h =
  (if a1 = (0 : Int) then
    ((zv_gI h a0 9 42).bind fun v1 =>
    ((C9_putNow d a0 v1 h).bind fun q2 =>
    (some (some (zv_i q2.1), q2.2))))
  else
  if a1 = (1 : Int) then
    ((zv_gI h a0 9 42).bind fun v3 =>
    ((zv_gI h a0 9 43).bind fun v4 =>
    ((C9_cutNow d a0 v3 v4 h).bind fun q5 =>
    (some (some (zv_i q5.1), q5.2)))))
  else
  if a1 = (2 : Int) then
    ((zv_gR h a0 9 0).bind fun v6 =>
    ((zv_aI h v6 (1 : Int)).bind fun v7 =>
    ((zv_gI h a0 9 42).bind fun v8 =>
    ((zv_wI h v6 (1 : Int) (zv_w (v7 + v8))).bind fun g9 =>
    (some (some (zv_i (0 : Int)), g9))))))
  else
  if a1 = (3 : Int) then
    ((C9_undoNow d a0 h).bind fun q10 =>
    (some (some (zv_i q10.1), q10.2)))
  else
  if a1 = (4 : Int) then
    ((C9_redoNow d a0 h).bind fun q11 =>
    (some (some (zv_i q11.1), q11.2)))
  else
  if a1 = (5 : Int) then
    ((zv_gI h a0 9 42).bind fun v12 =>
    ((C9_goNow d a0 v12 h).bind fun q13 =>
    (some (some (zv_i q13.1), q13.2))))
  else
  if a1 = (6 : Int) then
    ((C9_nameNow d a0 h).bind fun q14 =>
    (some (some (zv_i q14.1), q14.2)))
  else
  if a1 = (7 : Int) then
    ((zv_gI h a0 9 42).bind fun v15 =>
    ((C9_turnNow d a0 v15 (2 : Int) h).bind fun q16 =>
    (some (some (zv_i q16.1), q16.2))))
  else
  if a1 = (8 : Int) then
    ((zv_gI h a0 9 42).bind fun v17 =>
    ((C9_turnNow d a0 v17 (3 : Int) h).bind fun q18 =>
    (some (some (zv_i q18.1), q18.2))))
  else
  if a1 = (9 : Int) then
    ((zv_gI h a0 9 42).bind fun v19 =>
    ((C9_carryNow d a0 v19 h).bind fun q20 =>
    (some (some (zv_i q20.1), q20.2))))
  else
  if a1 = (10 : Int) then
    ((zv_gI h a0 9 42).bind fun v21 =>
    ((C9_mergeNow d a0 v21 h).bind fun q22 =>
    (some (some (zv_i q22.1), q22.2))))
  else
    ((zv_gI h a0 9 42).bind fun v23 =>
    ((C9_pruneNow d a0 v23 h).bind fun q24 =>
    (some (some (zv_i q24.1), q24.2))))) := by
  refine (zy_lim_eq zyS9_does _ _ _ _).trans ?_
  rfl
theorem zyS9_load : zy_srt 0 mc9_load.2.1 = true := by decide +kernel
set_option maxRecDepth 100000 in
theorem qE9_load (d : Nat) (a0 : Nat) (a1 : Int) (h : zv_H) : E9_load d a0 a1 h =
  ((zv_gI h a0 9 27).bind fun v1 =>
  ((C9_isIn d a1 (0 : Int) v1 h).bind fun q2 =>
  (if q2.1 = 0 then
    L9_load_18 d a0 a1 a0 (1 : Int) q2.2
  else
    L9_load_18 d a0 a1 a0 (0 : Int) q2.2))) := by
  refine (zy_lim_eq zyS9_load _ _ _ _).trans ?_
  rfl
set_option maxRecDepth 100000 in
theorem qL9_load_18 (d : Nat) (a0 : Nat) (a1 : Int) (e0 : Nat) (e1 : Int) (h : zv_H) : L9_load_18 d a0 a1 e0 e1 h =
  ((C9_is d e0 e1 h).bind fun q1 =>
  (if q1.1 = 0 then
    (some (some (zv_i (-1 : Int)), q1.2))
  else
    ((zv_pI q1.2 a0 9 36 a1).bind fun g2 =>
    ((zv_pI g2 a0 9 33 (0 : Int)).bind fun g3 =>
    ((zv_pI g3 a0 9 30 (0 : Int)).bind fun g4 =>
    ((zv_pI g4 a0 9 37 (0 : Int)).bind fun g5 =>
    L9_load_48 d a0 (0 : Int) g5)))))) := by
  refine (zy_lim_eq zyS9_load _ _ _ _).trans ?_
  rfl
set_option maxRecDepth 100000 in
theorem qL9_load_48 (d : Nat) (a0 : Nat) (a2 : Int) (h : zv_H) : L9_load_48 d a0 a2 h =
  (if a2 < (4236 : Int) then
    ((zv_gR h a0 9 1).bind fun v1 =>
    ((zv_gR h a0 9 0).bind fun v2 =>
    ((zv_aI h v2 a2).bind fun v3 =>
    ((zv_wI h v1 a2 v3).bind fun g4 =>
    L9_load_48 d a0 (zv_w (a2 + 1)) g4))))
  else
    ((C9_clears d a0 h).bind fun g5 =>
    ((C9_reads d a0 g5).bind fun g6 =>
    ((zv_gR g6 a0 9 40).bind fun v7 =>
    ((C9_which d a0 v7 g6).bind fun q8 =>
    (if q8.1 = 0 then
      ((C9_reads d a0 q8.2).bind fun g9 =>
      ((C9_takesWord d a0 (40 : Int) g9).bind fun g10 =>
      L9_load_104 d a0 (0 : Int) g10))
    else
      L9_load_156 d a0 q8.2)))))) := by
  refine (zy_lim_eq zyS9_load _ _ _ _).trans ?_
  rfl
set_option maxRecDepth 100000 in
theorem qL9_load_104 (d : Nat) (a0 : Nat) (a2 : Int) (h : zv_H) : L9_load_104 d a0 a2 h =
  ((zv_gI h a0 9 19).bind fun v1 =>
  (if a2 < v1 then
    ((zv_gI h a0 9 30).bind fun v2 =>
    (if v2 = 0 then
      ((zv_gR h a0 9 17).bind fun v3 =>
      ((zv_aI h v3 a2).bind fun v4 =>
      ((C9_sets d a0 (0 : Int) (zv_w ((12 : Int) + a2)) v4 h).bind fun g5 =>
      L9_load_104 d a0 (zv_w (a2 + 1)) g5)))
    else
      L9_load_140 d a0 h))
  else
    L9_load_140 d a0 h)) := by
  refine (zy_lim_eq zyS9_load _ _ _ _).trans ?_
  rfl
set_option maxRecDepth 100000 in
theorem qL9_load_140 (d : Nat) (a0 : Nat) (h : zv_H) : L9_load_140 d a0 h =
  ((zv_gI h a0 9 19).bind fun v1 =>
  ((C9_sets d a0 (0 : Int) (5 : Int) v1 h).bind fun g2 =>
  ((C9_takes d a0 (59 : Int) g2).bind fun g3 =>
  L9_load_156 d a0 g3))) := by
  refine (zy_lim_eq zyS9_load _ _ _ _).trans ?_
  rfl
set_option maxRecDepth 100000 in
theorem qL9_load_156 (d : Nat) (a0 : Nat) (h : zv_H) : L9_load_156 d a0 h =
  ((zv_gR h a0 9 40).bind fun v1 =>
  ((C9_which d a0 v1 h).bind fun q2 =>
  (if q2.1 = (1 : Int) then
    ((C9_reads d a0 q2.2).bind fun g3 =>
    ((C9_test d a0 g3).bind fun g4 =>
    ((C9_takes d a0 (59 : Int) g4).bind fun g5 =>
    L9_load_182 d a0 g5)))
  else
    L9_load_182 d a0 q2.2))) := by
  refine (zy_lim_eq zyS9_load _ _ _ _).trans ?_
  rfl
set_option maxRecDepth 100000 in
theorem qL9_load_182 (d : Nat) (a0 : Nat) (h : zv_H) : L9_load_182 d a0 h =
  ((zv_gI h a0 9 30).bind fun v1 =>
  (if v1 = 0 then
    ((zv_gI h a0 9 34).bind fun v2 =>
    (if v2 = 0 then
      L9_load_203 d a0 h
    else
      ((C9_readsLine d a0 h).bind fun g3 =>
      L9_load_182 d a0 g3)))
  else
    L9_load_203 d a0 h)) := by
  refine (zy_lim_eq zyS9_load _ _ _ _).trans ?_
  rfl
set_option maxRecDepth 100000 in
theorem qL9_load_203 (d : Nat) (a0 : Nat) (h : zv_H) : L9_load_203 d a0 h =
  ((zv_pI h a0 9 27 (0 : Int)).bind fun g1 =>
  ((zv_gI g1 a0 9 30).bind fun v2 =>
  ((zv_pI g1 a0 9 28 v2).bind fun g3 =>
  ((zv_gI g3 a0 9 30).bind fun v4 =>
  (if v4 ≤ 0 then
    L9_load_232 d a0 a0 (-1 : Int) g3
  else
    ((zv_gI g3 a0 9 31).bind fun v5 =>
    L9_load_232 d a0 a0 v5 g3)))))) := by
  refine (zy_lim_eq zyS9_load _ _ _ _).trans ?_
  rfl
set_option maxRecDepth 100000 in
theorem qL9_load_232 (d : Nat) (a0 : Nat) (e0 : Nat) (e1 : Int) (h : zv_H) : L9_load_232 d a0 e0 e1 h =
  ((zv_pI h e0 9 29 e1).bind fun g1 =>
  ((zv_pI g1 a0 9 3 (0 : Int)).bind fun g2 =>
  ((zv_gI g2 a0 9 30).bind fun v3 =>
  (if v3 = 0 then
    ((C9_states d a0 g2).bind fun q4 =>
    (some (some (zv_i q4.1), q4.2)))
  else
    L9_load_254 d a0 (0 : Int) g2)))) := by
  refine (zy_lim_eq zyS9_load _ _ _ _).trans ?_
  rfl
set_option maxRecDepth 100000 in
theorem qL9_load_254 (d : Nat) (a0 : Nat) (a2 : Int) (h : zv_H) : L9_load_254 d a0 a2 h =
  (if a2 < (4236 : Int) then
    ((zv_gR h a0 9 0).bind fun v1 =>
    ((zv_gR h a0 9 1).bind fun v2 =>
    ((zv_aI h v2 a2).bind fun v3 =>
    ((zv_wI h v1 a2 v3).bind fun g4 =>
    L9_load_254 d a0 (zv_w (a2 + 1)) g4))))
  else
    ((C9_refuse d a0 (9 : Int) h).bind fun q5 =>
    (some (some (zv_i q5.1), q5.2)))) := by
  refine (zy_lim_eq zyS9_load _ _ _ _).trans ?_
  rfl
theorem zyS9_fault : zy_srt 0 mc9_fault.2.1 = true := by decide +kernel
set_option maxRecDepth 100000 in
theorem qE9_fault (d : Nat) (a0 : Nat) (a1 : Int) (h : zv_H) : E9_fault d a0 a1 h =
  ((zv_pI h a0 9 4 (0 : Int)).bind fun g1 =>
  (if a1 = 0 then
    ((zv_gI g1 a0 9 28).bind fun v2 =>
    (some (some (zv_i v2), g1)))
  else
    (if a1 = (1 : Int) then
      ((zv_gI g1 a0 9 29).bind fun v3 =>
      (some (some (zv_i v3), g1)))
    else
      (some (some (zv_i (-1 : Int)), g1))))) := by
  refine (zy_lim_eq zyS9_fault _ _ _ _).trans ?_
  rfl
theorem zyS9_leaves : zy_srt 0 mc9_leaves.2.1 = true := by decide +kernel
set_option maxRecDepth 100000 in
theorem qE9_leaves (d : Nat) (a0 : Nat) (h : zv_H) : E9_leaves d a0 h =
  L9_leaves_4 d a0 (0 : Int) (0 : Int) h := by
  refine (zy_lim_eq zyS9_leaves _ _ _ _).trans ?_
  rfl
set_option maxRecDepth 100000 in
theorem qL9_leaves_4 (d : Nat) (a0 : Nat) (a1 : Int) (a2 : Int) (h : zv_H) : L9_leaves_4 d a0 a1 a2 h =
  (if a2 < (48 : Int) then
    ((C9_isState d a0 a2 h).bind fun q1 =>
    (if q1.1 = 0 then
      L9_leaves_4 d a0 (zv_w (a1 + (0 : Int))) (zv_w (a2 + 1)) q1.2
    else
      ((C9_childrenOf d a0 a2 q1.2).bind fun q2 =>
      (if q2.1 = 0 then
        L9_leaves_4 d a0 (zv_w (a1 + (1 : Int))) (zv_w (a2 + 1)) q2.2
      else
        L9_leaves_4 d a0 (zv_w (a1 + (0 : Int))) (zv_w (a2 + 1)) q2.2))))
  else
    (some (some (zv_i a1), h))) := by
  refine (zy_lim_eq zyS9_leaves _ _ _ _).trans ?_
  rfl
theorem zyS9_groups : zy_srt 0 mc9_groups.2.1 = true := by decide +kernel
set_option maxRecDepth 100000 in
theorem qE9_groups (d : Nat) (a0 : Nat) (h : zv_H) : E9_groups d a0 h =
  ((C9_here d a0 h).bind fun q1 =>
  L9_groups_7 d a0 (0 : Int) q1.1 q1.2) := by
  refine (zy_lim_eq zyS9_groups _ _ _ _).trans ?_
  rfl
set_option maxRecDepth 100000 in
theorem qL9_groups_7 (d : Nat) (a0 : Nat) (a1 : Int) (a2 : Int) (h : zv_H) : L9_groups_7 d a0 a1 a2 h =
  (if a2 ≤ 0 then
    (some (some (zv_i a1), h))
  else
    ((C9_of d a0 a2 (6 : Int) h).bind fun q1 =>
    (if q1.1 = a2 then
      L9_groups_28 d a0 a2 a1 (1 : Int) q1.2
    else
      L9_groups_28 d a0 a2 a1 (0 : Int) q1.2))) := by
  refine (zy_lim_eq zyS9_groups _ _ _ _).trans ?_
  rfl
set_option maxRecDepth 100000 in
theorem qL9_groups_28 (d : Nat) (a0 : Nat) (a2 : Int) (e0 : Int) (e1 : Int) (h : zv_H) : L9_groups_28 d a0 a2 e0 e1 h =
  ((C9_of d a0 a2 (1 : Int) h).bind fun q1 =>
  L9_groups_7 d a0 (zv_w (e0 + e1)) q1.1 q1.2) := by
  refine (zy_lim_eq zyS9_groups _ _ _ _).trans ?_
  rfl
theorem zyS9_gone : zy_srt 0 mc9_gone.2.1 = true := by decide +kernel
set_option maxRecDepth 100000 in
theorem qE9_gone (d : Nat) (a0 : Nat) (h : zv_H) : E9_gone d a0 h =
  ((C9_here d a0 h).bind fun q1 =>
  ((C9_sees d a0 q1.1 q1.2).bind fun g2 =>
  L9_gone_12 d a0 (0 : Int) (1 : Int) g2)) := by
  refine (zy_lim_eq zyS9_gone _ _ _ _).trans ?_
  rfl
set_option maxRecDepth 100000 in
theorem qL9_gone_12 (d : Nat) (a0 : Nat) (a1 : Int) (a2 : Int) (h : zv_H) : L9_gone_12 d a0 a1 a2 h =
  ((zv_gI h a0 9 10).bind fun v1 =>
  (if a2 < v1 then
    ((zv_gR h a0 9 5).bind fun v2 =>
    ((zv_aI h v2 a2).bind fun v3 =>
    ((C9_isEdit d a0 v3 h).bind fun q4 =>
    (if q4.1 = 0 then
      L9_gone_12 d a0 (zv_w (a1 + (0 : Int))) (zv_w (a2 + 1)) q4.2
    else
      ((zv_gR q4.2 a0 9 8).bind fun v5 =>
      ((zv_gR q4.2 a0 9 5).bind fun v6 =>
      ((zv_aI q4.2 v6 a2).bind fun v7 =>
      ((zv_aB q4.2 v5 v7).bind fun v8 =>
      (if v8 = 0 then
        L9_gone_12 d a0 (zv_w (a1 + (1 : Int))) (zv_w (a2 + 1)) q4.2
      else
        L9_gone_12 d a0 (zv_w (a1 + (0 : Int))) (zv_w (a2 + 1)) q4.2)))))))))
  else
    (some (some (zv_i a1), h)))) := by
  refine (zy_lim_eq zyS9_gone _ _ _ _).trans ?_
  rfl
theorem zyS9_many : zy_srt 0 mc9_many.2.1 = true := by decide +kernel
set_option maxRecDepth 100000 in
theorem qE9_many (d : Nat) (a0 : Nat) (a1 : Int) (h : zv_H) : E9_many d a0 a1 h =
  ((C9_isIn d a1 (0 : Int) (9 : Int) h).bind fun q1 =>
  (if q1.1 = 0 then
    L9_many_16 d a0 a1 a0 (1 : Int) q1.2
  else
    L9_many_16 d a0 a1 a0 (0 : Int) q1.2)) := by
  refine (zy_lim_eq zyS9_many _ _ _ _).trans ?_
  rfl
set_option maxRecDepth 100000 in
theorem qL9_many_16 (d : Nat) (a0 : Nat) (a1 : Int) (e0 : Nat) (e1 : Int) (h : zv_H) : L9_many_16 d a0 a1 e0 e1 h =
  ((C9_is d e0 e1 h).bind fun q1 =>
  (if q1.1 = 0 then
    (some (some (zv_i (-1 : Int)), q1.2))
  else
    ((C9_here d a0 q1.2).bind fun q2 =>
    ((C9_sees d a0 q2.1 q2.2).bind fun g3 =>
    (if a1 = (0 : Int) then
      ((C9_states d a0 g3).bind fun q4 =>
      (some (some (zv_i q4.1), q4.2)))
    else
    if a1 = (1 : Int) then
      ((C9_here d a0 g3).bind fun q5 =>
      (some (some (zv_i q5.1), q5.2)))
    else
    if a1 = (2 : Int) then
      ((zv_gR g3 a0 9 0).bind fun v6 =>
      ((zv_aI g3 v6 (1 : Int)).bind fun v7 =>
      (some (some (zv_i v7), g3))))
    else
    if a1 = (3 : Int) then
      ((zv_gI g3 a0 9 12).bind fun v8 =>
      (some (some (zv_i v8), g3)))
    else
    if a1 = (4 : Int) then
      ((zv_gI g3 a0 9 11).bind fun v9 =>
      (some (some (zv_i v9), g3)))
    else
    if a1 = (5 : Int) then
      ((zv_gR g3 a0 9 0).bind fun v10 =>
      ((zv_aI g3 v10 (3 : Int)).bind fun v11 =>
      (some (some (zv_i v11), g3))))
    else
    if a1 = (6 : Int) then
      ((C9_leaves d a0 g3).bind fun q12 =>
      (some (some (zv_i q12.1), q12.2)))
    else
    if a1 = (7 : Int) then
      ((C9_groups d a0 g3).bind fun q13 =>
      (some (some (zv_i q13.1), q13.2)))
    else
    if a1 = (8 : Int) then
      ((C9_gone d a0 g3).bind fun q14 =>
      (some (some (zv_i q14.1), q14.2)))
    else
      ((zv_gR g3 a0 9 0).bind fun v15 =>
      ((zv_aI g3 v15 (2 : Int)).bind fun v16 =>
      (some (some (zv_i v16), g3))))))))) := by
  refine (zy_lim_eq zyS9_many _ _ _ _).trans ?_
  rfl
theorem zyS9_letter : zy_srt 0 mc9_letter.2.1 = true := by decide +kernel
set_option maxRecDepth 100000 in
theorem qE9_letter (d : Nat) (a0 : Nat) (a1 : Int) (a2 : Int) (h : zv_H) : E9_letter d a0 a1 a2 h =
  (if a2 < 0 then
    L9_letter_22 d a0 a1 a2 a0 (1 : Int) h
  else
    ((C9_isState d a0 a1 h).bind fun q1 =>
    (if q1.1 = 0 then
      L9_letter_22 d a0 a1 a2 a0 (2 : Int) q1.2
    else
      L9_letter_22 d a0 a1 a2 a0 (0 : Int) q1.2))) := by
  refine (zy_lim_eq zyS9_letter _ _ _ _).trans ?_
  rfl
set_option maxRecDepth 100000 in
theorem qL9_letter_22 (d : Nat) (a0 : Nat) (a1 : Int) (a2 : Int) (e0 : Nat) (e1 : Int) (h : zv_H) : L9_letter_22 d a0 a1 a2 e0 e1 h =
  ((C9_is d e0 e1 h).bind fun q1 =>
  (if q1.1 = 0 then
    (some (some (zv_i (-1 : Int)), q1.2))
  else
    ((C9_sees d a0 a1 q1.2).bind fun g2 =>
    ((zv_gI g2 a0 9 12).bind fun v3 =>
    (if a2 < v3 then
      ((C9_rowPlace d a0 a2 g2).bind fun q4 =>
      ((C9_letterIn d a0 q4.1 q4.2).bind fun q5 =>
      (some (some (zv_i q5.1), q5.2))))
    else
      ((C9_refuse d a0 (5 : Int) g2).bind fun q6 =>
      (some (some (zv_i q6.1), q6.2)))))))) := by
  refine (zy_lim_eq zyS9_letter _ _ _ _).trans ?_
  rfl
theorem zyS9_namesOf : zy_srt 0 mc9_namesOf.2.1 = true := by decide +kernel
set_option maxRecDepth 100000 in
theorem qE9_namesOf (d : Nat) (a0 : Nat) (a1 : Int) (h : zv_H) : E9_namesOf d a0 a1 h =
  L9_namesOf_4 d a0 a1 (0 : Int) (0 : Int) h := by
  refine (zy_lim_eq zyS9_namesOf _ _ _ _).trans ?_
  rfl
set_option maxRecDepth 100000 in
theorem qL9_namesOf_4 (d : Nat) (a0 : Nat) (a1 : Int) (a2 : Int) (a3 : Int) (h : zv_H) : L9_namesOf_4 d a0 a1 a2 a3 h =
  ((zv_gR h a0 9 0).bind fun v1 =>
  ((zv_aI h v1 (3 : Int)).bind fun v2 =>
  (if a3 < v2 then
    ((zv_gR h a0 9 0).bind fun v3 =>
    ((zv_aI h v3 (zv_w ((zv_w ((408 : Int) + (zv_w ((2 : Int) * a3)))) + (1 : Int)))).bind fun v4 =>
    (if v4 = a1 then
      L9_namesOf_4 d a0 a1 (zv_w (a2 + (1 : Int))) (zv_w (a3 + 1)) h
    else
      L9_namesOf_4 d a0 a1 (zv_w (a2 + (0 : Int))) (zv_w (a3 + 1)) h)))
  else
    (some (some (zv_i a2), h))))) := by
  refine (zy_lim_eq zyS9_namesOf _ _ _ _).trans ?_
  rfl
theorem zyS9_state : zy_srt 0 mc9_state.2.1 = true := by decide +kernel
set_option maxRecDepth 100000 in
theorem qE9_state (d : Nat) (a0 : Nat) (a1 : Int) (a2 : Int) (h : zv_H) : E9_state d a0 a1 a2 h =
  ((C9_isIn d a2 (0 : Int) (9 : Int) h).bind fun q1 =>
  (if q1.1 = 0 then
    L9_state_28 d a0 a1 a2 a0 (1 : Int) q1.2
  else
    ((C9_isState d a0 a1 q1.2).bind fun q2 =>
    (if q2.1 = 0 then
      L9_state_28 d a0 a1 a2 a0 (2 : Int) q2.2
    else
      L9_state_28 d a0 a1 a2 a0 (0 : Int) q2.2)))) := by
  refine (zy_lim_eq zyS9_state _ _ _ _).trans ?_
  rfl
set_option maxRecDepth 100000 in
theorem qL9_state_28 (d : Nat) (a0 : Nat) (a1 : Int) (a2 : Int) (e0 : Nat) (e1 : Int) (h : zv_H) : L9_state_28 d a0 a1 a2 e0 e1 h =
  ((C9_is d e0 e1 h).bind fun q1 =>
  (if q1.1 = 0 then
    (some (some (zv_i (-1 : Int)), q1.2))
  else
    (if a2 < (6 : Int) then
      ((C9_of d a0 a1 (zv_w ((1 : Int) + a2)) q1.2).bind fun q2 =>
      (some (some (zv_i q2.1), q2.2)))
    else
      (if a2 = (6 : Int) then
        ((C9_childrenOf d a0 a1 q1.2).bind fun q3 =>
        (some (some (zv_i q3.1), q3.2)))
      else
        (if a2 = (7 : Int) then
          ((C9_depthOf d a0 a1 q1.2).bind fun q4 =>
          (some (some (zv_i q4.1), q4.2)))
        else
          (if a2 = (8 : Int) then
            ((C9_lettersOf d a0 a1 q1.2).bind fun q5 =>
            (some (some (zv_i q5.1), q5.2)))
          else
            ((C9_namesOf d a0 a1 q1.2).bind fun q6 =>
            (some (some (zv_i q6.1), q6.2))))))))) := by
  refine (zy_lim_eq zyS9_state _ _ _ _).trans ?_
  rfl
theorem zyS9_child : zy_srt 0 mc9_child.2.1 = true := by decide +kernel
set_option maxRecDepth 100000 in
theorem qE9_child (d : Nat) (a0 : Nat) (a1 : Int) (a2 : Int) (h : zv_H) : E9_child d a0 a1 a2 h =
  (if a2 < 0 then
    L9_child_22 d a0 a1 a2 a0 (1 : Int) h
  else
    ((C9_isState d a0 a1 h).bind fun q1 =>
    (if q1.1 = 0 then
      L9_child_22 d a0 a1 a2 a0 (2 : Int) q1.2
    else
      L9_child_22 d a0 a1 a2 a0 (0 : Int) q1.2))) := by
  refine (zy_lim_eq zyS9_child _ _ _ _).trans ?_
  rfl
set_option maxRecDepth 100000 in
theorem qL9_child_22 (d : Nat) (a0 : Nat) (a1 : Int) (a2 : Int) (e0 : Nat) (e1 : Int) (h : zv_H) : L9_child_22 d a0 a1 a2 e0 e1 h =
  ((C9_is d e0 e1 h).bind fun q1 =>
  (if q1.1 = 0 then
    (some (some (zv_i (-1 : Int)), q1.2))
  else
    (if a2 < (48 : Int) then
      ((C9_childOf d a0 a1 a2 q1.2).bind fun q2 =>
      L9_child_46 d a0 q2.1 q2.2)
    else
      L9_child_46 d a0 (-1 : Int) q1.2))) := by
  refine (zy_lim_eq zyS9_child _ _ _ _).trans ?_
  rfl
set_option maxRecDepth 100000 in
theorem qL9_child_46 (d : Nat) (a0 : Nat) (e0 : Int) (h : zv_H) : L9_child_46 d a0 e0 h =
  (if e0 < 0 then
    ((C9_refuse d a0 (5 : Int) h).bind fun q1 =>
    (some (some (zv_i q1.1), q1.2)))
  else
    (some (some (zv_i e0), h))) := by
  refine (zy_lim_eq zyS9_child _ _ _ _).trans ?_
  rfl
theorem zyS9_force : zy_srt 0 mc9_force.2.1 = true := by decide +kernel
set_option maxRecDepth 100000 in
theorem qE9_force (d : Nat) (a0 : Nat) (a1 : Int) (a2 : Int) (h : zv_H) : E9_force d a0 a1 a2 h =
  ((C9_isState d a0 a1 h).bind fun q1 =>
  (if q1.1 = 0 then
    L9_force_17 d a0 a1 a2 a0 q1.2
  else
    ((C9_isState d a0 a2 q1.2).bind fun q2 =>
    (if q2.1 = 0 then
      L9_force_17 d a0 a1 a2 a0 q2.2
    else
      ((C9_isEdit d a0 a1 q2.2).bind fun q3 =>
      (if q3.1 = 0 then
        L9_force_38 d a0 a1 a2 a0 q3.2
      else
        ((C9_isOfLine d a0 a1 a2 q3.2).bind fun q4 =>
        (if q4.1 = 0 then
          L9_force_38 d a0 a1 a2 a0 q4.2
        else
          L9_force_43 d a0 a1 a2 a0 (0 : Int) q4.2)))))))) := by
  refine (zy_lim_eq zyS9_force _ _ _ _).trans ?_
  rfl
set_option maxRecDepth 100000 in
theorem qL9_force_17 (d : Nat) (a0 : Nat) (a1 : Int) (a2 : Int) (e0 : Nat) (h : zv_H) : L9_force_17 d a0 a1 a2 e0 h =
  L9_force_43 d a0 a1 a2 e0 (2 : Int) h := by
  refine (zy_lim_eq zyS9_force _ _ _ _).trans ?_
  rfl
set_option maxRecDepth 100000 in
theorem qL9_force_38 (d : Nat) (a0 : Nat) (a1 : Int) (a2 : Int) (e0 : Nat) (h : zv_H) : L9_force_38 d a0 a1 a2 e0 h =
  L9_force_43 d a0 a1 a2 e0 (5 : Int) h := by
  refine (zy_lim_eq zyS9_force _ _ _ _).trans ?_
  rfl
set_option maxRecDepth 100000 in
theorem qL9_force_43 (d : Nat) (a0 : Nat) (a1 : Int) (a2 : Int) (e0 : Nat) (e1 : Int) (h : zv_H) : L9_force_43 d a0 a1 a2 e0 e1 h =
  ((C9_is d e0 e1 h).bind fun q1 =>
  (if q1.1 = 0 then
    (some (some (zv_i (-1 : Int)), q1.2))
  else
    ((C9_sees d a0 a2 q1.2).bind fun g2 =>
    ((zv_gR g2 a0 9 8).bind fun v3 =>
    ((zv_aB g2 v3 a1).bind fun v4 =>
    (if v4 = 0 then
      (some (some (zv_i (0 : Int)), g2))
    else
      (some (some (zv_i (1 : Int)), g2)))))))) := by
  refine (zy_lim_eq zyS9_force _ _ _ _).trans ?_
  rfl
theorem zyS9_blame : zy_srt 0 mc9_blame.2.1 = true := by decide +kernel
set_option maxRecDepth 100000 in
theorem qE9_blame (d : Nat) (a0 : Nat) (a1 : Int) (a2 : Int) (h : zv_H) : E9_blame d a0 a1 a2 h =
  (if a1 < 0 then
    L9_blame_18 d a0 a1 a2 a0 h
  else
    ((C9_isIn d a2 (0 : Int) (2 : Int) h).bind fun q1 =>
    (if q1.1 = 0 then
      L9_blame_18 d a0 a1 a2 a0 q1.2
    else
      L9_blame_19 d a0 a1 a2 a0 (0 : Int) q1.2))) := by
  refine (zy_lim_eq zyS9_blame _ _ _ _).trans ?_
  rfl
set_option maxRecDepth 100000 in
theorem qL9_blame_18 (d : Nat) (a0 : Nat) (a1 : Int) (a2 : Int) (e0 : Nat) (h : zv_H) : L9_blame_18 d a0 a1 a2 e0 h =
  L9_blame_19 d a0 a1 a2 e0 (1 : Int) h := by
  refine (zy_lim_eq zyS9_blame _ _ _ _).trans ?_
  rfl
set_option maxRecDepth 100000 in
theorem qL9_blame_19 (d : Nat) (a0 : Nat) (a1 : Int) (a2 : Int) (e0 : Nat) (e1 : Int) (h : zv_H) : L9_blame_19 d a0 a1 a2 e0 e1 h =
  ((C9_is d e0 e1 h).bind fun q1 =>
  (if q1.1 = 0 then
    (some (some (zv_i (-1 : Int)), q1.2))
  else
    ((C9_here d a0 q1.2).bind fun q2 =>
    ((C9_sees d a0 q2.1 q2.2).bind fun g3 =>
    ((zv_gI g3 a0 9 12).bind fun v4 =>
    (if a1 < v4 then
      ((C9_rowPlace d a0 a1 g3).bind fun q5 =>
      (if a2 = 0 then
        ((zv_gR q5.2 a0 9 6).bind fun v6 =>
        ((zv_aI q5.2 v6 q5.1).bind fun v7 =>
        (some (some (zv_i v7), q5.2))))
      else
        (if a2 = (1 : Int) then
          ((zv_gR q5.2 a0 9 7).bind fun v8 =>
          ((zv_aI q5.2 v8 q5.1).bind fun v9 =>
          (some (some (zv_i v9), q5.2))))
        else
          (some (some (zv_i q5.1), q5.2)))))
    else
      ((C9_refuse d a0 (5 : Int) g3).bind fun q10 =>
      (some (some (zv_i q10.1), q10.2))))))))) := by
  refine (zy_lim_eq zyS9_blame _ _ _ _).trans ?_
  rfl
theorem zyS9_cutsOf : zy_srt 0 mc9_cutsOf.2.1 = true := by decide +kernel
set_option maxRecDepth 100000 in
theorem qE9_cutsOf (d : Nat) (a0 : Nat) (a1 : Int) (a2 : Int) (a3 : Int) (h : zv_H) : E9_cutsOf d a0 a1 a2 a3 h =
  (if a3 = 0 then
    L9_cutsOf_14 d a0 a1 a2 a3 (0 : Int) (1 : Int) h
  else
    L9_cutsOf_14 d a0 a1 a2 a3 (-1 : Int) (1 : Int) h) := by
  refine (zy_lim_eq zyS9_cutsOf _ _ _ _).trans ?_
  rfl
set_option maxRecDepth 100000 in
theorem qL9_cutsOf_14 (d : Nat) (a0 : Nat) (a1 : Int) (a2 : Int) (a3 : Int) (a4 : Int) (a5 : Int) (h : zv_H) : L9_cutsOf_14 d a0 a1 a2 a3 a4 a5 h =
  ((zv_gI h a0 9 10).bind fun v1 =>
  (if a5 < v1 then
    ((zv_gR h a0 9 5).bind fun v2 =>
    ((zv_aI h v2 a5).bind fun v3 =>
    ((C9_of d a0 v3 (2 : Int) h).bind fun q4 =>
    (if q4.1 = (1 : Int) then
      L9_cutsOf_49 d a0 a1 a2 a3 a4 a5 v3 (0 : Int) q4.2
    else
      L9_cutsOf_14 d a0 a1 a2 a3 a4 (zv_w (a5 + 1)) q4.2))))
  else
    (some (some (zv_i a4), h)))) := by
  refine (zy_lim_eq zyS9_cutsOf _ _ _ _).trans ?_
  rfl
set_option maxRecDepth 100000 in
theorem qL9_cutsOf_49 (d : Nat) (a0 : Nat) (a1 : Int) (a2 : Int) (a3 : Int) (a4 : Int) (a5 : Int) (a6 : Int) (a7 : Int) (h : zv_H) : L9_cutsOf_49 d a0 a1 a2 a3 a4 a5 a6 a7 h =
  ((C9_of d a0 a6 (5 : Int) h).bind fun q1 =>
  (if a7 < q1.1 then
    ((C9_of d a0 a6 (zv_w ((52 : Int) + (zv_w ((2 : Int) * a7)))) q1.2).bind fun q2 =>
    (if q2.1 = a1 then
      ((C9_of d a0 a6 (zv_w ((zv_w ((52 : Int) + (zv_w ((2 : Int) * a7)))) + (1 : Int))) q2.2).bind fun q3 =>
      (if q3.1 = a2 then
        (if a3 = 0 then
          ((zv_gR q3.2 a0 9 8).bind fun v4 =>
          ((zv_aB q3.2 v4 a6).bind fun v5 =>
          (if v5 = 0 then
            L9_cutsOf_49 d a0 a1 a2 a3 a4 a5 a6 (zv_w (a7 + 1)) q3.2
          else
            L9_cutsOf_49 d a0 a1 a2 a3 (zv_w (a4 + (1 : Int))) a5 a6 (zv_w (a7 + 1)) q3.2)))
        else
          L9_cutsOf_49 d a0 a1 a2 a3 a6 a5 a6 (zv_w (a7 + 1)) q3.2)
      else
        L9_cutsOf_49 d a0 a1 a2 a3 a4 a5 a6 (zv_w (a7 + 1)) q3.2))
    else
      L9_cutsOf_49 d a0 a1 a2 a3 a4 a5 a6 (zv_w (a7 + 1)) q2.2))
  else
    L9_cutsOf_14 d a0 a1 a2 a3 a4 (zv_w (a5 + 1)) q1.2)) := by
  refine (zy_lim_eq zyS9_cutsOf _ _ _ _).trans ?_
  rfl
theorem zyS9_row : zy_srt 0 mc9_row.2.1 = true := by decide +kernel
set_option maxRecDepth 100000 in
theorem qE9_row (d : Nat) (a0 : Nat) (a1 : Int) (a2 : Int) (h : zv_H) : E9_row d a0 a1 a2 h =
  (if a1 < 0 then
    L9_row_18 d a0 a1 a2 a0 h
  else
    ((C9_isIn d a2 (0 : Int) (4 : Int) h).bind fun q1 =>
    (if q1.1 = 0 then
      L9_row_18 d a0 a1 a2 a0 q1.2
    else
      L9_row_19 d a0 a1 a2 a0 (0 : Int) q1.2))) := by
  refine (zy_lim_eq zyS9_row _ _ _ _).trans ?_
  rfl
set_option maxRecDepth 100000 in
theorem qL9_row_18 (d : Nat) (a0 : Nat) (a1 : Int) (a2 : Int) (e0 : Nat) (h : zv_H) : L9_row_18 d a0 a1 a2 e0 h =
  L9_row_19 d a0 a1 a2 e0 (1 : Int) h := by
  refine (zy_lim_eq zyS9_row _ _ _ _).trans ?_
  rfl
set_option maxRecDepth 100000 in
theorem qL9_row_19 (d : Nat) (a0 : Nat) (a1 : Int) (a2 : Int) (e0 : Nat) (e1 : Int) (h : zv_H) : L9_row_19 d a0 a1 a2 e0 e1 h =
  ((C9_is d e0 e1 h).bind fun q1 =>
  (if q1.1 = 0 then
    (some (some (zv_i (-1 : Int)), q1.2))
  else
    ((C9_here d a0 q1.2).bind fun q2 =>
    ((C9_sees d a0 q2.1 q2.2).bind fun g3 =>
    ((zv_gI g3 a0 9 11).bind fun v4 =>
    (if a1 < v4 then
      (if a2 = 0 then
        ((C9_letterIn d a0 a1 g3).bind fun q5 =>
        (some (some (zv_i q5.1), q5.2)))
      else
        (if a2 = (1 : Int) then
          ((zv_gR g3 a0 9 6).bind fun v6 =>
          ((zv_aI g3 v6 a1).bind fun v7 =>
          (some (some (zv_i v7), g3))))
        else
          (if a2 = (2 : Int) then
            ((zv_gR g3 a0 9 9).bind fun v8 =>
            ((zv_aB g3 v8 a1).bind fun v9 =>
            (if v9 = 0 then
              (some (some (zv_i (0 : Int)), g3))
            else
              (some (some (zv_i (1 : Int)), g3)))))
          else
            ((zv_gR g3 a0 9 6).bind fun v10 =>
            ((zv_aI g3 v10 a1).bind fun v11 =>
            ((zv_gR g3 a0 9 7).bind fun v12 =>
            ((zv_aI g3 v12 a1).bind fun v13 =>
            (if a2 = (4 : Int) then
              L9_row_120 d a0 v11 v13 (1 : Int) g3
            else
              L9_row_120 d a0 v11 v13 (0 : Int) g3))))))))
    else
      ((C9_refuse d a0 (5 : Int) g3).bind fun q14 =>
      (some (some (zv_i q14.1), q14.2))))))))) := by
  refine (zy_lim_eq zyS9_row _ _ _ _).trans ?_
  rfl
set_option maxRecDepth 100000 in
theorem qL9_row_120 (d : Nat) (e0 : Nat) (e1 : Int) (e2 : Int) (e3 : Int) (h : zv_H) : L9_row_120 d e0 e1 e2 e3 h =
  ((C9_cutsOf d e0 e1 e2 e3 h).bind fun q1 =>
  (some (some (zv_i q1.1), q1.2))) := by
  refine (zy_lim_eq zyS9_row _ _ _ _).trans ?_
  rfl
theorem zyS9_visit : zy_srt 0 mc9_visit.2.1 = true := by decide +kernel
set_option maxRecDepth 100000 in
theorem qE9_visit (d : Nat) (a0 : Nat) (a1 : Int) (a2 : Int) (h : zv_H) : E9_visit d a0 a1 a2 h =
  ((C9_isIn d a1 (0 : Int) (39 : Int) h).bind fun q1 =>
  (if q1.1 = 0 then
    L9_visit_20 d a0 a1 a2 a0 q1.2
  else
    ((C9_isIn d a2 (0 : Int) (1 : Int) q1.2).bind fun q2 =>
    (if q2.1 = 0 then
      L9_visit_20 d a0 a1 a2 a0 q2.2
    else
      ((zv_gR q2.2 a0 9 0).bind fun v3 =>
      ((zv_aI q2.2 v3 (5 : Int)).bind fun v4 =>
      (if a1 < v4 then
        L9_visit_39 d a0 a1 a2 a0 (0 : Int) q2.2
      else
        L9_visit_39 d a0 a1 a2 a0 (5 : Int) q2.2))))))) := by
  refine (zy_lim_eq zyS9_visit _ _ _ _).trans ?_
  rfl
set_option maxRecDepth 100000 in
theorem qL9_visit_20 (d : Nat) (a0 : Nat) (a1 : Int) (a2 : Int) (e0 : Nat) (h : zv_H) : L9_visit_20 d a0 a1 a2 e0 h =
  L9_visit_39 d a0 a1 a2 e0 (1 : Int) h := by
  refine (zy_lim_eq zyS9_visit _ _ _ _).trans ?_
  rfl
set_option maxRecDepth 100000 in
theorem qL9_visit_39 (d : Nat) (a0 : Nat) (a1 : Int) (a2 : Int) (e0 : Nat) (e1 : Int) (h : zv_H) : L9_visit_39 d a0 a1 a2 e0 e1 h =
  ((C9_is d e0 e1 h).bind fun q1 =>
  (if q1.1 = 0 then
    (some (some (zv_i (-1 : Int)), q1.2))
  else
    ((zv_gR q1.2 a0 9 0).bind fun v2 =>
    ((zv_aI q1.2 v2 (zv_w ((zv_w ((4156 : Int) + (zv_w ((2 : Int) * a1)))) + a2))).bind fun v3 =>
    (some (some (zv_i v3), q1.2)))))) := by
  refine (zy_lim_eq zyS9_visit _ _ _ _).trans ?_
  rfl
theorem zyS9_named : zy_srt 0 mc9_named.2.1 = true := by decide +kernel
set_option maxRecDepth 100000 in
theorem qE9_named (d : Nat) (a0 : Nat) (h : zv_H) : E9_named d a0 h =
  ((zv_gI h a0 9 20).bind fun v1 =>
  ((C9_isIn d v1 (1 : Int) (6 : Int) h).bind fun q2 =>
  (if q2.1 = 0 then
    L9_named_19 d a0 a0 (1 : Int) q2.2
  else
    L9_named_19 d a0 a0 (0 : Int) q2.2))) := by
  refine (zy_lim_eq zyS9_named _ _ _ _).trans ?_
  rfl
set_option maxRecDepth 100000 in
theorem qL9_named_19 (d : Nat) (a0 : Nat) (e0 : Nat) (e1 : Int) (h : zv_H) : L9_named_19 d a0 e0 e1 h =
  ((C9_is d e0 e1 h).bind fun q1 =>
  (if q1.1 = 0 then
    (some (some (zv_i (-1 : Int)), q1.2))
  else
    ((zv_gR q1.2 a0 9 18).bind fun v2 =>
    ((zv_gI q1.2 a0 9 20).bind fun v3 =>
    ((C9_packed d v2 v3 q1.2).bind fun q4 =>
    ((C9_nameAt d a0 q4.1 q4.2).bind fun q5 =>
    (if q5.1 < 0 then
      ((C9_refuse d a0 (5 : Int) q5.2).bind fun q6 =>
      (some (some (zv_i q6.1), q6.2)))
    else
      ((zv_gR q5.2 a0 9 0).bind fun v7 =>
      ((zv_aI q5.2 v7 (zv_w ((zv_w ((408 : Int) + (zv_w ((2 : Int) * q5.1)))) + (1 : Int)))).bind fun v8 =>
      (some (some (zv_i v8), q5.2))))))))))) := by
  refine (zy_lim_eq zyS9_named _ _ _ _).trans ?_
  rfl
theorem zyS9_leans : zy_srt 0 mc9_leans.2.1 = true := by decide +kernel
set_option maxRecDepth 100000 in
theorem qE9_leans (d : Nat) (a0 : Nat) (a1 : Int) (a2 : Int) (h : zv_H) : E9_leans d a0 a1 a2 h =
  ((C9_isState d a0 a1 h).bind fun q1 =>
  (if q1.1 = 0 then
    L9_leans_17 d a0 a1 a2 a0 q1.2
  else
    ((C9_isState d a0 a2 q1.2).bind fun q2 =>
    (if q2.1 = 0 then
      L9_leans_17 d a0 a1 a2 a0 q2.2
    else
      (if a1 = a2 then
        L9_leans_42 d a0 a1 a2 a0 q2.2
      else
        ((C9_isEdit d a0 a1 q2.2).bind fun q3 =>
        (if q3.1 = 0 then
          L9_leans_42 d a0 a1 a2 a0 q3.2
        else
          ((C9_isEdit d a0 a2 q3.2).bind fun q4 =>
          (if q4.1 = 0 then
            L9_leans_42 d a0 a1 a2 a0 q4.2
          else
            L9_leans_47 d a0 a1 a2 a0 (0 : Int) q4.2))))))))) := by
  refine (zy_lim_eq zyS9_leans _ _ _ _).trans ?_
  rfl
set_option maxRecDepth 100000 in
theorem qL9_leans_17 (d : Nat) (a0 : Nat) (a1 : Int) (a2 : Int) (e0 : Nat) (h : zv_H) : L9_leans_17 d a0 a1 a2 e0 h =
  L9_leans_47 d a0 a1 a2 e0 (2 : Int) h := by
  refine (zy_lim_eq zyS9_leans _ _ _ _).trans ?_
  rfl
set_option maxRecDepth 100000 in
theorem qL9_leans_42 (d : Nat) (a0 : Nat) (a1 : Int) (a2 : Int) (e0 : Nat) (h : zv_H) : L9_leans_42 d a0 a1 a2 e0 h =
  L9_leans_47 d a0 a1 a2 e0 (5 : Int) h := by
  refine (zy_lim_eq zyS9_leans _ _ _ _).trans ?_
  rfl
set_option maxRecDepth 100000 in
theorem qL9_leans_47 (d : Nat) (a0 : Nat) (a1 : Int) (a2 : Int) (e0 : Nat) (e1 : Int) (h : zv_H) : L9_leans_47 d a0 a1 a2 e0 e1 h =
  ((C9_is d e0 e1 h).bind fun q1 =>
  (if q1.1 = 0 then
    (some (some (zv_i (-1 : Int)), q1.2))
  else
    ((C9_isOfLine d a0 a1 a2 q1.2).bind fun q2 =>
    (if q2.1 = 0 then
      ((C9_isOfLine d a0 a2 a1 q2.2).bind fun q3 =>
      (if q3.1 = 0 then
        ((C9_refuse d a0 (5 : Int) q3.2).bind fun q4 =>
        (some (some (zv_i q4.1), q4.2)))
      else
        ((C9_leansOn d a0 a1 a2 q3.2).bind fun q5 =>
        (if q5.1 = 0 then
          (some (some (zv_i (0 : Int)), q5.2))
        else
          (some (some (zv_i (1 : Int)), q5.2))))))
    else
      ((C9_leansOn d a0 a2 a1 q2.2).bind fun q6 =>
      (if q6.1 = 0 then
        (some (some (zv_i (0 : Int)), q6.2))
      else
        (some (some (zv_i (1 : Int)), q6.2)))))))) := by
  refine (zy_lim_eq zyS9_leans _ _ _ _).trans ?_
  rfl
theorem zyS9_put : zy_srt 0 mc9_put.2.1 = true := by decide +kernel
set_option maxRecDepth 100000 in
theorem qE9_put (d : Nat) (a0 : Nat) (a1 : Int) (h : zv_H) : E9_put d a0 a1 h =
  ((C9_is d a0 (0 : Int) h).bind fun q1 =>
  ((C9_hand d a0 q1.2).bind fun g2 =>
  ((C9_putNow d a0 a1 g2).bind fun q3 =>
  (some (some (zv_i q3.1), q3.2))))) := by
  refine (zy_lim_eq zyS9_put _ _ _ _).trans ?_
  rfl
theorem zyS9_cut : zy_srt 0 mc9_cut.2.1 = true := by decide +kernel
set_option maxRecDepth 100000 in
theorem qE9_cut (d : Nat) (a0 : Nat) (a1 : Int) (a2 : Int) (h : zv_H) : E9_cut d a0 a1 a2 h =
  ((C9_is d a0 (0 : Int) h).bind fun q1 =>
  ((C9_cutNow d a0 a1 a2 q1.2).bind fun q2 =>
  (some (some (zv_i q2.1), q2.2)))) := by
  refine (zy_lim_eq zyS9_cut _ _ _ _).trans ?_
  rfl
theorem zyS9_wait : zy_srt 0 mc9_wait.2.1 = true := by decide +kernel
set_option maxRecDepth 100000 in
theorem qE9_wait (d : Nat) (a0 : Nat) (a1 : Int) (h : zv_H) : E9_wait d a0 a1 h =
  ((C9_isIn d a1 (0 : Int) (999 : Int) h).bind fun q1 =>
  (if q1.1 = 0 then
    L9_wait_17 d a0 a1 a0 (1 : Int) q1.2
  else
    L9_wait_17 d a0 a1 a0 (0 : Int) q1.2)) := by
  refine (zy_lim_eq zyS9_wait _ _ _ _).trans ?_
  rfl
set_option maxRecDepth 100000 in
theorem qL9_wait_17 (d : Nat) (a0 : Nat) (a1 : Int) (e0 : Nat) (e1 : Int) (h : zv_H) : L9_wait_17 d a0 a1 e0 e1 h =
  ((C9_is d e0 e1 h).bind fun q1 =>
  (if q1.1 = 0 then
    (some (some (zv_i (-1 : Int)), q1.2))
  else
    ((zv_gR q1.2 a0 9 0).bind fun v2 =>
    ((zv_aI q1.2 v2 (1 : Int)).bind fun v3 =>
    ((zv_wI q1.2 v2 (1 : Int) (zv_w (v3 + a1))).bind fun g4 =>
    ((zv_gR g4 a0 9 0).bind fun v5 =>
    ((zv_aI g4 v5 (1 : Int)).bind fun v6 =>
    (some (some (zv_i v6), g4))))))))) := by
  refine (zy_lim_eq zyS9_wait _ _ _ _).trans ?_
  rfl
theorem zyS9_undo : zy_srt 0 mc9_undo.2.1 = true := by decide +kernel
set_option maxRecDepth 100000 in
theorem qE9_undo (d : Nat) (a0 : Nat) (h : zv_H) : E9_undo d a0 h =
  ((C9_is d a0 (0 : Int) h).bind fun q1 =>
  ((C9_undoNow d a0 q1.2).bind fun q2 =>
  (some (some (zv_i q2.1), q2.2)))) := by
  refine (zy_lim_eq zyS9_undo _ _ _ _).trans ?_
  rfl
theorem zyS9_redo : zy_srt 0 mc9_redo.2.1 = true := by decide +kernel
set_option maxRecDepth 100000 in
theorem qE9_redo (d : Nat) (a0 : Nat) (h : zv_H) : E9_redo d a0 h =
  ((C9_is d a0 (0 : Int) h).bind fun q1 =>
  ((C9_redoNow d a0 q1.2).bind fun q2 =>
  (some (some (zv_i q2.1), q2.2)))) := by
  refine (zy_lim_eq zyS9_redo _ _ _ _).trans ?_
  rfl
theorem zyS9_go : zy_srt 0 mc9_go.2.1 = true := by decide +kernel
set_option maxRecDepth 100000 in
theorem qE9_go (d : Nat) (a0 : Nat) (a1 : Int) (h : zv_H) : E9_go d a0 a1 h =
  ((C9_is d a0 (0 : Int) h).bind fun q1 =>
  ((C9_goNow d a0 a1 q1.2).bind fun q2 =>
  (some (some (zv_i q2.1), q2.2)))) := by
  refine (zy_lim_eq zyS9_go _ _ _ _).trans ?_
  rfl
theorem zyS9_name : zy_srt 0 mc9_name.2.1 = true := by decide +kernel
set_option maxRecDepth 100000 in
theorem qE9_name (d : Nat) (a0 : Nat) (h : zv_H) : E9_name d a0 h =
  ((C9_is d a0 (0 : Int) h).bind fun q1 =>
  ((C9_hand d a0 q1.2).bind fun g2 =>
  ((C9_nameNow d a0 g2).bind fun q3 =>
  (some (some (zv_i q3.1), q3.2))))) := by
  refine (zy_lim_eq zyS9_name _ _ _ _).trans ?_
  rfl
theorem zyS9_unname : zy_srt 0 mc9_unname.2.1 = true := by decide +kernel
set_option maxRecDepth 100000 in
theorem qE9_unname (d : Nat) (a0 : Nat) (h : zv_H) : E9_unname d a0 h =
  ((zv_gI h a0 9 20).bind fun v1 =>
  ((C9_isIn d v1 (1 : Int) (6 : Int) h).bind fun q2 =>
  (if q2.1 = 0 then
    L9_unname_19 d a0 a0 (1 : Int) q2.2
  else
    L9_unname_19 d a0 a0 (0 : Int) q2.2))) := by
  refine (zy_lim_eq zyS9_unname _ _ _ _).trans ?_
  rfl
set_option maxRecDepth 100000 in
theorem qL9_unname_19 (d : Nat) (a0 : Nat) (e0 : Nat) (e1 : Int) (h : zv_H) : L9_unname_19 d a0 e0 e1 h =
  ((C9_is d e0 e1 h).bind fun q1 =>
  (if q1.1 = 0 then
    (some (some (zv_i (-1 : Int)), q1.2))
  else
    ((zv_gR q1.2 a0 9 18).bind fun v2 =>
    ((zv_gI q1.2 a0 9 20).bind fun v3 =>
    ((C9_packed d v2 v3 q1.2).bind fun q4 =>
    ((C9_nameAt d a0 q4.1 q4.2).bind fun q5 =>
    (if q5.1 < 0 then
      ((C9_refuse d a0 (5 : Int) q5.2).bind fun q6 =>
      (some (some (zv_i q6.1), q6.2)))
    else
      ((zv_gR q5.2 a0 9 0).bind fun v7 =>
      ((zv_aI q5.2 v7 (3 : Int)).bind fun v8 =>
      ((zv_wI q5.2 v7 (3 : Int) (zv_w (v8 - (1 : Int)))).bind fun g9 =>
      L9_unname_67 d a0 (zv_w ((2 : Int) * q5.1)) g9)))))))))) := by
  refine (zy_lim_eq zyS9_unname _ _ _ _).trans ?_
  rfl
set_option maxRecDepth 100000 in
theorem qL9_unname_67 (d : Nat) (a0 : Nat) (a2 : Int) (h : zv_H) : L9_unname_67 d a0 a2 h =
  ((zv_gR h a0 9 0).bind fun v1 =>
  ((zv_aI h v1 (3 : Int)).bind fun v2 =>
  (if a2 < (zv_w ((2 : Int) * v2)) then
    ((zv_gR h a0 9 0).bind fun v3 =>
    ((zv_gR h a0 9 0).bind fun v4 =>
    ((zv_aI h v4 (zv_w ((zv_w ((408 : Int) + a2)) + (2 : Int)))).bind fun v5 =>
    ((zv_wI h v3 (zv_w ((408 : Int) + a2)) v5).bind fun g6 =>
    L9_unname_67 d a0 (zv_w (a2 + 1)) g6))))
  else
    ((zv_gR h a0 9 0).bind fun v7 =>
    ((zv_aI h v7 (3 : Int)).bind fun v8 =>
    (some (some (zv_i v8), h))))))) := by
  refine (zy_lim_eq zyS9_unname _ _ _ _).trans ?_
  rfl
theorem zyS9_withdraw : zy_srt 0 mc9_withdraw.2.1 = true := by decide +kernel
set_option maxRecDepth 100000 in
theorem qE9_withdraw (d : Nat) (a0 : Nat) (a1 : Int) (h : zv_H) : E9_withdraw d a0 a1 h =
  ((C9_is d a0 (0 : Int) h).bind fun q1 =>
  ((C9_turnNow d a0 a1 (2 : Int) q1.2).bind fun q2 =>
  (some (some (zv_i q2.1), q2.2)))) := by
  refine (zy_lim_eq zyS9_withdraw _ _ _ _).trans ?_
  rfl
theorem zyS9_restore : zy_srt 0 mc9_restore.2.1 = true := by decide +kernel
set_option maxRecDepth 100000 in
theorem qE9_restore (d : Nat) (a0 : Nat) (a1 : Int) (h : zv_H) : E9_restore d a0 a1 h =
  ((C9_is d a0 (0 : Int) h).bind fun q1 =>
  ((C9_turnNow d a0 a1 (3 : Int) q1.2).bind fun q2 =>
  (some (some (zv_i q2.1), q2.2)))) := by
  refine (zy_lim_eq zyS9_restore _ _ _ _).trans ?_
  rfl
theorem zyS9_firstOut : zy_srt 0 mc9_firstOut.2.1 = true := by decide +kernel
set_option maxRecDepth 100000 in
theorem qE9_firstOut (d : Nat) (a0 : Nat) (h : zv_H) : E9_firstOut d a0 h =
  L9_firstOut_4 d a0 (-1 : Int) (1 : Int) h := by
  refine (zy_lim_eq zyS9_firstOut _ _ _ _).trans ?_
  rfl
set_option maxRecDepth 100000 in
theorem qL9_firstOut_4 (d : Nat) (a0 : Nat) (a1 : Int) (a2 : Int) (h : zv_H) : L9_firstOut_4 d a0 a1 a2 h =
  (if a2 < (48 : Int) then
    ((C9_isState d a0 a2 h).bind fun q1 =>
    (if q1.1 = 0 then
      L9_firstOut_4 d a0 a1 (zv_w (a2 + 1)) q1.2
    else
      ((C9_here d a0 q1.2).bind fun q2 =>
      (if a2 = q2.1 then
        L9_firstOut_4 d a0 a1 (zv_w (a2 + 1)) q2.2
      else
        ((C9_childrenOf d a0 a2 q2.2).bind fun q3 =>
        (if q3.1 ≤ 0 then
          ((C9_namesOf d a0 a2 q3.2).bind fun q4 =>
          (if q4.1 ≤ 0 then
            (if a1 < 0 then
              L9_firstOut_4 d a0 a2 (zv_w (a2 + 1)) q4.2
            else
              ((C9_of d a0 a2 (7 : Int) q4.2).bind fun q5 =>
              ((C9_of d a0 a1 (7 : Int) q5.2).bind fun q6 =>
              (if q5.1 < q6.1 then
                L9_firstOut_4 d a0 a2 (zv_w (a2 + 1)) q6.2
              else
                L9_firstOut_4 d a0 a1 (zv_w (a2 + 1)) q6.2))))
          else
            L9_firstOut_4 d a0 a1 (zv_w (a2 + 1)) q4.2))
        else
          L9_firstOut_4 d a0 a1 (zv_w (a2 + 1)) q3.2))))))
  else
    (some (some (zv_i a1), h))) := by
  refine (zy_lim_eq zyS9_firstOut _ _ _ _).trans ?_
  rfl
theorem zyS9_carry : zy_srt 0 mc9_carry.2.1 = true := by decide +kernel
set_option maxRecDepth 100000 in
theorem qE9_carry (d : Nat) (a0 : Nat) (a1 : Int) (h : zv_H) : E9_carry d a0 a1 h =
  ((C9_is d a0 (0 : Int) h).bind fun q1 =>
  ((C9_carryNow d a0 a1 q1.2).bind fun q2 =>
  (some (some (zv_i q2.1), q2.2)))) := by
  refine (zy_lim_eq zyS9_carry _ _ _ _).trans ?_
  rfl
theorem zyS9_merge : zy_srt 0 mc9_merge.2.1 = true := by decide +kernel
set_option maxRecDepth 100000 in
theorem qE9_merge (d : Nat) (a0 : Nat) (a1 : Int) (h : zv_H) : E9_merge d a0 a1 h =
  ((C9_is d a0 (0 : Int) h).bind fun q1 =>
  ((C9_mergeNow d a0 a1 q1.2).bind fun q2 =>
  (some (some (zv_i q2.1), q2.2)))) := by
  refine (zy_lim_eq zyS9_merge _ _ _ _).trans ?_
  rfl
theorem zyS9_prune : zy_srt 0 mc9_prune.2.1 = true := by decide +kernel
set_option maxRecDepth 100000 in
theorem qE9_prune (d : Nat) (a0 : Nat) (a1 : Int) (h : zv_H) : E9_prune d a0 a1 h =
  ((C9_is d a0 (0 : Int) h).bind fun q1 =>
  ((C9_pruneNow d a0 a1 q1.2).bind fun q2 =>
  (some (some (zv_i q2.1), q2.2)))) := by
  refine (zy_lim_eq zyS9_prune _ _ _ _).trans ?_
  rfl
theorem zyS9_pruneNow : zy_srt 0 mc9_pruneNow.2.1 = true := by decide +kernel
set_option maxRecDepth 100000 in
theorem qE9_pruneNow (d : Nat) (a0 : Nat) (a1 : Int) (h : zv_H) : E9_pruneNow d a0 a1 h =
  ((C9_isIn d a1 (1 : Int) (48 : Int) h).bind fun q1 =>
  (if q1.1 = 0 then
    ((C9_refuse d a0 (1 : Int) q1.2).bind fun q2 =>
    (some (some (zv_i q2.1), q2.2)))
  else
    ((C9_firstOut d a0 q1.2).bind fun q3 =>
    L9_pruneNow_23 d a0 a1 (0 : Int) q3.1 q3.2))) := by
  refine (zy_lim_eq zyS9_pruneNow _ _ _ _).trans ?_
  rfl
set_option maxRecDepth 100000 in
theorem qL9_pruneNow_23 (d : Nat) (a0 : Nat) (a1 : Int) (a2 : Int) (a3 : Int) (h : zv_H) : L9_pruneNow_23 d a0 a1 a2 a3 h =
  (if a3 < 0 then
    (some (some (zv_i a2), h))
  else
    ((C9_states d a0 h).bind fun q1 =>
    (if q1.1 ≤ a1 then
      (some (some (zv_i a2), q1.2))
    else
      ((C9_sets d a0 a3 (0 : Int) (0 : Int) q1.2).bind fun g2 =>
      L9_pruneNow_45 d a0 a1 a2 a3 (0 : Int) g2)))) := by
  refine (zy_lim_eq zyS9_pruneNow _ _ _ _).trans ?_
  rfl
set_option maxRecDepth 100000 in
theorem qL9_pruneNow_45 (d : Nat) (a0 : Nat) (a1 : Int) (a2 : Int) (a3 : Int) (a4 : Int) (h : zv_H) : L9_pruneNow_45 d a0 a1 a2 a3 a4 h =
  ((zv_gR h a0 9 0).bind fun v1 =>
  ((zv_aI h v1 (5 : Int)).bind fun v2 =>
  (if a4 < v2 then
    ((zv_gR h a0 9 0).bind fun v3 =>
    ((zv_aI h v3 (zv_w ((4156 : Int) + (zv_w ((2 : Int) * a4))))).bind fun v4 =>
    (if v4 = a3 then
      ((zv_gR h a0 9 0).bind fun v5 =>
      ((zv_wI h v5 (zv_w ((4156 : Int) + (zv_w ((2 : Int) * a4)))) (-1 : Int)).bind fun g6 =>
      L9_pruneNow_45 d a0 a1 a2 a3 (zv_w (a4 + 1)) g6))
    else
      L9_pruneNow_45 d a0 a1 a2 a3 (zv_w (a4 + 1)) h)))
  else
    ((C9_firstOut d a0 h).bind fun q7 =>
    L9_pruneNow_23 d a0 a1 (zv_w (a2 + 1)) q7.1 q7.2)))) := by
  refine (zy_lim_eq zyS9_pruneNow _ _ _ _).trans ?_
  rfl
theorem zyS9_common : zy_srt 0 mc9_common.2.1 = true := by decide +kernel
set_option maxRecDepth 100000 in
theorem qE9_common (d : Nat) (a0 : Nat) (a1 : Int) (a2 : Int) (h : zv_H) : E9_common d a0 a1 a2 h =
  ((C9_isState d a0 a1 h).bind fun q1 =>
  (if q1.1 = 0 then
    L9_common_21 d a0 a1 a2 a0 q1.2
  else
    ((C9_isState d a0 a2 q1.2).bind fun q2 =>
    (if q2.1 = 0 then
      L9_common_21 d a0 a1 a2 a0 q2.2
    else
      L9_common_22 d a0 a1 a2 a0 (0 : Int) q2.2)))) := by
  refine (zy_lim_eq zyS9_common _ _ _ _).trans ?_
  rfl
set_option maxRecDepth 100000 in
theorem qL9_common_21 (d : Nat) (a0 : Nat) (a1 : Int) (a2 : Int) (e0 : Nat) (h : zv_H) : L9_common_21 d a0 a1 a2 e0 h =
  L9_common_22 d a0 a1 a2 e0 (2 : Int) h := by
  refine (zy_lim_eq zyS9_common _ _ _ _).trans ?_
  rfl
set_option maxRecDepth 100000 in
theorem qL9_common_22 (d : Nat) (a0 : Nat) (a1 : Int) (a2 : Int) (e0 : Nat) (e1 : Int) (h : zv_H) : L9_common_22 d a0 a1 a2 e0 e1 h =
  ((C9_is d e0 e1 h).bind fun q1 =>
  (if q1.1 = 0 then
    (some (some (zv_i (-1 : Int)), q1.2))
  else
    ((C9_commonOf d a0 a1 a2 q1.2).bind fun q2 =>
    (some (some (zv_i q2.1), q2.2))))) := by
  refine (zy_lim_eq zyS9_common _ _ _ _).trans ?_
  rfl
theorem zyS9_way : zy_srt 0 mc9_way.2.1 = true := by decide +kernel
set_option maxRecDepth 100000 in
theorem qE9_way (d : Nat) (a0 : Nat) (a1 : Int) (a2 : Int) (a3 : Int) (h : zv_H) : E9_way d a0 a1 a2 a3 h =
  (if a3 < 0 then
    L9_way_30 d a0 a1 a2 a3 a0 (1 : Int) h
  else
    ((C9_isState d a0 a1 h).bind fun q1 =>
    (if q1.1 = 0 then
      L9_way_25 d a0 a1 a2 a3 a0 q1.2
    else
      ((C9_isState d a0 a2 q1.2).bind fun q2 =>
      (if q2.1 = 0 then
        L9_way_25 d a0 a1 a2 a3 a0 q2.2
      else
        L9_way_30 d a0 a1 a2 a3 a0 (0 : Int) q2.2))))) := by
  refine (zy_lim_eq zyS9_way _ _ _ _).trans ?_
  rfl
set_option maxRecDepth 100000 in
theorem qL9_way_25 (d : Nat) (a0 : Nat) (a1 : Int) (a2 : Int) (a3 : Int) (e0 : Nat) (h : zv_H) : L9_way_25 d a0 a1 a2 a3 e0 h =
  L9_way_30 d a0 a1 a2 a3 e0 (2 : Int) h := by
  refine (zy_lim_eq zyS9_way _ _ _ _).trans ?_
  rfl
set_option maxRecDepth 100000 in
theorem qL9_way_30 (d : Nat) (a0 : Nat) (a1 : Int) (a2 : Int) (a3 : Int) (e0 : Nat) (e1 : Int) (h : zv_H) : L9_way_30 d a0 a1 a2 a3 e0 e1 h =
  ((C9_is d e0 e1 h).bind fun q1 =>
  (if q1.1 = 0 then
    (some (some (zv_i (-1 : Int)), q1.2))
  else
    ((C9_depthOf d a0 a1 q1.2).bind fun q2 =>
    ((C9_commonOf d a0 a1 a2 q2.2).bind fun q3 =>
    ((C9_depthOf d a0 q3.1 q3.2).bind fun q4 =>
    ((C9_wayMany d a0 a1 a2 q4.2).bind fun q5 =>
    (if a3 ≤ q5.1 then
      (if a3 ≤ (zv_w (q2.1 - q4.1)) then
        L9_way_87 d a0 a3 (zv_w (q2.1 - q4.1)) q5.1 a1 q5.2
      else
        L9_way_87 d a0 a3 (zv_w (q2.1 - q4.1)) q5.1 a2 q5.2)
    else
      ((C9_refuse d a0 (5 : Int) q5.2).bind fun q6 =>
      (some (some (zv_i q6.1), q6.2)))))))))) := by
  refine (zy_lim_eq zyS9_way _ _ _ _).trans ?_
  rfl
set_option maxRecDepth 100000 in
theorem qL9_way_87 (d : Nat) (a0 : Nat) (a3 : Int) (a4 : Int) (a5 : Int) (e0 : Int) (h : zv_H) : L9_way_87 d a0 a3 a4 a5 e0 h =
  (if a3 ≤ a4 then
    L9_way_105 d a0 e0 a3 h
  else
    L9_way_105 d a0 e0 (zv_w (a5 - a3)) h) := by
  refine (zy_lim_eq zyS9_way _ _ _ _).trans ?_
  rfl
set_option maxRecDepth 100000 in
theorem qL9_way_105 (d : Nat) (a0 : Nat) (a6 : Int) (a7 : Int) (h : zv_H) : L9_way_105 d a0 a6 a7 h =
  (if a7 ≤ 0 then
    (some (some (zv_i a6), h))
  else
    ((C9_of d a0 a6 (1 : Int) h).bind fun q1 =>
    L9_way_105 d a0 q1.1 (zv_w (a7 + (-1))) q1.2)) := by
  refine (zy_lim_eq zyS9_way _ _ _ _).trans ?_
  rfl
theorem zyS9_keysOf : zy_srt 0 mc9_keysOf.2.1 = true := by decide +kernel
set_option maxRecDepth 100000 in
theorem qE9_keysOf (d : Nat) (a0 : Nat) (a1 : Int) (h : zv_H) : E9_keysOf d a0 a1 h =
  ((C9_sees d a0 a1 h).bind fun g1 =>
  L9_keysOf_9 d a0 (0 : Int) (0 : Int) g1) := by
  refine (zy_lim_eq zyS9_keysOf _ _ _ _).trans ?_
  rfl
set_option maxRecDepth 100000 in
theorem qL9_keysOf_9 (d : Nat) (a0 : Nat) (a2 : Int) (a3 : Int) (h : zv_H) : L9_keysOf_9 d a0 a2 a3 h =
  ((zv_gI h a0 9 11).bind fun v1 =>
  (if a3 < v1 then
    ((zv_gR h a0 9 9).bind fun v2 =>
    ((zv_aB h v2 a3).bind fun v3 =>
    (if v3 = 0 then
      L9_keysOf_9 d a0 a2 (zv_w (a3 + 1)) h
    else
      ((zv_gR h a0 9 44).bind fun v4 =>
      ((zv_gR h a0 9 6).bind fun v5 =>
      ((zv_aI h v5 a3).bind fun v6 =>
      ((zv_gR h a0 9 7).bind fun v7 =>
      ((zv_aI h v7 a3).bind fun v8 =>
      ((zv_wI h v4 a2 (zv_w ((zv_w ((64 : Int) * v6)) + v8))).bind fun g9 =>
      L9_keysOf_9 d a0 (zv_w (a2 + 1)) (zv_w (a3 + 1)) g9)))))))))
  else
    (some (some (zv_i a2), h)))) := by
  refine (zy_lim_eq zyS9_keysOf _ _ _ _).trans ?_
  rfl
theorem zyS9_keptOf : zy_srt 0 mc9_keptOf.2.1 = true := by decide +kernel
set_option maxRecDepth 100000 in
theorem qE9_keptOf (d : Nat) (a0 : Nat) (a1 : Int) (a2 : Int) (h : zv_H) : E9_keptOf d a0 a1 a2 h =
  ((C9_keysOf d a0 a1 h).bind fun q1 =>
  ((C9_sees d a0 a2 q1.2).bind fun g2 =>
  L9_keptOf_17 d a0 q1.1 (0 : Int) (0 : Int) g2)) := by
  refine (zy_lim_eq zyS9_keptOf _ _ _ _).trans ?_
  rfl
set_option maxRecDepth 100000 in
theorem qL9_keptOf_17 (d : Nat) (a0 : Nat) (a3 : Int) (a4 : Int) (a5 : Int) (h : zv_H) : L9_keptOf_17 d a0 a3 a4 a5 h =
  ((zv_gI h a0 9 11).bind fun v1 =>
  (if a5 < v1 then
    ((zv_gR h a0 9 9).bind fun v2 =>
    ((zv_aB h v2 a5).bind fun v3 =>
    (if v3 = 0 then
      L9_keptOf_17 d a0 a3 a4 (zv_w (a5 + 1)) h
    else
      L9_keptOf_42 d a0 a3 a4 a5 (0 : Int) h)))
  else
    (some (some (zv_i a4), h)))) := by
  refine (zy_lim_eq zyS9_keptOf _ _ _ _).trans ?_
  rfl
set_option maxRecDepth 100000 in
theorem qL9_keptOf_42 (d : Nat) (a0 : Nat) (a3 : Int) (a4 : Int) (a5 : Int) (a6 : Int) (h : zv_H) : L9_keptOf_42 d a0 a3 a4 a5 a6 h =
  (if a6 < a3 then
    ((zv_gR h a0 9 44).bind fun v1 =>
    ((zv_aI h v1 a6).bind fun v2 =>
    ((zv_gR h a0 9 6).bind fun v3 =>
    ((zv_aI h v3 a5).bind fun v4 =>
    ((zv_gR h a0 9 7).bind fun v5 =>
    ((zv_aI h v5 a5).bind fun v6 =>
    (if v2 = (zv_w ((zv_w ((64 : Int) * v4)) + v6)) then
      L9_keptOf_42 d a0 a3 (zv_w (a4 + (1 : Int))) a5 (zv_w (a6 + 1)) h
    else
      L9_keptOf_42 d a0 a3 (zv_w (a4 + (0 : Int))) a5 (zv_w (a6 + 1)) h)))))))
  else
    L9_keptOf_17 d a0 a3 a4 (zv_w (a5 + 1)) h) := by
  refine (zy_lim_eq zyS9_keptOf _ _ _ _).trans ?_
  rfl
theorem zyS9_differ : zy_srt 0 mc9_differ.2.1 = true := by decide +kernel
set_option maxRecDepth 100000 in
theorem qE9_differ (d : Nat) (a0 : Nat) (a1 : Int) (a2 : Int) (h : zv_H) : E9_differ d a0 a1 a2 h =
  ((zv_gR h a0 9 13).bind fun v1 =>
  ((C9_copies d a0 a1 v1 h).bind fun q2 =>
  ((zv_gR q2.2 a0 9 14).bind fun v3 =>
  ((C9_copies d a0 a2 v3 q2.2).bind fun q4 =>
  L9_differ_24 d a0 q2.1 q4.1 (0 : Int) q4.2)))) := by
  refine (zy_lim_eq zyS9_differ _ _ _ _).trans ?_
  rfl
set_option maxRecDepth 100000 in
theorem qL9_differ_24 (d : Nat) (a0 : Nat) (a3 : Int) (a4 : Int) (a5 : Int) (h : zv_H) : L9_differ_24 d a0 a3 a4 a5 h =
  (if a5 < a3 then
    (if a5 < a4 then
      ((zv_gR h a0 9 13).bind fun v1 =>
      ((zv_aI h v1 a5).bind fun v2 =>
      ((zv_gR h a0 9 14).bind fun v3 =>
      ((zv_aI h v3 a5).bind fun v4 =>
      (if v2 = v4 then
        L9_differ_24 d a0 a3 a4 (zv_w (a5 + 1)) h
      else
        L9_differ_60 d a3 a4 a5 h)))))
    else
      L9_differ_60 d a3 a4 a5 h)
  else
    L9_differ_60 d a3 a4 a5 h) := by
  refine (zy_lim_eq zyS9_differ _ _ _ _).trans ?_
  rfl
set_option maxRecDepth 100000 in
theorem qL9_differ_60 (d : Nat) (a3 : Int) (a4 : Int) (a5 : Int) (h : zv_H) : L9_differ_60 d a3 a4 a5 h =
  (if a5 = a3 then
    (if a5 = a4 then
      (some (some (zv_i (-1 : Int)), h))
    else
      (some (some (zv_i a5), h)))
  else
    (some (some (zv_i a5), h))) := by
  refine (zy_lim_eq zyS9_differ _ _ _ _).trans ?_
  rfl
theorem zyS9_between : zy_srt 0 mc9_between.2.1 = true := by decide +kernel
set_option maxRecDepth 100000 in
theorem qE9_between (d : Nat) (a0 : Nat) (a1 : Int) (a2 : Int) (a3 : Int) (h : zv_H) : E9_between d a0 a1 a2 a3 h =
  ((C9_isIn d a3 (0 : Int) (3 : Int) h).bind fun q1 =>
  (if q1.1 = 0 then
    L9_between_35 d a0 a1 a2 a3 a0 (1 : Int) q1.2
  else
    ((C9_isState d a0 a1 q1.2).bind fun q2 =>
    (if q2.1 = 0 then
      L9_between_30 d a0 a1 a2 a3 a0 q2.2
    else
      ((C9_isState d a0 a2 q2.2).bind fun q3 =>
      (if q3.1 = 0 then
        L9_between_30 d a0 a1 a2 a3 a0 q3.2
      else
        L9_between_35 d a0 a1 a2 a3 a0 (0 : Int) q3.2)))))) := by
  refine (zy_lim_eq zyS9_between _ _ _ _).trans ?_
  rfl
set_option maxRecDepth 100000 in
theorem qL9_between_30 (d : Nat) (a0 : Nat) (a1 : Int) (a2 : Int) (a3 : Int) (e0 : Nat) (h : zv_H) : L9_between_30 d a0 a1 a2 a3 e0 h =
  L9_between_35 d a0 a1 a2 a3 e0 (2 : Int) h := by
  refine (zy_lim_eq zyS9_between _ _ _ _).trans ?_
  rfl
set_option maxRecDepth 100000 in
theorem qL9_between_35 (d : Nat) (a0 : Nat) (a1 : Int) (a2 : Int) (a3 : Int) (e0 : Nat) (e1 : Int) (h : zv_H) : L9_between_35 d a0 a1 a2 a3 e0 e1 h =
  ((C9_is d e0 e1 h).bind fun q1 =>
  (if q1.1 = 0 then
    (some (some (zv_i (-1 : Int)), q1.2))
  else
    (if a3 = (3 : Int) then
      ((C9_differ d a0 a1 a2 q1.2).bind fun q2 =>
      (some (some (zv_i q2.1), q2.2)))
    else
      ((C9_keptOf d a0 a1 a2 q1.2).bind fun q3 =>
      (if a3 = 0 then
        (some (some (zv_i q3.1), q3.2))
      else
        (if a3 = (1 : Int) then
          ((C9_lettersOf d a0 a1 q3.2).bind fun q4 =>
          (some (some (zv_i (zv_w (q4.1 - q3.1))), q4.2)))
        else
          ((C9_lettersOf d a0 a2 q3.2).bind fun q5 =>
          (some (some (zv_i (zv_w (q5.1 - q3.1))), q5.2))))))))) := by
  refine (zy_lim_eq zyS9_between _ _ _ _).trans ?_
  rfl
theorem zyS9_least : zy_srt 0 mc9_least.2.1 = true := by decide +kernel
set_option maxRecDepth 100000 in
theorem qE9_least (d : Nat) (a0 : Nat) (a1 : Int) (a2 : Int) (h : zv_H) : E9_least d a0 a1 a2 h =
  ((C9_isState d a0 a1 h).bind fun q1 =>
  (if q1.1 = 0 then
    L9_least_21 d a0 a1 a2 a0 q1.2
  else
    ((C9_isState d a0 a2 q1.2).bind fun q2 =>
    (if q2.1 = 0 then
      L9_least_21 d a0 a1 a2 a0 q2.2
    else
      L9_least_22 d a0 a1 a2 a0 (0 : Int) q2.2)))) := by
  refine (zy_lim_eq zyS9_least _ _ _ _).trans ?_
  rfl
set_option maxRecDepth 100000 in
theorem qL9_least_21 (d : Nat) (a0 : Nat) (a1 : Int) (a2 : Int) (e0 : Nat) (h : zv_H) : L9_least_21 d a0 a1 a2 e0 h =
  L9_least_22 d a0 a1 a2 e0 (2 : Int) h := by
  refine (zy_lim_eq zyS9_least _ _ _ _).trans ?_
  rfl
set_option maxRecDepth 100000 in
theorem qL9_least_22 (d : Nat) (a0 : Nat) (a1 : Int) (a2 : Int) (e0 : Nat) (e1 : Int) (h : zv_H) : L9_least_22 d a0 a1 a2 e0 e1 h =
  ((C9_is d e0 e1 h).bind fun q1 =>
  (if q1.1 = 0 then
    (some (some (zv_i (-1 : Int)), q1.2))
  else
    ((zv_gR q1.2 a0 9 13).bind fun v2 =>
    ((C9_copies d a0 a1 v2 q1.2).bind fun q3 =>
    ((zv_gR q3.2 a0 9 14).bind fun v4 =>
    ((C9_copies d a0 a2 v4 q3.2).bind fun q5 =>
    L9_least_58 d a0 q3.1 q5.1 (121 : Int) (0 : Int) q5.2)))))) := by
  refine (zy_lim_eq zyS9_least _ _ _ _).trans ?_
  rfl
set_option maxRecDepth 100000 in
theorem qL9_least_58 (d : Nat) (a0 : Nat) (a3 : Int) (a4 : Int) (a5 : Int) (a6 : Int) (h : zv_H) : L9_least_58 d a0 a3 a4 a5 a6 h =
  (if a6 ≤ a3 then
    L9_least_67 d a0 a3 a4 a5 a6 (0 : Int) h
  else
    ((zv_gR h a0 9 45).bind fun v1 =>
    ((zv_aI h v1 (zv_w ((zv_w (a5 * a3)) + a4))).bind fun v2 =>
    (some (some (zv_i (zv_w ((zv_w (a3 + a4)) - (zv_w ((2 : Int) * v2))))), h))))) := by
  refine (zy_lim_eq zyS9_least _ _ _ _).trans ?_
  rfl
set_option maxRecDepth 100000 in
theorem qL9_least_67 (d : Nat) (a0 : Nat) (a3 : Int) (a4 : Int) (a5 : Int) (a6 : Int) (a7 : Int) (h : zv_H) : L9_least_67 d a0 a3 a4 a5 a6 a7 h =
  (if a7 ≤ a4 then
    (if a6 ≤ 0 then
      ((zv_gR h a0 9 45).bind fun v1 =>
      ((zv_wI h v1 (zv_w ((zv_w (a5 * a6)) + a7)) (0 : Int)).bind fun g2 =>
      L9_least_67 d a0 a3 a4 a5 a6 (zv_w (a7 + 1)) g2))
    else
      (if a7 ≤ 0 then
        ((zv_gR h a0 9 45).bind fun v3 =>
        ((zv_wI h v3 (zv_w ((zv_w (a5 * a6)) + a7)) (0 : Int)).bind fun g4 =>
        L9_least_67 d a0 a3 a4 a5 a6 (zv_w (a7 + 1)) g4))
      else
        ((zv_gR h a0 9 45).bind fun v5 =>
        ((zv_aI h v5 (zv_w ((zv_w (a5 * (zv_w (a6 - (1 : Int))))) + a7))).bind fun v6 =>
        ((zv_gR h a0 9 45).bind fun v7 =>
        ((zv_aI h v7 (zv_w ((zv_w ((zv_w (a5 * a6)) + a7)) - (1 : Int)))).bind fun v8 =>
        ((zv_gR h a0 9 13).bind fun v9 =>
        ((zv_aI h v9 (zv_w (a6 - (1 : Int)))).bind fun v10 =>
        ((zv_gR h a0 9 14).bind fun v11 =>
        ((zv_aI h v11 (zv_w (a7 - (1 : Int)))).bind fun v12 =>
        (if v10 = v12 then
          ((zv_gR h a0 9 45).bind fun v13 =>
          ((zv_aI h v13 (zv_w ((zv_w ((zv_w (a5 * (zv_w (a6 - (1 : Int))))) + a7)) - (1 : Int)))).bind fun v14 =>
          ((zv_gR h a0 9 45).bind fun v15 =>
          ((zv_wI h v15 (zv_w ((zv_w (a5 * a6)) + a7)) (zv_w (v14 + (1 : Int)))).bind fun g16 =>
          L9_least_67 d a0 a3 a4 a5 a6 (zv_w (a7 + 1)) g16))))
        else
          (if v6 ≤ v8 then
            ((zv_gR h a0 9 45).bind fun v17 =>
            ((zv_wI h v17 (zv_w ((zv_w (a5 * a6)) + a7)) v8).bind fun g18 =>
            L9_least_67 d a0 a3 a4 a5 a6 (zv_w (a7 + 1)) g18))
          else
            ((zv_gR h a0 9 45).bind fun v19 =>
            ((zv_wI h v19 (zv_w ((zv_w (a5 * a6)) + a7)) v6).bind fun g20 =>
            L9_least_67 d a0 a3 a4 a5 a6 (zv_w (a7 + 1)) g20))))))))))))))
  else
    L9_least_58 d a0 a3 a4 a5 (zv_w (a6 + 1)) h) := by
  refine (zy_lim_eq zyS9_least _ _ _ _).trans ?_
  rfl
theorem zyS9_merges : zy_srt 0 mc9_merges.2.1 = true := by decide +kernel
set_option maxRecDepth 100000 in
theorem qE9_merges (d : Nat) (a0 : Nat) (a1 : Int) (a2 : Int) (h : zv_H) : E9_merges d a0 a1 a2 h =
  ((C9_isIn d a2 (0 : Int) (2 : Int) h).bind fun q1 =>
  (if q1.1 = 0 then
    L9_merges_15 d a0 a1 a2 a0 (1 : Int) q1.2
  else
    L9_merges_15 d a0 a1 a2 a0 (0 : Int) q1.2)) := by
  refine (zy_lim_eq zyS9_merges _ _ _ _).trans ?_
  rfl
set_option maxRecDepth 100000 in
theorem qL9_merges_15 (d : Nat) (a0 : Nat) (a1 : Int) (a2 : Int) (e0 : Nat) (e1 : Int) (h : zv_H) : L9_merges_15 d a0 a1 a2 e0 e1 h =
  ((C9_is d e0 e1 h).bind fun q1 =>
  (if q1.1 = 0 then
    (some (some (zv_i (-1 : Int)), q1.2))
  else
    L9_merges_25 d a0 a1 a2 (0 : Int) q1.2)) := by
  refine (zy_lim_eq zyS9_merges _ _ _ _).trans ?_
  rfl
set_option maxRecDepth 100000 in
theorem qL9_merges_25 (d : Nat) (a0 : Nat) (a1 : Int) (a2 : Int) (a3 : Int) (h : zv_H) : L9_merges_25 d a0 a1 a2 a3 h =
  (if a3 < (4236 : Int) then
    ((zv_gR h a0 9 2).bind fun v1 =>
    ((zv_gR h a0 9 0).bind fun v2 =>
    ((zv_aI h v2 a3).bind fun v3 =>
    ((zv_wI h v1 a3 v3).bind fun g4 =>
    L9_merges_25 d a0 a1 a2 (zv_w (a3 + 1)) g4))))
  else
    ((C9_mergeNow d a0 a1 h).bind fun q5 =>
    (if q5.1 < 0 then
      (some (some (zv_i (-1 : Int)), q5.2))
    else
      (if a2 = 0 then
        L9_merges_94 d a0 q5.1 (0 : Int) q5.2
      else
        (if a2 = (1 : Int) then
          ((zv_gI q5.2 a0 9 24).bind fun v6 =>
          L9_merges_94 d a0 v6 (0 : Int) q5.2)
        else
          ((C9_here d a0 q5.2).bind fun q7 =>
          ((C9_lettersOf d a0 q7.1 q7.2).bind fun q8 =>
          L9_merges_94 d a0 q8.1 (0 : Int) q8.2))))))) := by
  refine (zy_lim_eq zyS9_merges _ _ _ _).trans ?_
  rfl
set_option maxRecDepth 100000 in
theorem qL9_merges_94 (d : Nat) (a0 : Nat) (a3 : Int) (a4 : Int) (h : zv_H) : L9_merges_94 d a0 a3 a4 h =
  (if a4 < (4236 : Int) then
    ((zv_gR h a0 9 0).bind fun v1 =>
    ((zv_gR h a0 9 2).bind fun v2 =>
    ((zv_aI h v2 a4).bind fun v3 =>
    ((zv_wI h v1 a4 v3).bind fun g4 =>
    L9_merges_94 d a0 a3 (zv_w (a4 + 1)) g4))))
  else
    (some (some (zv_i a3), h))) := by
  refine (zy_lim_eq zyS9_merges _ _ _ _).trans ?_
  rfl
theorem zyS9_tells : zy_srt 0 mc9_tells.2.1 = true := by decide +kernel
set_option maxRecDepth 100000 in
theorem qE9_tells (d : Nat) (a0 : Nat) (a1 : Int) (h : zv_H) : E9_tells d a0 a1 h =
  ((zv_gR h a0 9 46).bind fun v1 =>
  ((zv_gI h a0 9 47).bind fun v2 =>
  ((zv_wI h v1 v2 a1).bind fun g3 =>
  ((zv_gI g3 a0 9 47).bind fun v4 =>
  ((zv_pI g3 a0 9 47 (zv_w (v4 + (1 : Int)))).bind fun g5 =>
  (some (none, g5))))))) := by
  refine (zy_lim_eq zyS9_tells _ _ _ _).trans ?_
  rfl
theorem zyS9_tellsNumber : zy_srt 0 mc9_tellsNumber.2.1 = true := by decide +kernel
set_option maxRecDepth 100000 in
theorem qE9_tellsNumber (d : Nat) (a0 : Nat) (a1 : Int) (h : zv_H) : E9_tellsNumber d a0 a1 h =
  (if a1 ≤ (9 : Int) then
    L9_tellsNumber_17 d a0 a1 h
  else
    ((C9_tells d a0 (zv_w ((48 : Int) + (zv_w ((a1).tdiv (10 : Int))))) h).bind fun g1 =>
    L9_tellsNumber_17 d a0 a1 g1)) := by
  refine (zy_lim_eq zyS9_tellsNumber _ _ _ _).trans ?_
  rfl
set_option maxRecDepth 100000 in
theorem qL9_tellsNumber_17 (d : Nat) (a0 : Nat) (a1 : Int) (h : zv_H) : L9_tellsNumber_17 d a0 a1 h =
  ((C9_tells d a0 (zv_w ((48 : Int) + ((a1).tmod (10 : Int)))) h).bind fun g1 =>
  (some (none, g1))) := by
  refine (zy_lim_eq zyS9_tellsNumber _ _ _ _).trans ?_
  rfl
theorem zyS9_tellsNames : zy_srt 0 mc9_tellsNames.2.1 = true := by decide +kernel
set_option maxRecDepth 100000 in
theorem qE9_tellsNames (d : Nat) (a0 : Nat) (h : zv_H) : E9_tellsNames d a0 h =
  L9_tellsNames_2 d a0 (0 : Int) h := by
  refine (zy_lim_eq zyS9_tellsNames _ _ _ _).trans ?_
  rfl
set_option maxRecDepth 100000 in
theorem qL9_tellsNames_2 (d : Nat) (a0 : Nat) (a1 : Int) (h : zv_H) : L9_tellsNames_2 d a0 a1 h =
  ((zv_gR h a0 9 0).bind fun v1 =>
  ((zv_aI h v1 (3 : Int)).bind fun v2 =>
  (if a1 < v2 then
    (if a1 ≤ 0 then
      ((zv_gR h a0 9 0).bind fun v3 =>
      ((zv_aI h v3 (zv_w ((408 : Int) + (zv_w ((2 : Int) * a1))))).bind fun v4 =>
      L9_tellsNames_38 d a0 a1 v4 (25 : Int) h))
    else
      ((C9_tells d a0 (32 : Int) h).bind fun g5 =>
      ((zv_gR g5 a0 9 0).bind fun v6 =>
      ((zv_aI g5 v6 (zv_w ((408 : Int) + (zv_w ((2 : Int) * a1))))).bind fun v7 =>
      L9_tellsNames_38 d a0 a1 v7 (25 : Int) g5))))
  else
    (some (none, h))))) := by
  refine (zy_lim_eq zyS9_tellsNames _ _ _ _).trans ?_
  rfl
set_option maxRecDepth 100000 in
theorem qL9_tellsNames_38 (d : Nat) (a0 : Nat) (a1 : Int) (a2 : Int) (a3 : Int) (h : zv_H) : L9_tellsNames_38 d a0 a1 a2 a3 h =
  (if a3 < 0 then
    ((C9_tells d a0 (61 : Int) h).bind fun g1 =>
    ((zv_gR g1 a0 9 0).bind fun v2 =>
    ((zv_aI g1 v2 (zv_w ((zv_w ((408 : Int) + (zv_w ((2 : Int) * a1)))) + (1 : Int)))).bind fun v3 =>
    ((C9_tellsNumber d a0 v3 g1).bind fun g4 =>
    L9_tellsNames_2 d a0 (zv_w (a1 + 1)) g4))))
  else
    (if (zv_shr a2 a3) ≤ 0 then
      L9_tellsNames_38 d a0 a1 a2 (zv_w (a3 + (-5))) h
    else
      ((C9_tells d a0 (zv_w ((96 : Int) + (zv_and (zv_shr a2 a3) (31 : Int)))) h).bind fun g5 =>
      L9_tellsNames_38 d a0 a1 a2 (zv_w (a3 + (-5))) g5))) := by
  refine (zy_lim_eq zyS9_tellsNames _ _ _ _).trans ?_
  rfl
theorem zyS9_tell : zy_srt 0 mc9_tell.2.1 = true := by decide +kernel
set_option maxRecDepth 100000 in
theorem qE9_tell (d : Nat) (a0 : Nat) (a1 : Int) (h : zv_H) : E9_tell d a0 a1 h =
  ((C9_isIn d a1 (0 : Int) (2 : Int) h).bind fun q1 =>
  (if q1.1 = 0 then
    L9_tell_15 d a0 a1 a0 (1 : Int) q1.2
  else
    L9_tell_15 d a0 a1 a0 (0 : Int) q1.2)) := by
  refine (zy_lim_eq zyS9_tell _ _ _ _).trans ?_
  rfl
set_option maxRecDepth 100000 in
theorem qL9_tell_15 (d : Nat) (a0 : Nat) (a1 : Int) (e0 : Nat) (e1 : Int) (h : zv_H) : L9_tell_15 d a0 a1 e0 e1 h =
  ((C9_is d e0 e1 h).bind fun q1 =>
  (if q1.1 = 0 then
    (some (some (zv_i (-1 : Int)), q1.2))
  else
    ((zv_pI q1.2 a0 9 47 (0 : Int)).bind fun g2 =>
    ((C9_here d a0 g2).bind fun q3 =>
    ((C9_sees d a0 q3.1 q3.2).bind fun g4 =>
    L9_tell_38 d a0 a1 (0 : Int) g4))))) := by
  refine (zy_lim_eq zyS9_tell _ _ _ _).trans ?_
  rfl
set_option maxRecDepth 100000 in
theorem qL9_tell_38 (d : Nat) (a0 : Nat) (a1 : Int) (a2 : Int) (h : zv_H) : L9_tell_38 d a0 a1 a2 h =
  ((zv_gI h a0 9 11).bind fun v1 =>
  (if a2 < v1 then
    (if a1 = 0 then
      ((zv_gR h a0 9 9).bind fun v2 =>
      ((zv_aB h v2 a2).bind fun v3 =>
      (if v3 = 0 then
        L9_tell_38 d a0 a1 (zv_w (a2 + 1)) h
      else
        ((C9_letterIn d a0 a2 h).bind fun q4 =>
        ((C9_tells d a0 (zv_w ((97 : Int) + q4.1)) q4.2).bind fun g5 =>
        L9_tell_38 d a0 a1 (zv_w (a2 + 1)) g5)))))
    else
      L9_tell_79 d a0 a1 (0 : Int) h)
  else
    L9_tell_79 d a0 a1 (0 : Int) h)) := by
  refine (zy_lim_eq zyS9_tell _ _ _ _).trans ?_
  rfl
set_option maxRecDepth 100000 in
theorem qL9_tell_79 (d : Nat) (a0 : Nat) (a1 : Int) (a2 : Int) (h : zv_H) : L9_tell_79 d a0 a1 a2 h =
  ((zv_gI h a0 9 10).bind fun v1 =>
  (if a2 < v1 then
    (if a1 = (1 : Int) then
      (if a2 ≤ 0 then
        L9_tell_102 d a0 a1 a2 h
      else
        ((C9_tells d a0 (60 : Int) h).bind fun g2 =>
        L9_tell_102 d a0 a1 a2 g2))
    else
      L9_tell_118 d a0 a1 h)
  else
    L9_tell_118 d a0 a1 h)) := by
  refine (zy_lim_eq zyS9_tell _ _ _ _).trans ?_
  rfl
set_option maxRecDepth 100000 in
theorem qL9_tell_102 (d : Nat) (a0 : Nat) (a1 : Int) (a2 : Int) (h : zv_H) : L9_tell_102 d a0 a1 a2 h =
  ((zv_gR h a0 9 5).bind fun v1 =>
  ((zv_aI h v1 a2).bind fun v2 =>
  ((C9_tellsNumber d a0 v2 h).bind fun g3 =>
  L9_tell_79 d a0 a1 (zv_w (a2 + 1)) g3))) := by
  refine (zy_lim_eq zyS9_tell _ _ _ _).trans ?_
  rfl
set_option maxRecDepth 100000 in
theorem qL9_tell_118 (d : Nat) (a0 : Nat) (a1 : Int) (h : zv_H) : L9_tell_118 d a0 a1 h =
  (if a1 = (2 : Int) then
    ((C9_tellsNames d a0 h).bind fun g1 =>
    ((zv_gI g1 a0 9 47).bind fun v2 =>
    (some (some (zv_i v2), g1))))
  else
    ((zv_gI h a0 9 47).bind fun v3 =>
    (some (some (zv_i v3), h)))) := by
  refine (zy_lim_eq zyS9_tell _ _ _ _).trans ?_
  rfl
theorem zyS9_out : zy_srt 0 mc9_out.2.1 = true := by decide +kernel
set_option maxRecDepth 100000 in
theorem qE9_out (d : Nat) (a0 : Nat) (a1 : Int) (h : zv_H) : E9_out d a0 a1 h =
  (if a1 < 0 then
    L9_out_22 d a0 a1 a0 (1 : Int) h
  else
    ((zv_gI h a0 9 47).bind fun v1 =>
    (if a1 < v1 then
      L9_out_22 d a0 a1 a0 (0 : Int) h
    else
      L9_out_22 d a0 a1 a0 (5 : Int) h))) := by
  refine (zy_lim_eq zyS9_out _ _ _ _).trans ?_
  rfl
set_option maxRecDepth 100000 in
theorem qL9_out_22 (d : Nat) (a0 : Nat) (a1 : Int) (e0 : Nat) (e1 : Int) (h : zv_H) : L9_out_22 d a0 a1 e0 e1 h =
  ((C9_is d e0 e1 h).bind fun q1 =>
  (if q1.1 = 0 then
    (some (some (zv_i (-1 : Int)), q1.2))
  else
    ((zv_gR q1.2 a0 9 46).bind fun v2 =>
    ((zv_aI q1.2 v2 a1).bind fun v3 =>
    (some (some (zv_i v3), q1.2)))))) := by
  refine (zy_lim_eq zyS9_out _ _ _ _).trans ?_
  rfl
theorem zyS9_leaning : zy_srt 0 mc9_leaning.2.1 = true := by decide +kernel
set_option maxRecDepth 100000 in
theorem qE9_leaning (d : Nat) (a0 : Nat) (a1 : Int) (a2 : Int) (h : zv_H) : E9_leaning d a0 a1 a2 h =
  ((C9_isIn d a2 (0 : Int) (3 : Int) h).bind fun q1 =>
  (if q1.1 = 0 then
    L9_leaning_52 d a0 a1 a2 a0 (1 : Int) q1.2
  else
    ((C9_isState d a0 a1 q1.2).bind fun q2 =>
    (if q2.1 = 0 then
      L9_leaning_52 d a0 a1 a2 a0 (2 : Int) q2.2
    else
      ((C9_here d a0 q2.2).bind fun q3 =>
      ((C9_isOfLine d a0 a1 q3.1 q3.2).bind fun q4 =>
      (if q4.1 = 0 then
        L9_leaning_46 d a0 a1 a2 a0 q4.2
      else
        ((C9_isEdit d a0 a1 q4.2).bind fun q5 =>
        (if q5.1 = 0 then
          L9_leaning_46 d a0 a1 a2 a0 q5.2
        else
          L9_leaning_52 d a0 a1 a2 a0 (0 : Int) q5.2))))))))) := by
  refine (zy_lim_eq zyS9_leaning _ _ _ _).trans ?_
  rfl
set_option maxRecDepth 100000 in
theorem qL9_leaning_46 (d : Nat) (a0 : Nat) (a1 : Int) (a2 : Int) (e0 : Nat) (h : zv_H) : L9_leaning_46 d a0 a1 a2 e0 h =
  L9_leaning_52 d a0 a1 a2 e0 (7 : Int) h := by
  refine (zy_lim_eq zyS9_leaning _ _ _ _).trans ?_
  rfl
set_option maxRecDepth 100000 in
theorem qL9_leaning_52 (d : Nat) (a0 : Nat) (a1 : Int) (a2 : Int) (e0 : Nat) (e1 : Int) (h : zv_H) : L9_leaning_52 d a0 a1 a2 e0 e1 h =
  ((C9_is d e0 e1 h).bind fun q1 =>
  (if q1.1 = 0 then
    (some (some (zv_i (-1 : Int)), q1.2))
  else
    ((C9_marks d a0 a1 (0 : Int) q1.2).bind fun g2 =>
    (if a2 = (3 : Int) then
      ((C9_triesNames d a0 (2 : Int) g2).bind fun q3 =>
      ((C9_lettersOf d a0 (48 : Int) q3.2).bind fun q4 =>
      (some (some (zv_i q4.1), q4.2))))
    else
      L9_leaning_89 d a0 a2 (0 : Int) (1 : Int) g2)))) := by
  refine (zy_lim_eq zyS9_leaning _ _ _ _).trans ?_
  rfl
set_option maxRecDepth 100000 in
theorem qL9_leaning_89 (d : Nat) (a0 : Nat) (a2 : Int) (a3 : Int) (a4 : Int) (h : zv_H) : L9_leaning_89 d a0 a2 a3 a4 h =
  ((zv_gI h a0 9 10).bind fun v1 =>
  (if a4 < v1 then
    (if a2 < (2 : Int) then
      ((zv_gR h a0 9 25).bind fun v2 =>
      ((zv_gR h a0 9 5).bind fun v3 =>
      ((zv_aI h v3 a4).bind fun v4 =>
      ((zv_aB h v2 v4).bind fun v5 =>
      (if v5 = 0 then
        L9_leaning_89 d a0 a2 (zv_w (a3 + (0 : Int))) (zv_w (a4 + 1)) h
      else
        (if a2 = 0 then
          L9_leaning_89 d a0 a2 (zv_w (a3 + (1 : Int))) (zv_w (a4 + 1)) h
        else
          ((zv_gR h a0 9 8).bind fun v6 =>
          ((zv_gR h a0 9 5).bind fun v7 =>
          ((zv_aI h v7 a4).bind fun v8 =>
          ((zv_aB h v6 v8).bind fun v9 =>
          (if v9 = 0 then
            L9_leaning_89 d a0 a2 (zv_w (a3 + (0 : Int))) (zv_w (a4 + 1)) h
          else
            L9_leaning_89 d a0 a2 (zv_w (a3 + (1 : Int))) (zv_w (a4 + 1)) h)))))))))))
    else
      L9_leaning_154 d a0 a2 a3 (0 : Int) h)
  else
    L9_leaning_154 d a0 a2 a3 (0 : Int) h)) := by
  refine (zy_lim_eq zyS9_leaning _ _ _ _).trans ?_
  rfl
set_option maxRecDepth 100000 in
theorem qL9_leaning_154 (d : Nat) (a0 : Nat) (a2 : Int) (a3 : Int) (a4 : Int) (h : zv_H) : L9_leaning_154 d a0 a2 a3 a4 h =
  ((zv_gI h a0 9 11).bind fun v1 =>
  (if a4 < v1 then
    (if a2 = (2 : Int) then
      ((zv_gR h a0 9 9).bind fun v2 =>
      ((zv_aB h v2 a4).bind fun v3 =>
      (if v3 = 0 then
        L9_leaning_154 d a0 a2 (zv_w (a3 + (0 : Int))) (zv_w (a4 + 1)) h
      else
        ((zv_gR h a0 9 25).bind fun v4 =>
        ((zv_gR h a0 9 6).bind fun v5 =>
        ((zv_aI h v5 a4).bind fun v6 =>
        ((zv_aB h v4 v6).bind fun v7 =>
        (if v7 = 0 then
          L9_leaning_154 d a0 a2 (zv_w (a3 + (0 : Int))) (zv_w (a4 + 1)) h
        else
          L9_leaning_154 d a0 a2 (zv_w (a3 + (1 : Int))) (zv_w (a4 + 1)) h))))))))
    else
      (some (some (zv_i a3), h)))
  else
    (some (some (zv_i a3), h)))) := by
  refine (zy_lim_eq zyS9_leaning _ _ _ _).trans ?_
  rfl
theorem zyS9_placeIn : zy_srt 0 mc9_placeIn.2.1 = true := by decide +kernel
set_option maxRecDepth 100000 in
theorem qE9_placeIn (d : Nat) (a0 : Nat) (a1 : Int) (h : zv_H) : E9_placeIn d a0 a1 h =
  ((zv_gR h a0 9 13).bind fun v1 =>
  ((C9_copies d a0 a1 v1 h).bind fun q2 =>
  L9_placeIn_12 d a0 q2.1 (0 : Int) q2.2)) := by
  refine (zy_lim_eq zyS9_placeIn _ _ _ _).trans ?_
  rfl
set_option maxRecDepth 100000 in
theorem qL9_placeIn_12 (d : Nat) (a0 : Nat) (a2 : Int) (a3 : Int) (h : zv_H) : L9_placeIn_12 d a0 a2 a3 h =
  ((zv_gI h a0 9 20).bind fun v1 =>
  (if (zv_w (a3 + v1)) ≤ a2 then
    L9_placeIn_28 d a0 a2 a3 (1 : Int) (0 : Int) h
  else
    (some (some (zv_i (-1 : Int)), h)))) := by
  refine (zy_lim_eq zyS9_placeIn _ _ _ _).trans ?_
  rfl
set_option maxRecDepth 100000 in
theorem qL9_placeIn_28 (d : Nat) (a0 : Nat) (a2 : Int) (a3 : Int) (a4 : Int) (a5 : Int) (h : zv_H) : L9_placeIn_28 d a0 a2 a3 a4 a5 h =
  ((zv_gI h a0 9 20).bind fun v1 =>
  (if a5 < v1 then
    (if a4 = 0 then
      L9_placeIn_74 d a0 a2 a3 a4 h
    else
      ((zv_gR h a0 9 13).bind fun v2 =>
      ((zv_aI h v2 (zv_w (a3 + a5))).bind fun v3 =>
      ((zv_gR h a0 9 18).bind fun v4 =>
      ((zv_aI h v4 a5).bind fun v5 =>
      (if v3 = v5 then
        L9_placeIn_28 d a0 a2 a3 (1 : Int) (zv_w (a5 + 1)) h
      else
        L9_placeIn_28 d a0 a2 a3 (0 : Int) (zv_w (a5 + 1)) h))))))
  else
    L9_placeIn_74 d a0 a2 a3 a4 h)) := by
  refine (zy_lim_eq zyS9_placeIn _ _ _ _).trans ?_
  rfl
set_option maxRecDepth 100000 in
theorem qL9_placeIn_74 (d : Nat) (a0 : Nat) (a2 : Int) (a3 : Int) (a4 : Int) (h : zv_H) : L9_placeIn_74 d a0 a2 a3 a4 h =
  (if a4 = 0 then
    L9_placeIn_12 d a0 a2 (zv_w (a3 + 1)) h
  else
    (some (some (zv_i a3), h))) := by
  refine (zy_lim_eq zyS9_placeIn _ _ _ _).trans ?_
  rfl
theorem zyS9_find : zy_srt 0 mc9_find.2.1 = true := by decide +kernel
set_option maxRecDepth 100000 in
theorem qE9_find (d : Nat) (a0 : Nat) (a1 : Int) (h : zv_H) : E9_find d a0 a1 h =
  ((C9_isIn d a1 (0 : Int) (2 : Int) h).bind fun q1 =>
  (if q1.1 = 0 then
    L9_find_21 d a0 a1 a0 q1.2
  else
    ((zv_gI q1.2 a0 9 20).bind fun v2 =>
    (if v2 ≤ 0 then
      L9_find_21 d a0 a1 a0 q1.2
    else
      L9_find_22 d a0 a1 a0 (0 : Int) q1.2)))) := by
  refine (zy_lim_eq zyS9_find _ _ _ _).trans ?_
  rfl
set_option maxRecDepth 100000 in
theorem qL9_find_21 (d : Nat) (a0 : Nat) (a1 : Int) (e0 : Nat) (h : zv_H) : L9_find_21 d a0 a1 e0 h =
  L9_find_22 d a0 a1 e0 (1 : Int) h := by
  refine (zy_lim_eq zyS9_find _ _ _ _).trans ?_
  rfl
set_option maxRecDepth 100000 in
theorem qL9_find_22 (d : Nat) (a0 : Nat) (a1 : Int) (e0 : Nat) (e1 : Int) (h : zv_H) : L9_find_22 d a0 a1 e0 e1 h =
  ((C9_is d e0 e1 h).bind fun q1 =>
  (if q1.1 = 0 then
    (some (some (zv_i (-1 : Int)), q1.2))
  else
    L9_find_38 d a0 a1 (0 : Int) (-1 : Int) (47 : Int) q1.2)) := by
  refine (zy_lim_eq zyS9_find _ _ _ _).trans ?_
  rfl
set_option maxRecDepth 100000 in
theorem qL9_find_38 (d : Nat) (a0 : Nat) (a1 : Int) (a2 : Int) (a3 : Int) (a4 : Int) (h : zv_H) : L9_find_38 d a0 a1 a2 a3 a4 h =
  (if a4 < 0 then
    L9_find_81 d a0 a1 a2 a3 h
  else
    (if a1 < (2 : Int) then
      ((C9_isState d a0 a4 h).bind fun q1 =>
      (if q1.1 = 0 then
        L9_find_38 d a0 a1 a2 a3 (zv_w (a4 + (-1))) q1.2
      else
        ((C9_placeIn d a0 a4 q1.2).bind fun q2 =>
        (if q2.1 < 0 then
          L9_find_38 d a0 a1 a2 a3 (zv_w (a4 + (-1))) q2.2
        else
          L9_find_38 d a0 a1 (zv_w (a2 + 1)) a4 (zv_w (a4 + (-1))) q2.2))))
    else
      L9_find_81 d a0 a1 a2 a3 h)) := by
  refine (zy_lim_eq zyS9_find _ _ _ _).trans ?_
  rfl
set_option maxRecDepth 100000 in
theorem qL9_find_81 (d : Nat) (a0 : Nat) (a1 : Int) (a2 : Int) (a3 : Int) (h : zv_H) : L9_find_81 d a0 a1 a2 a3 h =
  (if a1 = (2 : Int) then
    ((C9_here d a0 h).bind fun q1 =>
    ((C9_placeIn d a0 q1.1 q1.2).bind fun q2 =>
    L9_find_107 d a0 q2.1 q2.2))
  else
    (if a1 = (1 : Int) then
      L9_find_107 d a0 a2 h
    else
      L9_find_107 d a0 a3 h)) := by
  refine (zy_lim_eq zyS9_find _ _ _ _).trans ?_
  rfl
set_option maxRecDepth 100000 in
theorem qL9_find_107 (d : Nat) (a0 : Nat) (e0 : Int) (h : zv_H) : L9_find_107 d a0 e0 h =
  (if e0 < 0 then
    ((C9_refuse d a0 (5 : Int) h).bind fun q1 =>
    (some (some (zv_i q1.1), q1.2)))
  else
    (some (some (zv_i e0), h))) := by
  refine (zy_lim_eq zyS9_find _ _ _ _).trans ?_
  rfl
theorem zyS9_first : zy_srt 0 mc9_first.2.1 = true := by decide +kernel
set_option maxRecDepth 100000 in
theorem qE9_first (d : Nat) (a0 : Nat) (h : zv_H) : E9_first d a0 h =
  ((C9_is d a0 (0 : Int) h).bind fun q1 =>
  ((C9_firstOut d a0 q1.2).bind fun q2 =>
  (if q2.1 < 0 then
    ((C9_refuse d a0 (5 : Int) q2.2).bind fun q3 =>
    (some (some (zv_i q3.1), q3.2)))
  else
    (some (some (zv_i q2.1), q2.2))))) := by
  refine (zy_lim_eq zyS9_first _ _ _ _).trans ?_
  rfl
theorem zyS9_twin : zy_srt 0 mc9_twin.2.1 = true := by decide +kernel
set_option maxRecDepth 100000 in
theorem qE9_twin (d : Nat) (a0 : Nat) (a1 : Int) (h : zv_H) : E9_twin d a0 a1 h =
  ((C9_isState d a0 a1 h).bind fun q1 =>
  (if q1.1 = 0 then
    L9_twin_14 d a0 a1 a0 (2 : Int) q1.2
  else
    L9_twin_14 d a0 a1 a0 (0 : Int) q1.2)) := by
  refine (zy_lim_eq zyS9_twin _ _ _ _).trans ?_
  rfl
set_option maxRecDepth 100000 in
theorem qL9_twin_14 (d : Nat) (a0 : Nat) (a1 : Int) (e0 : Nat) (e1 : Int) (h : zv_H) : L9_twin_14 d a0 a1 e0 e1 h =
  ((C9_is d e0 e1 h).bind fun q1 =>
  (if q1.1 = 0 then
    (some (some (zv_i (-1 : Int)), q1.2))
  else
    L9_twin_24 d a0 a1 (0 : Int) q1.2)) := by
  refine (zy_lim_eq zyS9_twin _ _ _ _).trans ?_
  rfl
set_option maxRecDepth 100000 in
theorem qL9_twin_24 (d : Nat) (a0 : Nat) (a1 : Int) (a2 : Int) (h : zv_H) : L9_twin_24 d a0 a1 a2 h =
  (if a2 < (48 : Int) then
    ((C9_isState d a0 a2 h).bind fun q1 =>
    (if q1.1 = 0 then
      L9_twin_24 d a0 a1 (zv_w (a2 + 1)) q1.2
    else
      (if a2 = a1 then
        L9_twin_24 d a0 a1 (zv_w (a2 + 1)) q1.2
      else
        ((C9_differ d a0 a2 a1 q1.2).bind fun q2 =>
        (if q2.1 < 0 then
          (some (some (zv_i a2), q2.2))
        else
          L9_twin_24 d a0 a1 (zv_w (a2 + 1)) q2.2)))))
  else
    ((C9_refuse d a0 (5 : Int) h).bind fun q3 =>
    (some (some (zv_i q3.1), q3.2)))) := by
  refine (zy_lim_eq zyS9_twin _ _ _ _).trans ?_
  rfl
theorem zyS9_back : zy_srt 0 mc9_back.2.1 = true := by decide +kernel
set_option maxRecDepth 100000 in
theorem qE9_back (d : Nat) (a0 : Nat) (a1 : Int) (h : zv_H) : E9_back d a0 a1 h =
  ((C9_isIn d a1 (1 : Int) (48 : Int) h).bind fun q1 =>
  (if q1.1 = 0 then
    L9_back_16 d a0 a1 a0 (1 : Int) q1.2
  else
    L9_back_16 d a0 a1 a0 (0 : Int) q1.2)) := by
  refine (zy_lim_eq zyS9_back _ _ _ _).trans ?_
  rfl
set_option maxRecDepth 100000 in
theorem qL9_back_16 (d : Nat) (a0 : Nat) (a1 : Int) (e0 : Nat) (e1 : Int) (h : zv_H) : L9_back_16 d a0 a1 e0 e1 h =
  ((C9_is d e0 e1 h).bind fun q1 =>
  (if q1.1 = 0 then
    (some (some (zv_i (-1 : Int)), q1.2))
  else
    ((C9_here d a0 q1.2).bind fun q2 =>
    L9_back_31 d a0 a1 q2.1 (0 : Int) q2.2))) := by
  refine (zy_lim_eq zyS9_back _ _ _ _).trans ?_
  rfl
set_option maxRecDepth 100000 in
theorem qL9_back_31 (d : Nat) (a0 : Nat) (a1 : Int) (a2 : Int) (a3 : Int) (h : zv_H) : L9_back_31 d a0 a1 a2 a3 h =
  (if a3 < a1 then
    (if a2 = 0 then
      ((C9_refuse d a0 (5 : Int) h).bind fun q1 =>
      (some (some (zv_i q1.1), q1.2)))
    else
      ((C9_of d a0 a2 (6 : Int) h).bind fun q2 =>
      ((C9_of d a0 q2.1 (1 : Int) q2.2).bind fun q3 =>
      L9_back_31 d a0 a1 q3.1 (zv_w (a3 + 1)) q3.2)))
  else
    (some (some (zv_i a2), h))) := by
  refine (zy_lim_eq zyS9_back _ _ _ _).trans ?_
  rfl
