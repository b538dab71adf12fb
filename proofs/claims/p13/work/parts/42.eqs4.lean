theorem zyS4_init : zy_srt 0 mc4_init.2.1 = true := by decide +kernel
set_option maxRecDepth 100000 in
theorem qE4_init (d : Nat) (a0 : Nat) (h : zv_H) : E4_init d a0 h =
  (if a0 = 0 then none else
  ((zv_nA h 6 (48 : Int)).bind fun g1 =>
  ((zv_pR g1 a0 4 0 (zv_n h + 1)).bind fun g2 =>
  ((zv_nA g2 2 (604 : Int)).bind fun g3 =>
  ((zv_pR g3 a0 4 1 (zv_n g2 + 1)).bind fun g4 =>
  ((zv_nA g4 3 (604 : Int)).bind fun g5 =>
  ((zv_pR g5 a0 4 2 (zv_n g4 + 1)).bind fun g6 =>
  ((zv_nA g6 3 (604 : Int)).bind fun g7 =>
  ((zv_pR g7 a0 4 3 (zv_n g6 + 1)).bind fun g8 =>
  ((zv_nA g8 2 (605 : Int)).bind fun g9 =>
  ((zv_pR g9 a0 4 4 (zv_n g8 + 1)).bind fun g10 =>
  (some (none, g10))))))))))))) := by
  refine (zy_lim_eq zyS4_init _ _ _ _).trans ?_
  rfl
theorem zyS4_id : zy_srt 0 mc4_id.2.1 = true := by decide +kernel
set_option maxRecDepth 100000 in
theorem qE4_id (d : Nat) (a0 : Int) (a1 : Int) (h : zv_H) : E4_id d a0 a1 h =
  (if a0 = 0 then
    (some (some (zv_i a1), h))
  else
    (some (some (zv_i (zv_w ((zv_w ((40 : Int) + (zv_w ((zv_w (a0 - (1 : Int))) * (12 : Int))))) + a1))), h))) := by
  refine (zy_lim_eq zyS4_id _ _ _ _).trans ?_
  rfl
theorem zyS4_putter : zy_srt 0 mc4_putter.2.1 = true := by decide +kernel
set_option maxRecDepth 100000 in
theorem qE4_putter (d : Nat) (a0 : Int) (h : zv_H) : E4_putter d a0 h =
  (if a0 < (40 : Int) then
    (some (some (zv_i (0 : Int)), h))
  else
    (some (some (zv_i (zv_w ((zv_w (((zv_w (a0 - (40 : Int)))).tdiv (12 : Int))) + (1 : Int)))), h))) := by
  refine (zy_lim_eq zyS4_putter _ _ _ _).trans ?_
  rfl
theorem zyS4_order : zy_srt 0 mc4_order.2.1 = true := by decide +kernel
set_option maxRecDepth 100000 in
theorem qE4_order (d : Nat) (a0 : Int) (h : zv_H) : E4_order d a0 h =
  (if a0 < (40 : Int) then
    (some (some (zv_i a0), h))
  else
    (some (some (zv_i (((zv_w (a0 - (40 : Int)))).tmod (12 : Int))), h))) := by
  refine (zy_lim_eq zyS4_order _ _ _ _).trans ?_
  rfl
theorem zyS4_isId : zy_srt 0 mc4_isId.2.1 = true := by decide +kernel
set_option maxRecDepth 100000 in
theorem qE4_isId (d : Nat) (a0 : Int) (h : zv_H) : E4_isId d a0 h =
  (if a0 < 0 then
    (some (some (zv_i (0 : Int)), h))
  else
    (if a0 < (604 : Int) then
      (some (some (zv_i (1 : Int)), h))
    else
      (some (some (zv_i (0 : Int)), h)))) := by
  refine (zy_lim_eq zyS4_isId _ _ _ _).trans ?_
  rfl
theorem zyS4_lay : zy_srt 0 mc4_lay.2.1 = true := by decide +kernel
set_option maxRecDepth 100000 in
theorem qE4_lay (d : Nat) (a0 : Nat) (a1 : Nat) (h : zv_H) : E4_lay d a0 a1 h =
  ((C4_walk d a0 a1 h).bind fun g1 =>
  ((zv_gR g1 a0 4 4).bind fun v2 =>
  ((zv_wI g1 v2 (604 : Int) (-1 : Int)).bind fun g3 =>
  L4_lay_16 d a0 (0 : Int) g3))) := by
  refine (zy_lim_eq zyS4_lay _ _ _ _).trans ?_
  rfl
set_option maxRecDepth 100000 in
theorem qL4_lay_16 (d : Nat) (a0 : Nat) (a2 : Int) (h : zv_H) : L4_lay_16 d a0 a2 h =
  ((zv_gI h a0 4 5).bind fun v1 =>
  (if a2 < v1 then
    ((zv_gR h a0 4 0).bind fun v2 =>
    ((zv_aR h v2 a2).bind fun v3 =>
    (if v3 = 0 then
      L4_lay_16 d a0 (zv_w (a2 + 1)) h
    else
      ((zv_gR h a0 4 0).bind fun v4 =>
      ((zv_aR h v4 a2).bind fun v5 =>
      ((C5_brings d v5 h).bind fun q6 =>
      (if q6.1 = 0 then
        L4_lay_16 d a0 (zv_w (a2 + 1)) q6.2
      else
        ((zv_gR q6.2 a0 4 0).bind fun v7 =>
        ((zv_aR q6.2 v7 a2).bind fun v8 =>
        ((C4_link d a0 v8 q6.2).bind fun g9 =>
        L4_lay_16 d a0 (zv_w (a2 + 1)) g9))))))))))
  else
    ((zv_pI h a0 4 6 (0 : Int)).bind fun g10 =>
    ((zv_gR g10 a0 4 4).bind fun v11 =>
    ((zv_aI g10 v11 (604 : Int)).bind fun v12 =>
    L4_lay_77 d a0 v12 (0 : Int) g10))))) := by
  refine (zy_lim_eq zyS4_lay _ _ _ _).trans ?_
  rfl
set_option maxRecDepth 100000 in
theorem qL4_lay_77 (d : Nat) (a0 : Nat) (a2 : Int) (a3 : Int) (h : zv_H) : L4_lay_77 d a0 a2 a3 h =
  (if a3 < (604 : Int) then
    ((C4_isId d a2 h).bind fun q1 =>
    (if q1.1 = 0 then
      L4_lay_118 d a0 q1.2
    else
      ((zv_gR q1.2 a0 4 1).bind fun v2 =>
      ((zv_wI q1.2 v2 a3 a2).bind fun g3 =>
      ((zv_pI g3 a0 4 6 (zv_w (a3 + (1 : Int)))).bind fun g4 =>
      ((zv_gR g4 a0 4 4).bind fun v5 =>
      ((zv_aI g4 v5 a2).bind fun v6 =>
      L4_lay_77 d a0 v6 (zv_w (a3 + 1)) g4)))))))
  else
    L4_lay_118 d a0 h) := by
  refine (zy_lim_eq zyS4_lay _ _ _ _).trans ?_
  rfl
set_option maxRecDepth 100000 in
theorem qL4_lay_118 (d : Nat) (a0 : Nat) (h : zv_H) : L4_lay_118 d a0 h =
  ((zv_gJ h a0 4 9).bind fun v1 =>
  ((C4_look d a0 v1 h).bind fun g2 =>
  (some (none, g2)))) := by
  refine (zy_lim_eq zyS4_lay _ _ _ _).trans ?_
  rfl
theorem zyS4_walk : zy_srt 0 mc4_walk.2.1 = true := by decide +kernel
set_option maxRecDepth 100000 in
theorem qE4_walk (d : Nat) (a0 : Nat) (a1 : Nat) (h : zv_H) : E4_walk d a0 a1 h =
  ((zv_pJ h a0 4 8 (Int64.ofNat 0)).bind fun g1 =>
  ((zv_gI g1 a1 5 10).bind fun v2 =>
  ((zv_pI g1 a0 4 5 (min (zv_w (v2 + (1 : Int))) (48 : Int))).bind fun g3 =>
  L4_walk_28 d a0 (Int64.ofNat 0) (Int64.ofNat 0) a1 g3))) := by
  refine (zy_lim_eq zyS4_walk _ _ _ _).trans ?_
  rfl
set_option maxRecDepth 100000 in
theorem qL4_walk_28 (d : Nat) (a0 : Nat) (a2 : Int64) (a4 : Int64) (a6 : Nat) (h : zv_H) : L4_walk_28 d a0 a2 a4 a6 h =
  (if a6 = 0 then
    ((zv_gJ h a0 4 8).bind fun v1 =>
    ((zv_pJ h a0 4 9 (v1 &&& (a4 ^^^ (-1 : Int64)))).bind fun g2 =>
    (some (none, g2))))
  else
    ((zv_gI h a6 5 10).bind fun v3 =>
    (if v3 < 0 then
      L4_walk_63 d a0 a2 a4 a6 h
    else
      ((zv_gI h a6 5 10).bind fun v4 =>
      (if v4 < (48 : Int) then
        ((zv_gR h a0 4 0).bind fun v5 =>
        ((zv_gI h a6 5 10).bind fun v6 =>
        ((zv_wR h v5 v6 a6).bind fun g7 =>
        L4_walk_63 d a0 a2 a4 a6 g7)))
      else
        L4_walk_63 d a0 a2 a4 a6 h))))) := by
  refine (zy_lim_eq zyS4_walk _ _ _ _).trans ?_
  rfl
set_option maxRecDepth 100000 in
theorem qL4_walk_63 (d : Nat) (a0 : Nat) (a2 : Int64) (a4 : Int64) (a6 : Nat) (h : zv_H) : L4_walk_63 d a0 a2 a4 a6 h =
  ((C5_edits d a6 h).bind fun q1 =>
  (if q1.1 = 0 then
    L4_walk_85 d a0 a2 a4 a6 q1.2
  else
    ((zv_gJ q1.2 a0 4 8).bind fun v2 =>
    ((C5_bit d a6 q1.2).bind fun q3 =>
    ((zv_pJ q3.2 a0 4 8 (v2 ||| q3.1)).bind fun g4 =>
    L4_walk_85 d a0 a2 a4 a6 g4))))) := by
  refine (zy_lim_eq zyS4_walk _ _ _ _).trans ?_
  rfl
set_option maxRecDepth 100000 in
theorem qL4_walk_85 (d : Nat) (a0 : Nat) (a2 : Int64) (a4 : Int64) (a6 : Nat) (h : zv_H) : L4_walk_85 d a0 a2 a4 a6 h =
  ((zv_gI h a6 5 6).bind fun v1 =>
  (if v1 = (2 : Int) then
    ((zv_gJ h a6 5 16).bind fun v2 =>
    ((zv_gJ h a6 5 16).bind fun v3 =>
    ((zv_gR h a6 5 4).bind fun v4 =>
    L4_walk_28 d a0 (a2 ||| v3) (a4 ||| (v2 &&& (a2 ^^^ (-1 : Int64)))) v4 h)))
  else
    ((zv_gJ h a6 5 16).bind fun v5 =>
    ((zv_gR h a6 5 4).bind fun v6 =>
    L4_walk_28 d a0 (a2 ||| v5) a4 v6 h)))) := by
  refine (zy_lim_eq zyS4_walk _ _ _ _).trans ?_
  rfl
theorem zyS4_link : zy_srt 0 mc4_link.2.1 = true := by decide +kernel
set_option maxRecDepth 100000 in
theorem qE4_link (d : Nat) (a0 : Nat) (a1 : Nat) (h : zv_H) : E4_link d a0 a1 h =
  ((zv_gI h a1 5 15).bind fun v1 =>
  ((C4_isId d v1 h).bind fun q2 =>
  (if q2.1 = 0 then
    ((zv_gR q2.2 a0 4 4).bind fun v3 =>
    ((zv_aI q2.2 v3 (604 : Int)).bind fun v4 =>
    L4_link_31 d a0 a1 (604 : Int) v4 (0 : Int) q2.2))
  else
    ((zv_gI q2.2 a1 5 15).bind fun v5 =>
    ((zv_gR q2.2 a0 4 4).bind fun v6 =>
    ((zv_aI q2.2 v6 v5).bind fun v7 =>
    L4_link_31 d a0 a1 v5 v7 (0 : Int) q2.2)))))) := by
  refine (zy_lim_eq zyS4_link _ _ _ _).trans ?_
  rfl
set_option maxRecDepth 100000 in
theorem qL4_link_31 (d : Nat) (a0 : Nat) (a1 : Nat) (a2 : Int) (a3 : Int) (a4 : Int) (h : zv_H) : L4_link_31 d a0 a1 a2 a3 a4 h =
  ((zv_gI h a1 5 9).bind fun v1 =>
  (if a4 < v1 then
    ((zv_gI h a1 5 0).bind fun v2 =>
    ((C4_id d v2 a4 h).bind fun q3 =>
    ((C4_isId d q3.1 q3.2).bind fun q4 =>
    (if q4.1 = 0 then
      L4_link_31 d a0 a1 a2 a3 (zv_w (a4 + 1)) q4.2
    else
      ((zv_gR q4.2 a0 4 4).bind fun v5 =>
      ((zv_wI q4.2 v5 a2 q3.1).bind fun g6 =>
      L4_link_31 d a0 a1 q3.1 a3 (zv_w (a4 + 1)) g6))))))
  else
    ((zv_gR h a0 4 4).bind fun v7 =>
    ((zv_wI h v7 a2 a3).bind fun g8 =>
    (some (none, g8)))))) := by
  refine (zy_lim_eq zyS4_link _ _ _ _).trans ?_
  rfl
theorem zyS4_look : zy_srt 0 mc4_look.2.1 = true := by decide +kernel
set_option maxRecDepth 100000 in
theorem qE4_look (d : Nat) (a0 : Nat) (a1 : Int64) (h : zv_H) : E4_look d a0 a1 h =
  L4_look_2 d a0 a1 (0 : Int) h := by
  refine (zy_lim_eq zyS4_look _ _ _ _).trans ?_
  rfl
set_option maxRecDepth 100000 in
theorem qL4_look_2 (d : Nat) (a0 : Nat) (a1 : Int64) (a3 : Int) (h : zv_H) : L4_look_2 d a0 a1 a3 h =
  (if a3 < (604 : Int) then
    ((zv_gR h a0 4 3).bind fun v1 =>
    ((zv_wB h v1 a3 (0 : Int)).bind fun g2 =>
    L4_look_2 d a0 a1 (zv_w (a3 + 1)) g2))
  else
    L4_look_24 d a0 a1 (0 : Int) h) := by
  refine (zy_lim_eq zyS4_look _ _ _ _).trans ?_
  rfl
set_option maxRecDepth 100000 in
theorem qL4_look_24 (d : Nat) (a0 : Nat) (a1 : Int64) (a3 : Int) (h : zv_H) : L4_look_24 d a0 a1 a3 h =
  ((zv_gI h a0 4 5).bind fun v1 =>
  (if a3 < v1 then
    ((zv_gR h a0 4 0).bind fun v2 =>
    ((zv_aR h v2 a3).bind fun v3 =>
    L4_look_43 d a0 a1 a3 v3 (0 : Int) h))
  else
    ((zv_pI h a0 4 7 (0 : Int)).bind fun g4 =>
    L4_look_114 d a0 a1 (0 : Int) g4))) := by
  refine (zy_lim_eq zyS4_look _ _ _ _).trans ?_
  rfl
set_option maxRecDepth 100000 in
theorem qL4_look_43 (d : Nat) (a0 : Nat) (a1 : Int64) (a3 : Int) (a4 : Nat) (a5 : Int) (h : zv_H) : L4_look_43 d a0 a1 a3 a4 a5 h =
  (if a4 = 0 then
    L4_look_24 d a0 a1 (zv_w (a3 + 1)) h
  else
    ((C5_bit d a4 h).bind fun q1 =>
    (if (zv_lcmp (a1 &&& q1.1) (Int64.ofNat 0)) = 0 then
      L4_look_24 d a0 a1 (zv_w (a3 + 1)) q1.2
    else
      ((zv_gI q1.2 a4 5 9).bind fun v2 =>
      (if a5 < v2 then
        ((C5_tookAt d a4 a5 q1.2).bind fun q3 =>
        ((C4_isId d q3.1 q3.2).bind fun q4 =>
        (if q4.1 = 0 then
          L4_look_43 d a0 a1 a3 a4 (zv_w (a5 + 1)) q4.2
        else
          ((zv_gR q4.2 a0 4 3).bind fun v5 =>
          ((zv_wB q4.2 v5 q3.1 (1 : Int)).bind fun g6 =>
          L4_look_43 d a0 a1 a3 a4 (zv_w (a5 + 1)) g6)))))
      else
        L4_look_24 d a0 a1 (zv_w (a3 + 1)) q1.2))))) := by
  refine (zy_lim_eq zyS4_look _ _ _ _).trans ?_
  rfl
set_option maxRecDepth 100000 in
theorem qL4_look_114 (d : Nat) (a0 : Nat) (a1 : Int64) (a3 : Int) (h : zv_H) : L4_look_114 d a0 a1 a3 h =
  ((zv_gI h a0 4 6).bind fun v1 =>
  (if a3 < v1 then
    (if a3 < (604 : Int) then
      ((zv_gR h a0 4 1).bind fun v2 =>
      ((zv_aI h v2 a3).bind fun v3 =>
      ((C4_putter d v3 h).bind fun q4 =>
      ((zv_gR q4.2 a0 4 2).bind fun v5 =>
      ((C4_isId d v3 q4.2).bind fun q6 =>
      (if q6.1 = 0 then
        L4_look_187 d a0 a1 a3 v5 a3 q6.2
      else
        ((zv_gR q6.2 a0 4 3).bind fun v7 =>
        ((zv_aB q6.2 v7 v3).bind fun v8 =>
        (if v8 = 0 then
          (if q4.1 = 0 then
            L4_look_183 d a0 a1 a3 v5 a3 q6.2
          else
            (if (zv_lcmp ((zv_lushr a1 q4.1) &&& (Int64.ofNat 1)) (Int64.ofNat 0)) = 0 then
              L4_look_187 d a0 a1 a3 v5 a3 q6.2
            else
              L4_look_183 d a0 a1 a3 v5 a3 q6.2))
        else
          L4_look_187 d a0 a1 a3 v5 a3 q6.2)))))))))
    else
      (some (none, h)))
  else
    (some (none, h)))) := by
  refine (zy_lim_eq zyS4_look _ _ _ _).trans ?_
  rfl
set_option maxRecDepth 100000 in
theorem qL4_look_183 (d : Nat) (a0 : Nat) (a1 : Int64) (a3 : Int) (e0 : Nat) (e1 : Int) (h : zv_H) : L4_look_183 d a0 a1 a3 e0 e1 h =
  L4_look_188 d a0 a1 a3 e0 e1 (1 : Int) h := by
  refine (zy_lim_eq zyS4_look _ _ _ _).trans ?_
  rfl
set_option maxRecDepth 100000 in
theorem qL4_look_187 (d : Nat) (a0 : Nat) (a1 : Int64) (a3 : Int) (e0 : Nat) (e1 : Int) (h : zv_H) : L4_look_187 d a0 a1 a3 e0 e1 h =
  L4_look_188 d a0 a1 a3 e0 e1 (0 : Int) h := by
  refine (zy_lim_eq zyS4_look _ _ _ _).trans ?_
  rfl
set_option maxRecDepth 100000 in
theorem qL4_look_188 (d : Nat) (a0 : Nat) (a1 : Int64) (a3 : Int) (e0 : Nat) (e1 : Int) (e2 : Int) (h : zv_H) : L4_look_188 d a0 a1 a3 e0 e1 e2 h =
  ((zv_wB h e0 e1 e2).bind fun g1 =>
  ((zv_gI g1 a0 4 7).bind fun v2 =>
  ((zv_gR g1 a0 4 2).bind fun v3 =>
  ((zv_aB g1 v3 a3).bind fun v4 =>
  (if v4 = 0 then
    ((zv_pI g1 a0 4 7 (zv_w (v2 + (0 : Int)))).bind fun g5 =>
    L4_look_114 d a0 a1 (zv_w (a3 + 1)) g5)
  else
    ((zv_pI g1 a0 4 7 (zv_w (v2 + (1 : Int)))).bind fun g6 =>
    L4_look_114 d a0 a1 (zv_w (a3 + 1)) g6)))))) := by
  refine (zy_lim_eq zyS4_look _ _ _ _).trans ?_
  rfl
theorem zyS4_numberAt : zy_srt 0 mc4_numberAt.2.1 = true := by decide +kernel
set_option maxRecDepth 100000 in
theorem qE4_numberAt (d : Nat) (a0 : Nat) (a1 : Int) (h : zv_H) : E4_numberAt d a0 a1 h =
  (if a1 < 0 then
    (some (some (zv_i (0 : Int)), h))
  else
    ((zv_gI h a0 4 5).bind fun v1 =>
    (if a1 < v1 then
      (if a1 < (48 : Int) then
        ((zv_gR h a0 4 0).bind fun v2 =>
        ((zv_aR h v2 a1).bind fun v3 =>
        (if v3 = 0 then
          (some (some (zv_i (0 : Int)), h))
        else
          ((zv_gR h a0 4 0).bind fun v4 =>
          ((zv_aR h v4 a1).bind fun v5 =>
          ((zv_gI h v5 5 0).bind fun v6 =>
          (some (some (zv_i v6), h))))))))
      else
        (some (some (zv_i (0 : Int)), h)))
    else
      (some (some (zv_i (0 : Int)), h))))) := by
  refine (zy_lim_eq zyS4_numberAt _ _ _ _).trans ?_
  rfl
theorem zyS4_idAt : zy_srt 0 mc4_idAt.2.1 = true := by decide +kernel
set_option maxRecDepth 100000 in
theorem qE4_idAt (d : Nat) (a0 : Nat) (a1 : Int) (h : zv_H) : E4_idAt d a0 a1 h =
  (if a1 < 0 then
    (some (some (zv_i (-1 : Int)), h))
  else
    ((zv_gI h a0 4 6).bind fun v1 =>
    (if a1 < v1 then
      (if a1 < (604 : Int) then
        ((zv_gR h a0 4 1).bind fun v2 =>
        ((zv_aI h v2 a1).bind fun v3 =>
        (some (some (zv_i v3), h))))
      else
        (some (some (zv_i (-1 : Int)), h)))
    else
      (some (some (zv_i (-1 : Int)), h))))) := by
  refine (zy_lim_eq zyS4_idAt _ _ _ _).trans ?_
  rfl
theorem zyS4_seesAt : zy_srt 0 mc4_seesAt.2.1 = true := by decide +kernel
set_option maxRecDepth 100000 in
theorem qE4_seesAt (d : Nat) (a0 : Nat) (a1 : Int) (h : zv_H) : E4_seesAt d a0 a1 h =
  (if a1 < 0 then
    (some (some (zv_i (0 : Int)), h))
  else
    ((zv_gI h a0 4 6).bind fun v1 =>
    (if a1 < v1 then
      (if a1 < (604 : Int) then
        ((zv_gR h a0 4 2).bind fun v2 =>
        ((zv_aB h v2 a1).bind fun v3 =>
        (if v3 = 0 then
          (some (some (zv_i (0 : Int)), h))
        else
          (some (some (zv_i (1 : Int)), h)))))
      else
        (some (some (zv_i (0 : Int)), h)))
    else
      (some (some (zv_i (0 : Int)), h))))) := by
  refine (zy_lim_eq zyS4_seesAt _ _ _ _).trans ?_
  rfl
theorem zyS4_placeOf : zy_srt 0 mc4_placeOf.2.1 = true := by decide +kernel
set_option maxRecDepth 100000 in
theorem qE4_placeOf (d : Nat) (a0 : Nat) (a1 : Int) (h : zv_H) : E4_placeOf d a0 a1 h =
  L4_placeOf_2 d a0 a1 (0 : Int) h := by
  refine (zy_lim_eq zyS4_placeOf _ _ _ _).trans ?_
  rfl
set_option maxRecDepth 100000 in
theorem qL4_placeOf_2 (d : Nat) (a0 : Nat) (a1 : Int) (a2 : Int) (h : zv_H) : L4_placeOf_2 d a0 a1 a2 h =
  ((zv_gI h a0 4 6).bind fun v1 =>
  (if a2 < v1 then
    (if a1 = (-1 : Int) then
      L4_placeOf_2 d a0 a1 (zv_w (a2 + 1)) h
    else
      ((C4_idAt d a0 a2 h).bind fun q2 =>
      (if q2.1 = a1 then
        (some (some (zv_i a2), q2.2))
      else
        L4_placeOf_2 d a0 a1 (zv_w (a2 + 1)) q2.2)))
  else
    (some (some (zv_i (-1 : Int)), h)))) := by
  refine (zy_lim_eq zyS4_placeOf _ _ _ _).trans ?_
  rfl
theorem zyS4_seenUpTo : zy_srt 0 mc4_seenUpTo.2.1 = true := by decide +kernel
set_option maxRecDepth 100000 in
theorem qE4_seenUpTo (d : Nat) (a0 : Nat) (a1 : Int) (h : zv_H) : E4_seenUpTo d a0 a1 h =
  ((C4_placeOf d a0 a1 h).bind fun q1 =>
  (if q1.1 = (-1 : Int) then
    (some (some (zv_i (-1 : Int)), q1.2))
  else
    L4_seenUpTo_18 d a0 q1.1 (0 : Int) (0 : Int) q1.2)) := by
  refine (zy_lim_eq zyS4_seenUpTo _ _ _ _).trans ?_
  rfl
set_option maxRecDepth 100000 in
theorem qL4_seenUpTo_18 (d : Nat) (a0 : Nat) (a2 : Int) (a3 : Int) (a4 : Int) (h : zv_H) : L4_seenUpTo_18 d a0 a2 a3 a4 h =
  (if a4 ≤ a2 then
    ((C4_seesAt d a0 a4 h).bind fun q1 =>
    (if q1.1 = 0 then
      L4_seenUpTo_18 d a0 a2 (zv_w (a3 + (0 : Int))) (zv_w (a4 + 1)) q1.2
    else
      L4_seenUpTo_18 d a0 a2 (zv_w (a3 + (1 : Int))) (zv_w (a4 + 1)) q1.2))
  else
    (some (some (zv_i a3), h))) := by
  refine (zy_lim_eq zyS4_seenUpTo _ _ _ _).trans ?_
  rfl
theorem zyS4_outOfForce : zy_srt 0 mc4_outOfForce.2.1 = true := by decide +kernel
set_option maxRecDepth 100000 in
theorem qE4_outOfForce (d : Nat) (a0 : Nat) (h : zv_H) : E4_outOfForce d a0 h =
  ((zv_gJ h a0 4 8).bind fun v1 =>
  ((zv_gJ h a0 4 9).bind fun v2 =>
  (some (some (zv_j (v1 &&& (v2 ^^^ (-1 : Int64)))), h)))) := by
  refine (zy_lim_eq zyS4_outOfForce _ _ _ _).trans ?_
  rfl
theorem zyS4_cutsInForce : zy_srt 0 mc4_cutsInForce.2.1 = true := by decide +kernel
set_option maxRecDepth 100000 in
theorem qE4_cutsInForce (d : Nat) (a0 : Nat) (a1 : Int) (h : zv_H) : E4_cutsInForce d a0 a1 h =
  L4_cutsInForce_4 d a0 a1 (0 : Int) (0 : Int) h := by
  refine (zy_lim_eq zyS4_cutsInForce _ _ _ _).trans ?_
  rfl
set_option maxRecDepth 100000 in
theorem qL4_cutsInForce_4 (d : Nat) (a0 : Nat) (a1 : Int) (a2 : Int) (a3 : Int) (h : zv_H) : L4_cutsInForce_4 d a0 a1 a2 a3 h =
  ((zv_gI h a0 4 5).bind fun v1 =>
  (if a3 < v1 then
    ((zv_gR h a0 4 0).bind fun v2 =>
    ((zv_aR h v2 a3).bind fun v3 =>
    (if v3 = 0 then
      L4_cutsInForce_4 d a0 a1 a2 (zv_w (a3 + 1)) h
    else
      ((zv_gJ h a0 4 9).bind fun v4 =>
      ((C5_bit d v3 h).bind fun q5 =>
      (if (zv_lcmp (v4 &&& q5.1) (Int64.ofNat 0)) = 0 then
        L4_cutsInForce_4 d a0 a1 a2 (zv_w (a3 + 1)) q5.2
      else
        ((C5_tookIt d v3 a1 q5.2).bind fun q6 =>
        (if q6.1 = 0 then
          L4_cutsInForce_4 d a0 a1 a2 (zv_w (a3 + 1)) q6.2
        else
          L4_cutsInForce_4 d a0 a1 (zv_w (a2 + 1)) (zv_w (a3 + 1)) q6.2))))))))
  else
    (some (some (zv_i a2), h)))) := by
  refine (zy_lim_eq zyS4_cutsInForce _ _ _ _).trans ?_
  rfl
theorem zyS4_lastCut : zy_srt 0 mc4_lastCut.2.1 = true := by decide +kernel
set_option maxRecDepth 100000 in
theorem qE4_lastCut (d : Nat) (a0 : Nat) (a1 : Int) (h : zv_H) : E4_lastCut d a0 a1 h =
  ((zv_gI h a0 4 5).bind fun v1 =>
  L4_lastCut_7 d a0 a1 (zv_w (v1 - (1 : Int))) h) := by
  refine (zy_lim_eq zyS4_lastCut _ _ _ _).trans ?_
  rfl
set_option maxRecDepth 100000 in
theorem qL4_lastCut_7 (d : Nat) (a0 : Nat) (a1 : Int) (a2 : Int) (h : zv_H) : L4_lastCut_7 d a0 a1 a2 h =
  (if a2 < 0 then
    (some (some (zv_i (-1 : Int)), h))
  else
    ((zv_gR h a0 4 0).bind fun v1 =>
    ((zv_aR h v1 a2).bind fun v2 =>
    (if v2 = 0 then
      L4_lastCut_7 d a0 a1 (zv_w (a2 + (-1))) h
    else
      ((zv_gR h a0 4 0).bind fun v3 =>
      ((zv_aR h v3 a2).bind fun v4 =>
      ((C5_tookIt d v4 a1 h).bind fun q5 =>
      (if q5.1 = 0 then
        L4_lastCut_7 d a0 a1 (zv_w (a2 + (-1))) q5.2
      else
        ((zv_gR q5.2 a0 4 0).bind fun v6 =>
        ((zv_aR q5.2 v6 a2).bind fun v7 =>
        ((zv_gI q5.2 v7 5 0).bind fun v8 =>
        (some (some (zv_i v8), q5.2))))))))))))) := by
  refine (zy_lim_eq zyS4_lastCut _ _ _ _).trans ?_
  rfl
theorem zyS4_leaningOn : zy_srt 0 mc4_leaningOn.2.1 = true := by decide +kernel
set_option maxRecDepth 100000 in
theorem qE4_leaningOn (d : Nat) (a0 : Nat) (a1 : Nat) (h : zv_H) : E4_leaningOn d a0 a1 h =
  ((C5_bit d a1 h).bind fun q1 =>
  L4_leaningOn_8 d a0 a1 q1.1 (0 : Int) q1.2) := by
  refine (zy_lim_eq zyS4_leaningOn _ _ _ _).trans ?_
  rfl
set_option maxRecDepth 100000 in
theorem qL4_leaningOn_8 (d : Nat) (a0 : Nat) (a1 : Nat) (a2 : Int64) (a4 : Int) (h : zv_H) : L4_leaningOn_8 d a0 a1 a2 a4 h =
  ((zv_gI h a0 4 5).bind fun v1 =>
  (if a4 < v1 then
    ((zv_gR h a0 4 0).bind fun v2 =>
    ((zv_aR h v2 a4).bind fun v3 =>
    (if v3 = 0 then
      L4_leaningOn_8 d a0 a1 a2 (zv_w (a4 + 1)) h
    else
      ((zv_gI h v3 5 10).bind fun v4 =>
      ((zv_gI h a1 5 10).bind fun v5 =>
      (if v4 ≤ v5 then
        L4_leaningOn_8 d a0 a1 a2 (zv_w (a4 + 1)) h
      else
        ((zv_gJ h v3 5 17).bind fun v6 =>
        (if (zv_lcmp (v6 &&& a2) (Int64.ofNat 0)) = 0 then
          L4_leaningOn_8 d a0 a1 a2 (zv_w (a4 + 1)) h
        else
          ((C5_bit d v3 h).bind fun q7 =>
          L4_leaningOn_8 d a0 a1 (a2 ||| q7.1) (zv_w (a4 + 1)) q7.2)))))))))
  else
    (some (some (zv_j a2), h)))) := by
  refine (zy_lim_eq zyS4_leaningOn _ _ _ _).trans ?_
  rfl
theorem zyS4_groundOf : zy_srt 0 mc4_groundOf.2.1 = true := by decide +kernel
set_option maxRecDepth 100000 in
theorem qE4_groundOf (d : Nat) (a0 : Nat) (a1 : Nat) (h : zv_H) : E4_groundOf d a0 a1 h =
  ((C5_bit d a1 h).bind fun q1 =>
  L4_groundOf_8 d q1.1 a1 q1.2) := by
  refine (zy_lim_eq zyS4_groundOf _ _ _ _).trans ?_
  rfl
set_option maxRecDepth 100000 in
theorem qL4_groundOf_8 (d : Nat) (a2 : Int64) (a4 : Nat) (h : zv_H) : L4_groundOf_8 d a2 a4 h =
  (if a4 = 0 then
    (some (some (zv_j a2), h))
  else
    ((C5_bit d a4 h).bind fun q1 =>
    (if (zv_lcmp (a2 &&& q1.1) (Int64.ofNat 0)) = 0 then
      ((zv_gR q1.2 a4 5 4).bind fun v2 =>
      L4_groundOf_8 d a2 v2 q1.2)
    else
      ((zv_gJ q1.2 a4 5 17).bind fun v3 =>
      ((zv_gR q1.2 a4 5 4).bind fun v4 =>
      L4_groundOf_8 d (a2 ||| v3) v4 q1.2))))) := by
  refine (zy_lim_eq zyS4_groundOf _ _ _ _).trans ?_
  rfl
