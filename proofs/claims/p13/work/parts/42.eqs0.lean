theorem zyS0_init : zy_srt 0 mc0_init.2.1 = true := by decide +kernel
set_option maxRecDepth 100000 in
theorem qE0_init (d : Nat) (a0 : Nat) (h : zv_H) : E0_init d a0 h =
  (if a0 = 0 then none else
  ((zv_nO h 5).bind fun g1 =>
  ((C5_init d (zv_n h + 1) (0 : Int) g1).bind fun g2 =>
  ((zv_pR g2 a0 0 0 (zv_n h + 1)).bind fun g3 =>
  ((zv_nA g3 6 (48 : Int)).bind fun g4 =>
  ((zv_pR g4 a0 0 1 (zv_n g3 + 1)).bind fun g5 =>
  ((zv_nA g5 2 (604 : Int)).bind fun g6 =>
  ((zv_pR g6 a0 0 2 (zv_n g5 + 1)).bind fun g7 =>
  ((zv_nA g7 2 (48 : Int)).bind fun g8 =>
  ((zv_pR g8 a0 0 3 (zv_n g7 + 1)).bind fun g9 =>
  ((zv_nA g9 2 (121 : Int)).bind fun g10 =>
  ((zv_pR g10 a0 0 4 (zv_n g9 + 1)).bind fun g11 =>
  ((zv_nO g11 4).bind fun g12 =>
  ((C4_init d (zv_n g11 + 1) g12).bind fun g13 =>
  ((zv_pR g13 a0 0 5 (zv_n g11 + 1)).bind fun g14 =>
  ((zv_nO g14 2).bind fun g15 =>
  ((C2_init d (zv_n g14 + 1) g15).bind fun g16 =>
  ((zv_pR g16 a0 0 6 (zv_n g14 + 1)).bind fun g17 =>
  ((zv_nO g17 6).bind fun g18 =>
  ((C6_init d (zv_n g17 + 1) g18).bind fun g19 =>
  ((zv_pR g19 a0 0 7 (zv_n g17 + 1)).bind fun g20 =>
  ((zv_nO g20 1).bind fun g21 =>
  ((C1_init d (zv_n g20 + 1) g21).bind fun g22 =>
  ((zv_pR g22 a0 0 8 (zv_n g20 + 1)).bind fun g23 =>
  ((zv_nO g23 7).bind fun g24 =>
  ((C7_init d (zv_n g23 + 1) g24).bind fun g25 =>
  ((zv_pR g25 a0 0 9 (zv_n g23 + 1)).bind fun g26 =>
  ((zv_gR g26 a0 0 0).bind fun v27 =>
  ((zv_pR g26 a0 0 10 v27).bind fun g28 =>
  ((zv_gR g28 a0 0 1).bind fun v29 =>
  ((zv_gR g28 a0 0 0).bind fun v30 =>
  ((zv_wR g28 v29 (0 : Int) v30).bind fun g31 =>
  L0_init_125 d a0 (1 : Int) g31)))))))))))))))))))))))))))))))) := by
  refine (zy_lim_eq zyS0_init _ _ _ _).trans ?_
  rfl
set_option maxRecDepth 100000 in
theorem qL0_init_125 (d : Nat) (a0 : Nat) (a1 : Int) (h : zv_H) : L0_init_125 d a0 a1 h =
  (if a1 < (48 : Int) then
    ((zv_gR h a0 0 1).bind fun v1 =>
    ((zv_nO h 5).bind fun g2 =>
    ((C5_init d (zv_n h + 1) a1 g2).bind fun g3 =>
    ((zv_wR g3 v1 a1 (zv_n h + 1)).bind fun g4 =>
    L0_init_125 d a0 (zv_w (a1 + 1)) g4))))
  else
    ((C0_begin d a0 h).bind fun g5 =>
    (some (none, g5)))) := by
  refine (zy_lim_eq zyS0_init _ _ _ _).trans ?_
  rfl
theorem zyS0_begin : zy_srt 0 mc0_begin.2.1 = true := by decide +kernel
set_option maxRecDepth 100000 in
theorem qE0_begin (d : Nat) (a0 : Nat) (h : zv_H) : E0_begin d a0 h =
  L0_begin_2 d a0 (0 : Int) h := by
  refine (zy_lim_eq zyS0_begin _ _ _ _).trans ?_
  rfl
set_option maxRecDepth 100000 in
theorem qL0_begin_2 (d : Nat) (a0 : Nat) (a1 : Int) (h : zv_H) : L0_begin_2 d a0 a1 h =
  (if a1 < (48 : Int) then
    ((zv_gR h a0 0 1).bind fun v1 =>
    ((zv_aR h v1 a1).bind fun v2 =>
    (if v2 = 0 then
      L0_begin_2 d a0 (zv_w (a1 + 1)) h
    else
      ((zv_gR h a0 0 1).bind fun v3 =>
      ((zv_aR h v3 a1).bind fun v4 =>
      ((C5_open d v4 0 (-1 : Int) (-1 : Int) (0 : Int) h).bind fun g5 =>
      ((zv_gR g5 a0 0 1).bind fun v6 =>
      ((zv_aR g5 v6 a1).bind fun v7 =>
      (if a1 = 0 then
        ((zv_pZ g5 v7 5 3 (1 : Int)).bind fun g8 =>
        L0_begin_2 d a0 (zv_w (a1 + 1)) g8)
      else
        ((zv_pZ g5 v7 5 3 (0 : Int)).bind fun g9 =>
        L0_begin_2 d a0 (zv_w (a1 + 1)) g9))))))))))
  else
    ((zv_gR h a0 0 0).bind fun v10 =>
    ((zv_pR h a0 0 10 v10).bind fun g11 =>
    ((zv_pI g11 a0 0 11 (0 : Int)).bind fun g12 =>
    ((zv_pI g12 a0 0 12 (1 : Int)).bind fun g13 =>
    ((zv_gR g13 a0 0 6).bind fun v14 =>
    ((zv_pI g13 v14 2 2 (0 : Int)).bind fun g15 =>
    ((zv_gR g15 a0 0 7).bind fun v16 =>
    ((zv_pI g15 v16 6 4 (0 : Int)).bind fun g17 =>
    ((zv_gR g17 a0 0 8).bind fun v18 =>
    ((C1_usual d v18 g17).bind fun g19 =>
    (some (none, g19))))))))))))) := by
  refine (zy_lim_eq zyS0_begin _ _ _ _).trans ?_
  rfl
theorem zyS0_startWith : zy_srt 0 mc0_startWith.2.1 = true := by decide +kernel
set_option maxRecDepth 100000 in
theorem qE0_startWith (d : Nat) (a0 : Nat) (a1 : Nat) (h : zv_H) : E0_startWith d a0 a1 h =
  ((zv_gR h a0 0 0).bind fun v1 =>
  ((zv_gI h a1 7 1).bind fun v2 =>
  ((zv_pI h v1 5 9 v2).bind fun g3 =>
  ((zv_gR g3 a0 0 0).bind fun v4 =>
  ((zv_pI g3 v4 5 12 (0 : Int)).bind fun g5 =>
  L0_startWith_21 d a0 a1 (0 : Int) g5))))) := by
  refine (zy_lim_eq zyS0_startWith _ _ _ _).trans ?_
  rfl
set_option maxRecDepth 100000 in
theorem qL0_startWith_21 (d : Nat) (a0 : Nat) (a1 : Nat) (a2 : Int) (h : zv_H) : L0_startWith_21 d a0 a1 a2 h =
  ((zv_gI h a1 7 1).bind fun v1 =>
  (if a2 < v1 then
    ((C4_id d (0 : Int) a2 h).bind fun q2 =>
    ((C7_at d a1 a2 q2.2).bind fun q3 =>
    ((C0_setGlyph d a0 q2.1 q3.1 q3.2).bind fun g4 =>
    ((zv_gR g4 a0 0 0).bind fun v5 =>
    ((C5_addId d v5 q2.1 g4).bind fun g6 =>
    L0_startWith_21 d a0 a1 (zv_w (a2 + 1)) g6)))))
  else
    (some (none, h)))) := by
  refine (zy_lim_eq zyS0_startWith _ _ _ _).trans ?_
  rfl
theorem zyS0_at : zy_srt 0 mc0_at.2.1 = true := by decide +kernel
set_option maxRecDepth 100000 in
theorem qE0_at (d : Nat) (a0 : Nat) (a1 : Int) (h : zv_H) : E0_at d a0 a1 h =
  (if a1 < 0 then
    (some (some (zv_r 0), h))
  else
    (if a1 < (48 : Int) then
      ((zv_gR h a0 0 1).bind fun v1 =>
      ((zv_aR h v1 a1).bind fun v2 =>
      (if v2 = 0 then
        (some (some (zv_r 0), h))
      else
        ((zv_gI h v2 5 3).bind fun v3 =>
        (if v3 = 0 then
          (some (some (zv_r 0), h))
        else
          (some (some (zv_r v2), h)))))))
    else
      (some (some (zv_r 0), h)))) := by
  refine (zy_lim_eq zyS0_at _ _ _ _).trans ?_
  rfl
theorem zyS0_glyph : zy_srt 0 mc0_glyph.2.1 = true := by decide +kernel
set_option maxRecDepth 100000 in
theorem qE0_glyph (d : Nat) (a0 : Nat) (a1 : Int) (h : zv_H) : E0_glyph d a0 a1 h =
  (if a1 < 0 then
    (some (some (zv_i (-1 : Int)), h))
  else
    (if a1 < (604 : Int) then
      ((zv_gR h a0 0 2).bind fun v1 =>
      ((zv_aI h v1 a1).bind fun v2 =>
      (some (some (zv_i v2), h))))
    else
      (some (some (zv_i (-1 : Int)), h)))) := by
  refine (zy_lim_eq zyS0_glyph _ _ _ _).trans ?_
  rfl
theorem zyS0_setGlyph : zy_srt 0 mc0_setGlyph.2.1 = true := by decide +kernel
set_option maxRecDepth 100000 in
theorem qE0_setGlyph (d : Nat) (a0 : Nat) (a1 : Int) (a2 : Int) (h : zv_H) : E0_setGlyph d a0 a1 a2 h =
  (if a1 < 0 then
    (some (none, h))
  else
    (if a1 < (604 : Int) then
      ((zv_gR h a0 0 2).bind fun v1 =>
      ((zv_wI h v1 a1 a2).bind fun g2 =>
      (some (none, g2))))
    else
      (some (none, h)))) := by
  refine (zy_lim_eq zyS0_setGlyph _ _ _ _).trans ?_
  rfl
theorem zyS0_letterAt : zy_srt 0 mc0_letterAt.2.1 = true := by decide +kernel
set_option maxRecDepth 100000 in
theorem qE0_letterAt (d : Nat) (a0 : Nat) (a1 : Nat) (a2 : Int) (h : zv_H) : E0_letterAt d a0 a1 a2 h =
  ((C5_idAt d a1 a2 h).bind fun q1 =>
  ((C0_glyph d a0 q1.1 q1.2).bind fun q2 =>
  (some (some (zv_i q2.1), q2.2)))) := by
  refine (zy_lim_eq zyS0_letterAt _ _ _ _).trans ?_
  rfl
theorem zyS0_rowOfHere : zy_srt 0 mc0_rowOfHere.2.1 = true := by decide +kernel
set_option maxRecDepth 100000 in
theorem qE0_rowOfHere (d : Nat) (a0 : Nat) (h : zv_H) : E0_rowOfHere d a0 h =
  ((zv_gR h a0 0 5).bind fun v1 =>
  ((zv_gR h a0 0 10).bind fun v2 =>
  ((C4_lay d v1 v2 h).bind fun g3 =>
  ((zv_gR g3 a0 0 5).bind fun v4 =>
  (some (some (zv_r v4), g3)))))) := by
  refine (zy_lim_eq zyS0_rowOfHere _ _ _ _).trans ?_
  rfl
theorem zyS0_leaves : zy_srt 0 mc0_leaves.2.1 = true := by decide +kernel
set_option maxRecDepth 100000 in
theorem qE0_leaves (d : Nat) (a0 : Nat) (h : zv_H) : E0_leaves d a0 h =
  L0_leaves_4 d a0 (0 : Int) (0 : Int) h := by
  refine (zy_lim_eq zyS0_leaves _ _ _ _).trans ?_
  rfl
set_option maxRecDepth 100000 in
theorem qL0_leaves_4 (d : Nat) (a0 : Nat) (a1 : Int) (a2 : Int) (h : zv_H) : L0_leaves_4 d a0 a1 a2 h =
  (if a2 < (48 : Int) then
    ((C0_at d a0 a2 h).bind fun q1 =>
    (if q1.1 = 0 then
      L0_leaves_4 d a0 (zv_w (a1 + (0 : Int))) (zv_w (a2 + 1)) q1.2
    else
      ((zv_gI q1.2 q1.1 5 11).bind fun v2 =>
      (if v2 = 0 then
        L0_leaves_4 d a0 (zv_w (a1 + (1 : Int))) (zv_w (a2 + 1)) q1.2
      else
        L0_leaves_4 d a0 (zv_w (a1 + (0 : Int))) (zv_w (a2 + 1)) q1.2))))
  else
    (some (some (zv_i a1), h))) := by
  refine (zy_lim_eq zyS0_leaves _ _ _ _).trans ?_
  rfl
theorem zyS0_groups : zy_srt 0 mc0_groups.2.1 = true := by decide +kernel
set_option maxRecDepth 100000 in
theorem qE0_groups (d : Nat) (a0 : Nat) (h : zv_H) : E0_groups d a0 h =
  ((zv_gR h a0 0 10).bind fun v1 =>
  L0_groups_7 d a0 (0 : Int) v1 h) := by
  refine (zy_lim_eq zyS0_groups _ _ _ _).trans ?_
  rfl
set_option maxRecDepth 100000 in
theorem qL0_groups_7 (d : Nat) (a0 : Nat) (a1 : Int) (a2 : Nat) (h : zv_H) : L0_groups_7 d a0 a1 a2 h =
  (if a2 = 0 then
    (some (some (zv_i a1), h))
  else
    ((zv_gR h a0 0 0).bind fun v1 =>
    (if 1000000 ≤ a2 ∨ 1000000 ≤ v1 then none else
    if a2 = v1 then
      ((zv_gR h a2 5 4).bind fun v2 =>
      L0_groups_7 d a0 (zv_w (a1 + (0 : Int))) v2 h)
    else
      ((zv_gR h a2 5 5).bind fun v3 =>
      (if 1000000 ≤ v3 ∨ 1000000 ≤ a2 then none else
      if v3 = a2 then
        ((zv_gR h a2 5 4).bind fun v4 =>
        L0_groups_7 d a0 (zv_w (a1 + (1 : Int))) v4 h)
      else
        ((zv_gR h a2 5 4).bind fun v5 =>
        L0_groups_7 d a0 (zv_w (a1 + (0 : Int))) v5 h)))))) := by
  refine (zy_lim_eq zyS0_groups _ _ _ _).trans ?_
  rfl
theorem zyS0_childOf : zy_srt 0 mc0_childOf.2.1 = true := by decide +kernel
set_option maxRecDepth 100000 in
theorem qE0_childOf (d : Nat) (a0 : Nat) (a1 : Nat) (a2 : Int) (h : zv_H) : E0_childOf d a0 a1 a2 h =
  (if a2 < 0 then
    (some (some (zv_r 0), h))
  else
    ((zv_gI h a1 5 11).bind fun v1 =>
    (if a2 < v1 then
      ((C0_findNewest d a0 h).bind fun g2 =>
      ((zv_gR g2 a0 0 7).bind fun v3 =>
      ((zv_gI g2 v3 6 4).bind fun v4 =>
      L0_childOf_34 d a0 a1 a2 0 (zv_w (v4 + (1 : Int))) (0 : Int) g2)))
    else
      (some (some (zv_r 0), h))))) := by
  refine (zy_lim_eq zyS0_childOf _ _ _ _).trans ?_
  rfl
set_option maxRecDepth 100000 in
theorem qL0_childOf_34 (d : Nat) (a0 : Nat) (a1 : Nat) (a2 : Int) (a3 : Nat) (a4 : Int) (a5 : Int) (h : zv_H) : L0_childOf_34 d a0 a1 a2 a3 a4 a5 h =
  (if a5 ≤ a2 then
    ((C0_newestChild d a0 a1 a4 h).bind fun q1 =>
    (if q1.1 = 0 then
      (some (some (zv_r 0), q1.2))
    else
      ((zv_gI q1.2 q1.1 5 14).bind fun v2 =>
      L0_childOf_34 d a0 a1 a2 q1.1 v2 (zv_w (a5 + 1)) q1.2)))
  else
    (some (some (zv_r a3), h))) := by
  refine (zy_lim_eq zyS0_childOf _ _ _ _).trans ?_
  rfl
theorem zyS0_findNewest : zy_srt 0 mc0_findNewest.2.1 = true := by decide +kernel
set_option maxRecDepth 100000 in
theorem qE0_findNewest (d : Nat) (a0 : Nat) (h : zv_H) : E0_findNewest d a0 h =
  L0_findNewest_2 d a0 (0 : Int) h := by
  refine (zy_lim_eq zyS0_findNewest _ _ _ _).trans ?_
  rfl
set_option maxRecDepth 100000 in
theorem qL0_findNewest_2 (d : Nat) (a0 : Nat) (a1 : Int) (h : zv_H) : L0_findNewest_2 d a0 a1 h =
  (if a1 < (48 : Int) then
    ((zv_gR h a0 0 1).bind fun v1 =>
    ((zv_aR h v1 a1).bind fun v2 =>
    (if v2 = 0 then
      L0_findNewest_2 d a0 (zv_w (a1 + 1)) h
    else
      ((zv_gR h a0 0 1).bind fun v3 =>
      ((zv_aR h v3 a1).bind fun v4 =>
      ((zv_pI h v4 5 14 (0 : Int)).bind fun g5 =>
      L0_findNewest_2 d a0 (zv_w (a1 + 1)) g5))))))
  else
    L0_findNewest_35 d a0 (0 : Int) h) := by
  refine (zy_lim_eq zyS0_findNewest _ _ _ _).trans ?_
  rfl
set_option maxRecDepth 100000 in
theorem qL0_findNewest_35 (d : Nat) (a0 : Nat) (a1 : Int) (h : zv_H) : L0_findNewest_35 d a0 a1 h =
  (if a1 < (48 : Int) then
    ((C0_at d a0 a1 h).bind fun q1 =>
    L0_findNewest_49 d a0 a1 q1.1 q1.1 q1.2)
  else
    (some (none, h))) := by
  refine (zy_lim_eq zyS0_findNewest _ _ _ _).trans ?_
  rfl
set_option maxRecDepth 100000 in
theorem qL0_findNewest_49 (d : Nat) (a0 : Nat) (a1 : Int) (a2 : Nat) (a3 : Nat) (h : zv_H) : L0_findNewest_49 d a0 a1 a2 a3 h =
  (if a3 = 0 then
    L0_findNewest_35 d a0 (zv_w (a1 + 1)) h
  else
    ((zv_gI h a3 5 14).bind fun v1 =>
    ((zv_gI h a2 5 13).bind fun v2 =>
    ((zv_pI h a3 5 14 (max v1 v2)).bind fun g3 =>
    ((zv_gR g3 a3 5 4).bind fun v4 =>
    L0_findNewest_49 d a0 a1 a2 v4 g3))))) := by
  refine (zy_lim_eq zyS0_findNewest _ _ _ _).trans ?_
  rfl
theorem zyS0_newestChild : zy_srt 0 mc0_newestChild.2.1 = true := by decide +kernel
set_option maxRecDepth 100000 in
theorem qE0_newestChild (d : Nat) (a0 : Nat) (a1 : Nat) (a2 : Int) (h : zv_H) : E0_newestChild d a0 a1 a2 h =
  L0_newestChild_5 d a0 a1 a2 0 (0 : Int) h := by
  refine (zy_lim_eq zyS0_newestChild _ _ _ _).trans ?_
  rfl
set_option maxRecDepth 100000 in
theorem qL0_newestChild_5 (d : Nat) (a0 : Nat) (a1 : Nat) (a2 : Int) (a3 : Nat) (a4 : Int) (h : zv_H) : L0_newestChild_5 d a0 a1 a2 a3 a4 h =
  (if a4 < (48 : Int) then
    ((C0_at d a0 a4 h).bind fun q1 =>
    (if q1.1 = 0 then
      L0_newestChild_5 d a0 a1 a2 a3 (zv_w (a4 + 1)) q1.2
    else
      ((zv_gR q1.2 q1.1 5 4).bind fun v2 =>
      (if 1000000 ≤ v2 ∨ 1000000 ≤ a1 then none else
      if v2 = a1 then
        ((zv_gI q1.2 q1.1 5 14).bind fun v3 =>
        (if v3 < a2 then
          (if a3 = 0 then
            L0_newestChild_5 d a0 a1 a2 q1.1 (zv_w (a4 + 1)) q1.2
          else
            ((zv_gI q1.2 q1.1 5 14).bind fun v4 =>
            ((zv_gI q1.2 a3 5 14).bind fun v5 =>
            (if v4 ≤ v5 then
              L0_newestChild_5 d a0 a1 a2 a3 (zv_w (a4 + 1)) q1.2
            else
              L0_newestChild_5 d a0 a1 a2 q1.1 (zv_w (a4 + 1)) q1.2))))
        else
          L0_newestChild_5 d a0 a1 a2 a3 (zv_w (a4 + 1)) q1.2))
      else
        L0_newestChild_5 d a0 a1 a2 a3 (zv_w (a4 + 1)) q1.2))))
  else
    (some (some (zv_r a3), h))) := by
  refine (zy_lim_eq zyS0_newestChild _ _ _ _).trans ?_
  rfl
theorem zyS0_onLine : zy_srt 0 mc0_onLine.2.1 = true := by decide +kernel
set_option maxRecDepth 100000 in
theorem qE0_onLine (d : Nat) (a0 : Nat) (a1 : Nat) (h : zv_H) : E0_onLine d a0 a1 h =
  L0_onLine_2 d a0 a1 h := by
  refine (zy_lim_eq zyS0_onLine _ _ _ _).trans ?_
  rfl
set_option maxRecDepth 100000 in
theorem qL0_onLine_2 (d : Nat) (a0 : Nat) (a2 : Nat) (h : zv_H) : L0_onLine_2 d a0 a2 h =
  (if a2 = 0 then
    L0_onLine_25 d a0 a2 h
  else
    ((zv_gI h a2 5 10).bind fun v1 =>
    ((zv_gI h a0 5 10).bind fun v2 =>
    (if v1 ≤ v2 then
      L0_onLine_25 d a0 a2 h
    else
      ((zv_gR h a2 5 4).bind fun v3 =>
      L0_onLine_2 d a0 v3 h))))) := by
  refine (zy_lim_eq zyS0_onLine _ _ _ _).trans ?_
  rfl
set_option maxRecDepth 100000 in
theorem qL0_onLine_25 (d : Nat) (a0 : Nat) (a2 : Nat) (h : zv_H) : L0_onLine_25 d a0 a2 h =
  (if 1000000 ≤ a2 ∨ 1000000 ≤ a0 then none else
  if a2 = a0 then
    (some (some (zv_i (1 : Int)), h))
  else
    (some (some (zv_i (0 : Int)), h))) := by
  refine (zy_lim_eq zyS0_onLine _ _ _ _).trans ?_
  rfl
theorem zyS0_above : zy_srt 0 mc0_above.2.1 = true := by decide +kernel
set_option maxRecDepth 100000 in
theorem qE0_above (d : Nat) (a0 : Nat) (a1 : Int) (h : zv_H) : E0_above d a0 a1 h =
  L0_above_2 d a1 a0 h := by
  refine (zy_lim_eq zyS0_above _ _ _ _).trans ?_
  rfl
set_option maxRecDepth 100000 in
theorem qL0_above_2 (d : Nat) (a1 : Int) (a2 : Nat) (h : zv_H) : L0_above_2 d a1 a2 h =
  (if a2 = 0 then
    (some (some (zv_r a2), h))
  else
    ((zv_gI h a2 5 10).bind fun v1 =>
    (if v1 ≤ a1 then
      (some (some (zv_r a2), h))
    else
      ((zv_gR h a2 5 4).bind fun v2 =>
      L0_above_2 d a1 v2 h)))) := by
  refine (zy_lim_eq zyS0_above _ _ _ _).trans ?_
  rfl
theorem zyS0_lettersOfHereBy : zy_srt 0 mc0_lettersOfHereBy.2.1 = true := by decide +kernel
set_option maxRecDepth 100000 in
theorem qE0_lettersOfHereBy (d : Nat) (a0 : Nat) (a1 : Int64) (h : zv_H) : E0_lettersOfHereBy d a0 a1 h =
  L0_lettersOfHereBy_5 d a0 a1 (0 : Int) (0 : Int) h := by
  refine (zy_lim_eq zyS0_lettersOfHereBy _ _ _ _).trans ?_
  rfl
set_option maxRecDepth 100000 in
theorem qL0_lettersOfHereBy_5 (d : Nat) (a0 : Nat) (a1 : Int64) (a3 : Int) (a4 : Int) (h : zv_H) : L0_lettersOfHereBy_5 d a0 a1 a3 a4 h =
  ((zv_gR h a0 0 10).bind fun v1 =>
  ((zv_gI h v1 5 12).bind fun v2 =>
  (if a4 < v2 then
    ((zv_gR h a0 0 10).bind fun v3 =>
    ((C5_idAt d v3 a4 h).bind fun q4 =>
    ((C4_putter d q4.1 q4.2).bind fun q5 =>
    (if (zv_lcmp ((zv_lushr a1 q5.1) &&& (Int64.ofNat 1)) (Int64.ofNat 0)) = 0 then
      L0_lettersOfHereBy_5 d a0 a1 (zv_w (a3 + (0 : Int))) (zv_w (a4 + 1)) q5.2
    else
      L0_lettersOfHereBy_5 d a0 a1 (zv_w (a3 + (1 : Int))) (zv_w (a4 + 1)) q5.2))))
  else
    (some (some (zv_i a3), h))))) := by
  refine (zy_lim_eq zyS0_lettersOfHereBy _ _ _ _).trans ?_
  rfl
theorem zyS0_moveTo : zy_srt 0 mc0_moveTo.2.1 = true := by decide +kernel
set_option maxRecDepth 100000 in
theorem qE0_moveTo (d : Nat) (a0 : Nat) (a1 : Nat) (h : zv_H) : E0_moveTo d a0 a1 h =
  ((zv_pR h a0 0 10 a1).bind fun g1 =>
  ((zv_gR g1 a0 0 7).bind fun v2 =>
  ((zv_gI g1 a0 0 11).bind fun v3 =>
  ((C6_add d v2 a1 v3 g1).bind fun g4 =>
  (some (none, g4)))))) := by
  refine (zy_lim_eq zyS0_moveTo _ _ _ _).trans ?_
  rfl
theorem zyS0_grow : zy_srt 0 mc0_grow.2.1 = true := by decide +kernel
set_option maxRecDepth 100000 in
theorem qE0_grow (d : Nat) (a0 : Nat) (a1 : Int) (a2 : Int) (a3 : Int) (h : zv_H) : E0_grow d a0 a1 a2 a3 h =
  L0_grow_3 d a0 a1 a2 a3 (0 : Int) h := by
  refine (zy_lim_eq zyS0_grow _ _ _ _).trans ?_
  rfl
set_option maxRecDepth 100000 in
theorem qL0_grow_3 (d : Nat) (a0 : Nat) (a1 : Int) (a2 : Int) (a3 : Int) (a4 : Int) (h : zv_H) : L0_grow_3 d a0 a1 a2 a3 a4 h =
  (if a4 < (48 : Int) then
    ((C0_at d a0 a4 h).bind fun q1 =>
    (if q1.1 = 0 then
      L0_grow_25 d a0 a1 a2 a3 a4 q1.2
    else
      L0_grow_3 d a0 a1 a2 a3 (zv_w (a4 + 1)) q1.2))
  else
    L0_grow_25 d a0 a1 a2 a3 a4 h) := by
  refine (zy_lim_eq zyS0_grow _ _ _ _).trans ?_
  rfl
set_option maxRecDepth 100000 in
theorem qL0_grow_25 (d : Nat) (a0 : Nat) (a1 : Int) (a2 : Int) (a3 : Int) (a4 : Int) (h : zv_H) : L0_grow_25 d a0 a1 a2 a3 a4 h =
  (if a4 < (48 : Int) then
    ((zv_gR h a0 0 1).bind fun v1 =>
    ((zv_aR h v1 a4).bind fun v2 =>
    (if v2 = 0 then
      (some (some (zv_r 0), h))
    else
      ((zv_gR h a0 0 1).bind fun v3 =>
      ((zv_aR h v3 a4).bind fun v4 =>
      ((zv_gR h a0 0 10).bind fun v5 =>
      ((C5_open d v4 v5 a1 a2 a3 h).bind fun g6 =>
      ((zv_gI g6 a0 0 11).bind fun v7 =>
      ((zv_pI g6 v4 5 7 v7).bind fun g8 =>
      ((zv_gR g8 a0 0 10).bind fun v9 =>
      ((zv_gI g8 v9 5 11).bind fun v10 =>
      ((zv_pI g8 v9 5 11 (zv_w (v10 + (1 : Int)))).bind fun g11 =>
      ((zv_gI g11 a0 0 12).bind fun v12 =>
      ((zv_pI g11 a0 0 12 (zv_w (v12 + (1 : Int)))).bind fun g13 =>
      ((zv_pR g13 a0 0 10 v4).bind fun g14 =>
      ((zv_gR g14 a0 0 7).bind fun v15 =>
      ((zv_gI g14 a0 0 11).bind fun v16 =>
      ((C6_add d v15 v4 v16 g14).bind fun g17 =>
      (some (some (zv_r v4), g17))))))))))))))))))))
  else
    (some (some (zv_r 0), h))) := by
  refine (zy_lim_eq zyS0_grow _ _ _ _).trans ?_
  rfl
theorem zyS0_putWord : zy_srt 0 mc0_putWord.2.1 = true := by decide +kernel
set_option maxRecDepth 100000 in
theorem qE0_putWord (d : Nat) (a0 : Nat) (a1 : Int) (a2 : Nat) (h : zv_H) : E0_putWord d a0 a1 a2 h =
  (if a1 < 0 then
    (some (some (zv_i (-1 : Int)), h))
  else
    ((zv_gR h a0 0 10).bind fun v1 =>
    ((zv_gI h v1 5 12).bind fun v2 =>
    (if a1 ≤ v2 then
      ((zv_gI h a2 7 1).bind fun v3 =>
      (if v3 = 0 then
        (some (some (zv_i (-1 : Int)), h))
      else
        ((zv_gI h a0 0 12).bind fun v4 =>
        (if v4 < (48 : Int) then
          ((zv_gR h a0 0 10).bind fun v5 =>
          ((zv_gI h v5 5 12).bind fun v6 =>
          ((zv_gI h a2 7 1).bind fun v7 =>
          (if (zv_w (v6 + v7)) ≤ (120 : Int) then
            ((zv_gR h a0 0 10).bind fun v8 =>
            ((zv_gI h a2 7 1).bind fun v9 =>
            ((C0_grow d a0 (0 : Int) a1 v9 h).bind fun q10 =>
            (if q10.1 = 0 then
              (some (some (zv_i (-3 : Int)), q10.2))
            else
              ((C5_idAt d v8 (zv_w (a1 - (1 : Int))) q10.2).bind fun q11 =>
              ((zv_pI q11.2 q10.1 5 15 q11.1).bind fun g12 =>
              ((zv_gI g12 q10.1 5 15).bind fun v13 =>
              ((C0_baseOf d v13 g12).bind fun q14 =>
              ((zv_pJ q14.2 q10.1 5 17 q14.1).bind fun g15 =>
              L0_putWord_109 d a0 a1 a2 v8 q10.1 (0 : Int) g15)))))))))
          else
            (some (some (zv_i (-6 : Int)), h))))))
        else
          (some (some (zv_i (-3 : Int)), h))))))
    else
      (some (some (zv_i (-1 : Int)), h)))))) := by
  refine (zy_lim_eq zyS0_putWord _ _ _ _).trans ?_
  rfl
set_option maxRecDepth 100000 in
theorem qL0_putWord_109 (d : Nat) (a0 : Nat) (a1 : Int) (a2 : Nat) (a3 : Nat) (a4 : Nat) (a5 : Int) (h : zv_H) : L0_putWord_109 d a0 a1 a2 a3 a4 a5 h =
  (if a5 < a1 then
    ((C5_idAt d a3 a5 h).bind fun q1 =>
    ((C5_addId d a4 q1.1 q1.2).bind fun g2 =>
    L0_putWord_109 d a0 a1 a2 a3 a4 (zv_w (a5 + 1)) g2))
  else
    L0_putWord_135 d a0 a1 a2 a3 a4 (0 : Int) h) := by
  refine (zy_lim_eq zyS0_putWord _ _ _ _).trans ?_
  rfl
set_option maxRecDepth 100000 in
theorem qL0_putWord_135 (d : Nat) (a0 : Nat) (a1 : Int) (a2 : Nat) (a3 : Nat) (a4 : Nat) (a5 : Int) (h : zv_H) : L0_putWord_135 d a0 a1 a2 a3 a4 a5 h =
  ((zv_gI h a2 7 1).bind fun v1 =>
  (if a5 < v1 then
    ((zv_gI h a4 5 0).bind fun v2 =>
    ((C4_id d v2 a5 h).bind fun q3 =>
    ((C7_at d a2 a5 q3.2).bind fun q4 =>
    ((C0_setGlyph d a0 q3.1 q4.1 q4.2).bind fun g5 =>
    ((C5_addId d a4 q3.1 g5).bind fun g6 =>
    L0_putWord_135 d a0 a1 a2 a3 a4 (zv_w (a5 + 1)) g6)))))
  else
    L0_putWord_184 d a0 a3 a4 a1 h)) := by
  refine (zy_lim_eq zyS0_putWord _ _ _ _).trans ?_
  rfl
set_option maxRecDepth 100000 in
theorem qL0_putWord_184 (d : Nat) (a0 : Nat) (a3 : Nat) (a4 : Nat) (a5 : Int) (h : zv_H) : L0_putWord_184 d a0 a3 a4 a5 h =
  ((zv_gI h a3 5 12).bind fun v1 =>
  (if a5 < v1 then
    ((C5_idAt d a3 a5 h).bind fun q2 =>
    ((C5_addId d a4 q2.1 q2.2).bind fun g3 =>
    L0_putWord_184 d a0 a3 a4 (zv_w (a5 + 1)) g3))
  else
    ((C0_joinGroup d a0 a4 a3 h).bind fun g4 =>
    ((zv_gI g4 a4 5 0).bind fun v5 =>
    (some (some (zv_i v5), g4)))))) := by
  refine (zy_lim_eq zyS0_putWord _ _ _ _).trans ?_
  rfl
theorem zyS0_cutOut : zy_srt 0 mc0_cutOut.2.1 = true := by decide +kernel
set_option maxRecDepth 100000 in
theorem qE0_cutOut (d : Nat) (a0 : Nat) (a1 : Int) (a2 : Int) (h : zv_H) : E0_cutOut d a0 a1 a2 h =
  (if a1 < 0 then
    (some (some (zv_i (-1 : Int)), h))
  else
    ((C8_within d a2 (1 : Int) (12 : Int) h).bind fun q1 =>
    (if q1.1 = 0 then
      (some (some (zv_i (-1 : Int)), q1.2))
    else
      ((zv_gR q1.2 a0 0 10).bind fun v2 =>
      ((zv_gI q1.2 v2 5 12).bind fun v3 =>
      (if a1 ≤ (zv_w (v3 - a2)) then
        ((zv_gI q1.2 a0 0 12).bind fun v4 =>
        (if v4 < (48 : Int) then
          ((zv_gR q1.2 a0 0 10).bind fun v5 =>
          ((C0_grow d a0 (1 : Int) a1 a2 q1.2).bind fun q6 =>
          (if q6.1 = 0 then
            (some (some (zv_i (-3 : Int)), q6.2))
          else
            L0_cutOut_69 d a0 a1 a2 v5 q6.1 (0 : Int) q6.2)))
        else
          (some (some (zv_i (-3 : Int)), q1.2))))
      else
        (some (some (zv_i (-5 : Int)), q1.2)))))))) := by
  refine (zy_lim_eq zyS0_cutOut _ _ _ _).trans ?_
  rfl
set_option maxRecDepth 100000 in
theorem qL0_cutOut_69 (d : Nat) (a0 : Nat) (a1 : Int) (a2 : Int) (a3 : Nat) (a4 : Nat) (a5 : Int) (h : zv_H) : L0_cutOut_69 d a0 a1 a2 a3 a4 a5 h =
  ((zv_gI h a3 5 12).bind fun v1 =>
  (if a5 < v1 then
    ((C5_idAt d a3 a5 h).bind fun q2 =>
    (if (zv_w (a5 - a1)) < 0 then
      L0_cutOut_138 d a0 a1 a2 a3 a4 a5 q2.1 q2.2
    else
      (if (zv_w (a5 - a1)) < a2 then
        (if (zv_w (a5 - a1)) < (12 : Int) then
          ((zv_gR q2.2 a4 5 1).bind fun v3 =>
          ((zv_wI q2.2 v3 (zv_w (a5 - a1)) q2.1).bind fun g4 =>
          ((zv_gJ g4 a4 5 17).bind fun v5 =>
          ((C0_baseOf d q2.1 g4).bind fun q6 =>
          ((zv_pJ q6.2 a4 5 17 (v5 ||| q6.1)).bind fun g7 =>
          L0_cutOut_69 d a0 a1 a2 a3 a4 (zv_w (a5 + 1)) g7)))))
        else
          L0_cutOut_138 d a0 a1 a2 a3 a4 a5 q2.1 q2.2)
      else
        L0_cutOut_138 d a0 a1 a2 a3 a4 a5 q2.1 q2.2)))
  else
    ((C0_joinGroup d a0 a4 a3 h).bind fun g8 =>
    ((zv_gI g8 a4 5 0).bind fun v9 =>
    (some (some (zv_i v9), g8)))))) := by
  refine (zy_lim_eq zyS0_cutOut _ _ _ _).trans ?_
  rfl
set_option maxRecDepth 100000 in
theorem qL0_cutOut_138 (d : Nat) (a0 : Nat) (a1 : Int) (a2 : Int) (a3 : Nat) (a4 : Nat) (a5 : Int) (a6 : Int) (h : zv_H) : L0_cutOut_138 d a0 a1 a2 a3 a4 a5 a6 h =
  ((C5_addId d a4 a6 h).bind fun g1 =>
  L0_cutOut_69 d a0 a1 a2 a3 a4 (zv_w (a5 + 1)) g1) := by
  refine (zy_lim_eq zyS0_cutOut _ _ _ _).trans ?_
  rfl
theorem zyS0_baseOf : zy_srt 0 mc0_baseOf.2.1 = true := by decide +kernel
set_option maxRecDepth 100000 in
theorem qE0_baseOf (d : Nat) (a0 : Int) (h : zv_H) : E0_baseOf d a0 h =
  (if a0 = (-1 : Int) then
    (some (some (zv_j (Int64.ofNat 0)), h))
  else
    ((C4_putter d a0 h).bind fun q1 =>
    (if q1.1 = 0 then
      (some (some (zv_j (Int64.ofNat 0)), q1.2))
    else
      ((C4_putter d a0 q1.2).bind fun q2 =>
      (some (some (zv_j (zv_lshl (Int64.ofNat 1) q2.1)), q2.2)))))) := by
  refine (zy_lim_eq zyS0_baseOf _ _ _ _).trans ?_
  rfl
theorem zyS0_joinGroup : zy_srt 0 mc0_joinGroup.2.1 = true := by decide +kernel
set_option maxRecDepth 100000 in
theorem qE0_joinGroup (d : Nat) (a0 : Nat) (a1 : Nat) (a2 : Nat) (h : zv_H) : E0_joinGroup d a0 a1 a2 h =
  ((C5_edits d a2 h).bind fun q1 =>
  (if q1.1 = 0 then
    (some (none, q1.2))
  else
    ((zv_gR q1.2 a2 5 5).bind fun v2 =>
    (if v2 = 0 then
      (some (none, q1.2))
    else
      ((zv_gR q1.2 a0 0 8).bind fun v3 =>
      ((zv_gI q1.2 a1 5 7).bind fun v4 =>
      ((zv_gI q1.2 a2 5 7).bind fun v5 =>
      ((C1_set d v3 (0 : Int) (zv_w (v4 - v5)) q1.2).bind fun g6 =>
      ((zv_gR g6 a0 0 8).bind fun v7 =>
      ((zv_gI g6 a2 5 10).bind fun v8 =>
      ((zv_gR g6 a2 5 5).bind fun v9 =>
      ((zv_gI g6 v9 5 10).bind fun v10 =>
      ((C1_set d v7 (1 : Int) (zv_w ((zv_w (v8 - v10)) + (1 : Int))) g6).bind fun g11 =>
      ((zv_gR g11 a0 0 8).bind fun v12 =>
      ((zv_gI g11 a1 5 6).bind fun v13 =>
      ((C1_set d v12 (2 : Int) v13 g11).bind fun g14 =>
      ((zv_gR g14 a0 0 8).bind fun v15 =>
      ((zv_gI g14 a1 5 6).bind fun v16 =>
      ((zv_gI g14 a2 5 6).bind fun v17 =>
      (if v16 = v17 then
        L0_joinGroup_87 d a0 a1 a2 v15 (3 : Int) (1 : Int) g14
      else
        L0_joinGroup_87 d a0 a1 a2 v15 (3 : Int) (0 : Int) g14)))))))))))))))))))) := by
  refine (zy_lim_eq zyS0_joinGroup _ _ _ _).trans ?_
  rfl
set_option maxRecDepth 100000 in
theorem qL0_joinGroup_87 (d : Nat) (a0 : Nat) (a1 : Nat) (a2 : Nat) (e0 : Nat) (e1 : Int) (e2 : Int) (h : zv_H) : L0_joinGroup_87 d a0 a1 a2 e0 e1 e2 h =
  ((C1_set d e0 e1 e2 h).bind fun g1 =>
  ((zv_gR g1 a0 0 8).bind fun v2 =>
  ((C0_isNear d a1 a2 g1).bind fun q3 =>
  (if q3.1 = 0 then
    L0_joinGroup_108 d a0 a1 a2 v2 (4 : Int) (0 : Int) q3.2
  else
    L0_joinGroup_108 d a0 a1 a2 v2 (4 : Int) (1 : Int) q3.2)))) := by
  refine (zy_lim_eq zyS0_joinGroup _ _ _ _).trans ?_
  rfl
set_option maxRecDepth 100000 in
theorem qL0_joinGroup_108 (d : Nat) (a0 : Nat) (a1 : Nat) (a2 : Nat) (e0 : Nat) (e1 : Int) (e2 : Int) (h : zv_H) : L0_joinGroup_108 d a0 a1 a2 e0 e1 e2 h =
  ((C1_set d e0 e1 e2 h).bind fun g1 =>
  ((zv_gR g1 a0 0 8).bind fun v2 =>
  ((zv_gI g1 a1 5 9).bind fun v3 =>
  ((C1_set d v2 (5 : Int) v3 g1).bind fun g4 =>
  ((zv_gR g4 a0 0 8).bind fun v5 =>
  ((C1_holds d v5 g4).bind fun q6 =>
  (if q6.1 = 0 then
    (some (none, q6.2))
  else
    ((zv_gR q6.2 a2 5 5).bind fun v7 =>
    ((zv_pR q6.2 a1 5 5 v7).bind fun g8 =>
    (some (none, g8))))))))))) := by
  refine (zy_lim_eq zyS0_joinGroup _ _ _ _).trans ?_
  rfl
theorem zyS0_isNear : zy_srt 0 mc0_isNear.2.1 = true := by decide +kernel
set_option maxRecDepth 100000 in
theorem qE0_isNear (d : Nat) (a0 : Nat) (a1 : Nat) (h : zv_H) : E0_isNear d a0 a1 h =
  ((zv_gI h a1 5 6).bind fun v1 =>
  (if v1 = 0 then
    ((zv_gI h a1 5 8).bind fun v2 =>
    ((zv_gI h a1 5 9).bind fun v3 =>
    L0_isNear_23 d a0 a1 (zv_w (v2 + v3)) h))
  else
    ((zv_gI h a1 5 8).bind fun v4 =>
    L0_isNear_23 d a0 a1 v4 h))) := by
  refine (zy_lim_eq zyS0_isNear _ _ _ _).trans ?_
  rfl
set_option maxRecDepth 100000 in
theorem qL0_isNear_23 (d : Nat) (a0 : Nat) (a1 : Nat) (e0 : Int) (h : zv_H) : L0_isNear_23 d a0 a1 e0 h =
  ((zv_gI h a0 5 6).bind fun v1 =>
  (if v1 = 0 then
    ((zv_gI h a0 5 8).bind fun v2 =>
    (if v2 = e0 then
      (some (some (zv_i (1 : Int)), h))
    else
      (some (some (zv_i (0 : Int)), h))))
  else
    ((zv_gI h a0 5 8).bind fun v3 =>
    ((zv_gI h a0 5 9).bind fun v4 =>
    (if (zv_w (v3 + v4)) = e0 then
      (some (some (zv_i (1 : Int)), h))
    else
      ((zv_gI h a1 5 6).bind fun v5 =>
      (if v5 = (1 : Int) then
        ((zv_gI h a0 5 8).bind fun v6 =>
        (if v6 = e0 then
          (some (some (zv_i (1 : Int)), h))
        else
          (some (some (zv_i (0 : Int)), h))))
      else
        (some (some (zv_i (0 : Int)), h))))))))) := by
  refine (zy_lim_eq zyS0_isNear _ _ _ _).trans ?_
  rfl
theorem zyS0_passTime : zy_srt 0 mc0_passTime.2.1 = true := by decide +kernel
set_option maxRecDepth 100000 in
theorem qE0_passTime (d : Nat) (a0 : Nat) (a1 : Int) (h : zv_H) : E0_passTime d a0 a1 h =
  ((C8_within d a1 (0 : Int) (999 : Int) h).bind fun q1 =>
  (if q1.1 = 0 then
    (some (some (zv_i (-1 : Int)), q1.2))
  else
    ((zv_gI q1.2 a0 0 11).bind fun v2 =>
    ((zv_pI q1.2 a0 0 11 (zv_w (v2 + a1))).bind fun g3 =>
    ((zv_gI g3 a0 0 11).bind fun v4 =>
    (some (some (zv_i v4), g3))))))) := by
  refine (zy_lim_eq zyS0_passTime _ _ _ _).trans ?_
  rfl
theorem zyS0_behind : zy_srt 0 mc0_behind.2.1 = true := by decide +kernel
set_option maxRecDepth 100000 in
theorem qE0_behind (d : Nat) (a0 : Nat) (a1 : Int) (h : zv_H) : E0_behind d a0 a1 h =
  ((zv_gR h a0 0 10).bind fun v1 =>
  L0_behind_7 d a1 v1 (0 : Int) h) := by
  refine (zy_lim_eq zyS0_behind _ _ _ _).trans ?_
  rfl
set_option maxRecDepth 100000 in
theorem qL0_behind_7 (d : Nat) (a1 : Int) (a2 : Nat) (a3 : Int) (h : zv_H) : L0_behind_7 d a1 a2 a3 h =
  (if a3 < a1 then
    (if a2 = 0 then
      (some (some (zv_r a2), h))
    else
      ((zv_gR h a2 5 5).bind fun v1 =>
      (if v1 = 0 then
        L0_behind_7 d a1 0 (zv_w (a3 + 1)) h
      else
        ((zv_gR h a2 5 5).bind fun v2 =>
        ((zv_gR h v2 5 4).bind fun v3 =>
        L0_behind_7 d a1 v3 (zv_w (a3 + 1)) h)))))
  else
    (some (some (zv_r a2), h))) := by
  refine (zy_lim_eq zyS0_behind _ _ _ _).trans ?_
  rfl
theorem zyS0_stepBack : zy_srt 0 mc0_stepBack.2.1 = true := by decide +kernel
set_option maxRecDepth 100000 in
theorem qE0_stepBack (d : Nat) (a0 : Nat) (h : zv_H) : E0_stepBack d a0 h =
  ((C0_behind d a0 (1 : Int) h).bind fun q1 =>
  (if q1.1 = 0 then
    (some (some (zv_i (-5 : Int)), q1.2))
  else
    ((C0_moveTo d a0 q1.1 q1.2).bind fun g2 =>
    ((zv_gI g2 q1.1 5 0).bind fun v3 =>
    (some (some (zv_i v3), g2)))))) := by
  refine (zy_lim_eq zyS0_stepBack _ _ _ _).trans ?_
  rfl
theorem zyS0_stepOn : zy_srt 0 mc0_stepOn.2.1 = true := by decide +kernel
set_option maxRecDepth 100000 in
theorem qE0_stepOn (d : Nat) (a0 : Nat) (h : zv_H) : E0_stepOn d a0 h =
  ((zv_gR h a0 0 10).bind fun v1 =>
  ((C0_childOf d a0 v1 (0 : Int) h).bind fun q2 =>
  (if q2.1 = 0 then
    (some (some (zv_i (-5 : Int)), q2.2))
  else
    ((C0_childOf d a0 q2.1 (0 : Int) q2.2).bind fun q3 =>
    L0_stepOn_26 d a0 q2.1 q3.1 (0 : Int) q3.2)))) := by
  refine (zy_lim_eq zyS0_stepOn _ _ _ _).trans ?_
  rfl
set_option maxRecDepth 100000 in
theorem qL0_stepOn_26 (d : Nat) (a0 : Nat) (a1 : Nat) (a2 : Nat) (a3 : Int) (h : zv_H) : L0_stepOn_26 d a0 a1 a2 a3 h =
  (if a3 < (48 : Int) then
    (if a2 = 0 then
      L0_stepOn_62 d a0 a1 h
    else
      ((zv_gR h a2 5 5).bind fun v1 =>
      ((zv_gR h a1 5 5).bind fun v2 =>
      (if 1000000 ≤ v1 ∨ 1000000 ≤ v2 then none else
      if v1 = v2 then
        ((C0_childOf d a0 a2 (0 : Int) h).bind fun q3 =>
        L0_stepOn_26 d a0 a2 q3.1 (zv_w (a3 + 1)) q3.2)
      else
        L0_stepOn_62 d a0 a1 h))))
  else
    L0_stepOn_62 d a0 a1 h) := by
  refine (zy_lim_eq zyS0_stepOn _ _ _ _).trans ?_
  rfl
set_option maxRecDepth 100000 in
theorem qL0_stepOn_62 (d : Nat) (a0 : Nat) (a1 : Nat) (h : zv_H) : L0_stepOn_62 d a0 a1 h =
  ((C0_moveTo d a0 a1 h).bind fun g1 =>
  ((zv_gI g1 a1 5 0).bind fun v2 =>
  (some (some (zv_i v2), g1)))) := by
  refine (zy_lim_eq zyS0_stepOn _ _ _ _).trans ?_
  rfl
theorem zyS0_goTo : zy_srt 0 mc0_goTo.2.1 = true := by decide +kernel
set_option maxRecDepth 100000 in
theorem qE0_goTo (d : Nat) (a0 : Nat) (a1 : Int) (h : zv_H) : E0_goTo d a0 a1 h =
  ((C0_at d a0 a1 h).bind fun q1 =>
  (if q1.1 = 0 then
    (some (some (zv_i (-2 : Int)), q1.2))
  else
    ((zv_gR q1.2 a0 0 10).bind fun v2 =>
    (if 1000000 ≤ q1.1 ∨ 1000000 ≤ v2 then none else
    if q1.1 = v2 then
      (some (some (zv_i (-4 : Int)), q1.2))
    else
      ((zv_gR q1.2 a0 0 10).bind fun v3 =>
      ((C0_wayLength d v3 q1.1 q1.2).bind fun q4 =>
      ((C0_moveTo d a0 q1.1 q4.2).bind fun g5 =>
      (some (some (zv_i q4.1), g5))))))))) := by
  refine (zy_lim_eq zyS0_goTo _ _ _ _).trans ?_
  rfl
theorem zyS0_nameHere : zy_srt 0 mc0_nameHere.2.1 = true := by decide +kernel
set_option maxRecDepth 100000 in
theorem qE0_nameHere (d : Nat) (a0 : Nat) (a1 : Int) (h : zv_H) : E0_nameHere d a0 a1 h =
  (if a1 = 0 then
    (some (some (zv_i (-1 : Int)), h))
  else
    ((zv_gR h a0 0 6).bind fun v1 =>
    ((C2_indexOf d v1 a1 h).bind fun q2 =>
    (if q2.1 = (-1 : Int) then
      ((zv_gR q2.2 a0 0 6).bind fun v3 =>
      ((zv_gI q2.2 v3 2 2).bind fun v4 =>
      (if v4 < (12 : Int) then
        L0_nameHere_35 d a0 a1 q2.1 q2.2
      else
        (some (some (zv_i (-3 : Int)), q2.2)))))
    else
      L0_nameHere_35 d a0 a1 q2.1 q2.2)))) := by
  refine (zy_lim_eq zyS0_nameHere _ _ _ _).trans ?_
  rfl
set_option maxRecDepth 100000 in
theorem qL0_nameHere_35 (d : Nat) (a0 : Nat) (a1 : Int) (a2 : Int) (h : zv_H) : L0_nameHere_35 d a0 a1 a2 h =
  (if a2 = (-1 : Int) then
    L0_nameHere_61 d a0 a1 h
  else
    ((zv_gR h a0 0 6).bind fun v1 =>
    ((C2_ownerAt d v1 a2 h).bind fun q2 =>
    ((zv_gR q2.2 a0 0 10).bind fun v3 =>
    ((zv_gI q2.2 v3 5 0).bind fun v4 =>
    (if q2.1 = v4 then
      (some (some (zv_i (-4 : Int)), q2.2))
    else
      L0_nameHere_61 d a0 a1 q2.2)))))) := by
  refine (zy_lim_eq zyS0_nameHere _ _ _ _).trans ?_
  rfl
set_option maxRecDepth 100000 in
theorem qL0_nameHere_61 (d : Nat) (a0 : Nat) (a1 : Int) (h : zv_H) : L0_nameHere_61 d a0 a1 h =
  ((zv_gR h a0 0 6).bind fun v1 =>
  ((zv_gR h a0 0 10).bind fun v2 =>
  ((zv_gI h v2 5 0).bind fun v3 =>
  ((C2_own d v1 a1 v3 h).bind fun g4 =>
  ((zv_gR g4 a0 0 6).bind fun v5 =>
  ((zv_gI g4 v5 2 2).bind fun v6 =>
  (some (some (zv_i v6), g4)))))))) := by
  refine (zy_lim_eq zyS0_nameHere _ _ _ _).trans ?_
  rfl
theorem zyS0_dropName : zy_srt 0 mc0_dropName.2.1 = true := by decide +kernel
set_option maxRecDepth 100000 in
theorem qE0_dropName (d : Nat) (a0 : Nat) (a1 : Int) (h : zv_H) : E0_dropName d a0 a1 h =
  (if a1 = 0 then
    (some (some (zv_i (-1 : Int)), h))
  else
    ((zv_gR h a0 0 6).bind fun v1 =>
    ((C2_indexOf d v1 a1 h).bind fun q2 =>
    (if q2.1 = (-1 : Int) then
      (some (some (zv_i (-5 : Int)), q2.2))
    else
      ((zv_gR q2.2 a0 0 6).bind fun v3 =>
      ((C2_drop d v3 q2.1 q2.2).bind fun g4 =>
      ((zv_gR g4 a0 0 6).bind fun v5 =>
      ((zv_gI g4 v5 2 2).bind fun v6 =>
      (some (some (zv_i v6), g4)))))))))) := by
  refine (zy_lim_eq zyS0_dropName _ _ _ _).trans ?_
  rfl
theorem zyS0_takeBack : zy_srt 0 mc0_takeBack.2.1 = true := by decide +kernel
set_option maxRecDepth 100000 in
theorem qE0_takeBack (d : Nat) (a0 : Nat) (a1 : Int) (h : zv_H) : E0_takeBack d a0 a1 h =
  ((C0_at d a0 a1 h).bind fun q1 =>
  (if q1.1 = 0 then
    (some (some (zv_i (-2 : Int)), q1.2))
  else
    ((zv_gR q1.2 a0 0 5).bind fun v2 =>
    ((zv_gR q1.2 a0 0 10).bind fun v3 =>
    ((C4_lay d v2 v3 q1.2).bind fun g4 =>
    ((zv_gR g4 a0 0 5).bind fun v5 =>
    ((zv_gJ g4 v5 4 8).bind fun v6 =>
    ((C5_bit d q1.1 g4).bind fun q7 =>
    (if (zv_lcmp (v6 &&& q7.1) (Int64.ofNat 0)) = 0 then
      (some (some (zv_i (-7 : Int)), q7.2))
    else
      ((zv_gR q7.2 a0 0 5).bind fun v8 =>
      ((zv_gJ q7.2 v8 4 9).bind fun v9 =>
      ((C5_bit d q1.1 q7.2).bind fun q10 =>
      (if (zv_lcmp (v9 &&& q10.1) (Int64.ofNat 0)) = 0 then
        (some (some (zv_i (-4 : Int)), q10.2))
      else
        ((zv_gR q10.2 a0 0 5).bind fun v11 =>
        ((C4_leaningOn d v11 q1.1 q10.2).bind fun q12 =>
        ((zv_gR q12.2 a0 0 5).bind fun v13 =>
        ((zv_gJ q12.2 v13 4 9).bind fun v14 =>
        ((zv_gR q12.2 a0 0 5).bind fun v15 =>
        ((zv_gJ q12.2 v15 4 9).bind fun v16 =>
        ((C0_turn d a0 (2 : Int) (q12.1 &&& v14) (v16 &&& ((q12.1 &&& v14) ^^^ (-1 : Int64))) q12.2).bind fun q17 =>
        (some (some (zv_i q17.1), q17.2)))))))))))))))))))))) := by
  refine (zy_lim_eq zyS0_takeBack _ _ _ _).trans ?_
  rfl
theorem zyS0_giveBack : zy_srt 0 mc0_giveBack.2.1 = true := by decide +kernel
set_option maxRecDepth 100000 in
theorem qE0_giveBack (d : Nat) (a0 : Nat) (a1 : Int) (h : zv_H) : E0_giveBack d a0 a1 h =
  ((C0_at d a0 a1 h).bind fun q1 =>
  (if q1.1 = 0 then
    (some (some (zv_i (-2 : Int)), q1.2))
  else
    ((zv_gR q1.2 a0 0 5).bind fun v2 =>
    ((zv_gR q1.2 a0 0 10).bind fun v3 =>
    ((C4_lay d v2 v3 q1.2).bind fun g4 =>
    ((zv_gR g4 a0 0 5).bind fun v5 =>
    ((zv_gJ g4 v5 4 8).bind fun v6 =>
    ((C5_bit d q1.1 g4).bind fun q7 =>
    (if (zv_lcmp (v6 &&& q7.1) (Int64.ofNat 0)) = 0 then
      (some (some (zv_i (-7 : Int)), q7.2))
    else
      ((zv_gR q7.2 a0 0 5).bind fun v8 =>
      ((zv_gJ q7.2 v8 4 9).bind fun v9 =>
      ((C5_bit d q1.1 q7.2).bind fun q10 =>
      (if (zv_lcmp (v9 &&& q10.1) (Int64.ofNat 0)) = 0 then
        ((zv_gR q10.2 a0 0 5).bind fun v11 =>
        ((C4_groundOf d v11 q1.1 q10.2).bind fun q12 =>
        ((zv_gR q12.2 a0 0 5).bind fun v13 =>
        ((zv_gJ q12.2 v13 4 9).bind fun v14 =>
        ((zv_gR q12.2 a0 0 5).bind fun v15 =>
        ((zv_gJ q12.2 v15 4 9).bind fun v16 =>
        ((C0_turn d a0 (3 : Int) (q12.1 &&& (v14 ^^^ (-1 : Int64))) (v16 ||| (q12.1 &&& (v14 ^^^ (-1 : Int64)))) q12.2).bind fun q17 =>
        (some (some (zv_i q17.1), q17.2)))))))))
      else
        (some (some (zv_i (-4 : Int)), q10.2))))))))))))))) := by
  refine (zy_lim_eq zyS0_giveBack _ _ _ _).trans ?_
  rfl
theorem zyS0_turn : zy_srt 0 mc0_turn.2.1 = true := by decide +kernel
set_option maxRecDepth 100000 in
theorem qE0_turn (d : Nat) (a0 : Nat) (a1 : Int) (a2 : Int64) (a4 : Int64) (h : zv_H) : E0_turn d a0 a1 a2 a4 h =
  ((zv_gI h a0 0 12).bind fun v1 =>
  (if v1 < (48 : Int) then
    ((zv_gR h a0 0 5).bind fun v2 =>
    ((C4_look d v2 a4 h).bind fun g3 =>
    ((zv_gR g3 a0 0 5).bind fun v4 =>
    ((zv_gI g3 v4 4 7).bind fun v5 =>
    (if v5 ≤ (120 : Int) then
      ((C12_bitCount d a2 g3).bind fun q6 =>
      ((C0_grow d a0 a1 (-1 : Int) q6.1 q6.2).bind fun q7 =>
      (if q7.1 = 0 then
        (some (some (zv_i (-3 : Int)), q7.2))
      else
        ((zv_pJ q7.2 q7.1 5 16 a2).bind fun g8 =>
        L0_turn_65 d a0 q7.1 (0 : Int) g8))))
    else
      (some (some (zv_i (-6 : Int)), g3)))))))
  else
    (some (some (zv_i (-3 : Int)), h)))) := by
  refine (zy_lim_eq zyS0_turn _ _ _ _).trans ?_
  rfl
set_option maxRecDepth 100000 in
theorem qL0_turn_65 (d : Nat) (a0 : Nat) (a6 : Nat) (a7 : Int) (h : zv_H) : L0_turn_65 d a0 a6 a7 h =
  ((zv_gR h a0 0 5).bind fun v1 =>
  ((zv_gI h v1 4 6).bind fun v2 =>
  (if a7 < v2 then
    ((zv_gR h a0 0 5).bind fun v3 =>
    ((C4_seesAt d v3 a7 h).bind fun q4 =>
    (if q4.1 = 0 then
      L0_turn_65 d a0 a6 (zv_w (a7 + 1)) q4.2
    else
      ((zv_gR q4.2 a0 0 5).bind fun v5 =>
      ((C4_idAt d v5 a7 q4.2).bind fun q6 =>
      ((C5_addId d a6 q6.1 q6.2).bind fun g7 =>
      L0_turn_65 d a0 a6 (zv_w (a7 + 1)) g7))))))
  else
    ((zv_gI h a6 5 0).bind fun v8 =>
    (some (some (zv_i v8), h)))))) := by
  refine (zy_lim_eq zyS0_turn _ _ _ _).trans ?_
  rfl
theorem zyS0_carryOver : zy_srt 0 mc0_carryOver.2.1 = true := by decide +kernel
set_option maxRecDepth 100000 in
theorem qE0_carryOver (d : Nat) (a0 : Nat) (a1 : Int) (h : zv_H) : E0_carryOver d a0 a1 h =
  ((C0_at d a0 a1 h).bind fun q1 =>
  (if q1.1 = 0 then
    (some (some (zv_i (-2 : Int)), q1.2))
  else
    ((C5_edits d q1.1 q1.2).bind fun q2 =>
    (if q2.1 = 0 then
      (some (some (zv_i (-7 : Int)), q2.2))
    else
      ((zv_gR q2.2 a0 0 10).bind fun v3 =>
      ((C0_onLine d q1.1 v3 q2.2).bind fun q4 =>
      (if q4.1 = 0 then
        ((C0_standForThemselves d a0 q4.2).bind fun g5 =>
        ((C0_carryOne d a0 q1.1 g5).bind fun q6 =>
        (some (some (zv_i q6.1), q6.2))))
      else
        (some (some (zv_i (-7 : Int)), q4.2))))))))) := by
  refine (zy_lim_eq zyS0_carryOver _ _ _ _).trans ?_
  rfl
theorem zyS0_standForThemselves : zy_srt 0 mc0_standForThemselves.2.1 = true := by decide +kernel
set_option maxRecDepth 100000 in
theorem qE0_standForThemselves (d : Nat) (a0 : Nat) (h : zv_H) : E0_standForThemselves d a0 h =
  L0_standForThemselves_2 d a0 (0 : Int) h := by
  refine (zy_lim_eq zyS0_standForThemselves _ _ _ _).trans ?_
  rfl
set_option maxRecDepth 100000 in
theorem qL0_standForThemselves_2 (d : Nat) (a0 : Nat) (a1 : Int) (h : zv_H) : L0_standForThemselves_2 d a0 a1 h =
  (if a1 < (48 : Int) then
    ((zv_gR h a0 0 3).bind fun v1 =>
    ((zv_wI h v1 a1 a1).bind fun g2 =>
    L0_standForThemselves_2 d a0 (zv_w (a1 + 1)) g2))
  else
    (some (none, h))) := by
  refine (zy_lim_eq zyS0_standForThemselves _ _ _ _).trans ?_
  rfl
theorem zyS0_standOf : zy_srt 0 mc0_standOf.2.1 = true := by decide +kernel
set_option maxRecDepth 100000 in
theorem qE0_standOf (d : Nat) (a0 : Nat) (a1 : Int) (h : zv_H) : E0_standOf d a0 a1 h =
  ((C4_putter d a1 h).bind fun q1 =>
  (if a1 < 0 then
    (some (some (zv_i (-1 : Int)), q1.2))
  else
    (if q1.1 < 0 then
      (some (some (zv_i (-1 : Int)), q1.2))
    else
      (if q1.1 < (48 : Int) then
        ((zv_gR q1.2 a0 0 3).bind fun v2 =>
        ((zv_aI q1.2 v2 q1.1).bind fun v3 =>
        ((C4_order d a1 q1.2).bind fun q4 =>
        ((C4_id d v3 q4.1 q4.2).bind fun q5 =>
        (some (some (zv_i q5.1), q5.2))))))
      else
        (some (some (zv_i (-1 : Int)), q1.2)))))) := by
  refine (zy_lim_eq zyS0_standOf _ _ _ _).trans ?_
  rfl
theorem zyS0_carryOne : zy_srt 0 mc0_carryOne.2.1 = true := by decide +kernel
set_option maxRecDepth 100000 in
theorem qE0_carryOne (d : Nat) (a0 : Nat) (a1 : Nat) (h : zv_H) : E0_carryOne d a0 a1 h =
  ((zv_gI h a1 5 6).bind fun v1 =>
  (if v1 = (1 : Int) then
    ((C0_firstTaken d a0 a1 h).bind fun q2 =>
    ((C0_takenFrom d a0 a1 q2.1 q2.2).bind fun q3 =>
    (if q3.1 = 0 then
      (some (some (zv_i (-10 : Int)), q3.2))
    else
      ((C0_cutOut d a0 q2.1 q3.1 q3.2).bind fun q4 =>
      (some (some (zv_i q4.1), q4.2))))))
  else
    ((zv_gI h a1 5 15).bind fun v5 =>
    (if v5 = (-1 : Int) then
      L0_carryOne_74 d a0 a1 (0 : Int) h
    else
      ((zv_gR h a0 0 5).bind fun v6 =>
      ((zv_gR h a0 0 10).bind fun v7 =>
      ((C4_lay d v6 v7 h).bind fun g8 =>
      ((zv_gR g8 a0 0 5).bind fun v9 =>
      ((zv_gI g8 a1 5 15).bind fun v10 =>
      ((C0_standOf d a0 v10 g8).bind fun q11 =>
      ((C4_seenUpTo d v9 q11.1 q11.2).bind fun q12 =>
      L0_carryOne_74 d a0 a1 q12.1 q12.2))))))))))) := by
  refine (zy_lim_eq zyS0_carryOne _ _ _ _).trans ?_
  rfl
set_option maxRecDepth 100000 in
theorem qL0_carryOne_74 (d : Nat) (a0 : Nat) (a1 : Nat) (a2 : Int) (h : zv_H) : L0_carryOne_74 d a0 a1 a2 h =
  (if a2 = (-1 : Int) then
    (some (some (zv_i (-10 : Int)), h))
  else
    ((zv_gR h a0 0 9).bind fun v1 =>
    ((C7_clear d v1 h).bind fun g2 =>
    L0_carryOne_91 d a0 a1 a2 (0 : Int) g2))) := by
  refine (zy_lim_eq zyS0_carryOne _ _ _ _).trans ?_
  rfl
set_option maxRecDepth 100000 in
theorem qL0_carryOne_91 (d : Nat) (a0 : Nat) (a1 : Nat) (a2 : Int) (a3 : Int) (h : zv_H) : L0_carryOne_91 d a0 a1 a2 a3 h =
  ((zv_gI h a1 5 9).bind fun v1 =>
  (if a3 < v1 then
    ((zv_gR h a0 0 9).bind fun v2 =>
    ((zv_gI h a1 5 0).bind fun v3 =>
    ((C4_id d v3 a3 h).bind fun q4 =>
    ((C0_glyph d a0 q4.1 q4.2).bind fun q5 =>
    ((C7_add d v2 q5.1 q5.2).bind fun g6 =>
    L0_carryOne_91 d a0 a1 a2 (zv_w (a3 + 1)) g6)))))
  else
    ((zv_gR h a0 0 9).bind fun v7 =>
    ((C0_putWord d a0 a2 v7 h).bind fun q8 =>
    (some (some (zv_i q8.1), q8.2)))))) := by
  refine (zy_lim_eq zyS0_carryOne _ _ _ _).trans ?_
  rfl
theorem zyS0_firstTaken : zy_srt 0 mc0_firstTaken.2.1 = true := by decide +kernel
set_option maxRecDepth 100000 in
theorem qE0_firstTaken (d : Nat) (a0 : Nat) (a1 : Nat) (h : zv_H) : E0_firstTaken d a0 a1 h =
  L0_firstTaken_2 d a0 a1 (0 : Int) h := by
  refine (zy_lim_eq zyS0_firstTaken _ _ _ _).trans ?_
  rfl
set_option maxRecDepth 100000 in
theorem qL0_firstTaken_2 (d : Nat) (a0 : Nat) (a1 : Nat) (a2 : Int) (h : zv_H) : L0_firstTaken_2 d a0 a1 a2 h =
  ((zv_gR h a0 0 10).bind fun v1 =>
  ((zv_gI h v1 5 12).bind fun v2 =>
  (if a2 < v2 then
    ((zv_gR h a0 0 10).bind fun v3 =>
    ((C5_idAt d v3 a2 h).bind fun q4 =>
    ((C0_takes d a0 a1 q4.1 q4.2).bind fun q5 =>
    (if q5.1 = 0 then
      L0_firstTaken_2 d a0 a1 (zv_w (a2 + 1)) q5.2
    else
      (some (some (zv_i a2), q5.2))))))
  else
    (some (some (zv_i (-1 : Int)), h))))) := by
  refine (zy_lim_eq zyS0_firstTaken _ _ _ _).trans ?_
  rfl
theorem zyS0_takenFrom : zy_srt 0 mc0_takenFrom.2.1 = true := by decide +kernel
set_option maxRecDepth 100000 in
theorem qE0_takenFrom (d : Nat) (a0 : Nat) (a1 : Nat) (a2 : Int) (h : zv_H) : E0_takenFrom d a0 a1 a2 h =
  L0_takenFrom_9 d a0 a1 a2 (0 : Int) (max a2 (0 : Int)) h := by
  refine (zy_lim_eq zyS0_takenFrom _ _ _ _).trans ?_
  rfl
set_option maxRecDepth 100000 in
theorem qL0_takenFrom_9 (d : Nat) (a0 : Nat) (a1 : Nat) (a2 : Int) (a3 : Int) (a4 : Int) (h : zv_H) : L0_takenFrom_9 d a0 a1 a2 a3 a4 h =
  ((zv_gR h a0 0 10).bind fun v1 =>
  ((zv_gI h v1 5 12).bind fun v2 =>
  (if a4 < v2 then
    ((zv_gR h a0 0 10).bind fun v3 =>
    ((C5_idAt d v3 a4 h).bind fun q4 =>
    ((C0_takes d a0 a1 q4.1 q4.2).bind fun q5 =>
    (if q5.1 = 0 then
      L0_takenFrom_9 d a0 a1 a2 a3 (zv_w (a4 + 1)) q5.2
    else
      (if a4 = (zv_w (a2 + a3)) then
        L0_takenFrom_9 d a0 a1 a2 (zv_w (a3 + 1)) (zv_w (a4 + 1)) q5.2
      else
        (some (some (zv_i (0 : Int)), q5.2)))))))
  else
    (some (some (zv_i a3), h))))) := by
  refine (zy_lim_eq zyS0_takenFrom _ _ _ _).trans ?_
  rfl
theorem zyS0_takes : zy_srt 0 mc0_takes.2.1 = true := by decide +kernel
set_option maxRecDepth 100000 in
theorem qE0_takes (d : Nat) (a0 : Nat) (a1 : Nat) (a2 : Int) (h : zv_H) : E0_takes d a0 a1 a2 h =
  L0_takes_2 d a0 a1 a2 (0 : Int) h := by
  refine (zy_lim_eq zyS0_takes _ _ _ _).trans ?_
  rfl
set_option maxRecDepth 100000 in
theorem qL0_takes_2 (d : Nat) (a0 : Nat) (a1 : Nat) (a2 : Int) (a3 : Int) (h : zv_H) : L0_takes_2 d a0 a1 a2 a3 h =
  ((zv_gI h a1 5 9).bind fun v1 =>
  (if a3 < v1 then
    (if a2 = (-1 : Int) then
      L0_takes_2 d a0 a1 a2 (zv_w (a3 + 1)) h
    else
      ((C5_tookAt d a1 a3 h).bind fun q2 =>
      ((C0_standOf d a0 q2.1 q2.2).bind fun q3 =>
      (if q3.1 = a2 then
        (some (some (zv_i (1 : Int)), q3.2))
      else
        L0_takes_2 d a0 a1 a2 (zv_w (a3 + 1)) q3.2))))
  else
    (some (some (zv_i (0 : Int)), h)))) := by
  refine (zy_lim_eq zyS0_takes _ _ _ _).trans ?_
  rfl
theorem zyS0_mergeIn : zy_srt 0 mc0_mergeIn.2.1 = true := by decide +kernel
set_option maxRecDepth 100000 in
theorem qE0_mergeIn (d : Nat) (a0 : Nat) (a1 : Int) (h : zv_H) : E0_mergeIn d a0 a1 h =
  ((C0_at d a0 a1 h).bind fun q1 =>
  (if q1.1 = 0 then
    (some (some (zv_i (-2 : Int)), q1.2))
  else
    ((zv_gR q1.2 a0 0 10).bind fun v2 =>
    ((C0_onLine d q1.1 v2 q1.2).bind fun q3 =>
    (if q3.1 = 0 then
      ((zv_gR q3.2 a0 0 5).bind fun v4 =>
      ((zv_gR q3.2 a0 0 10).bind fun v5 =>
      ((C4_walk d v4 v5 q3.2).bind fun g6 =>
      ((zv_gR g6 a0 0 5).bind fun v7 =>
      ((zv_gJ g6 v7 4 8).bind fun v8 =>
      ((zv_gR g6 a0 0 5).bind fun v9 =>
      ((C4_walk d v9 q1.1 g6).bind fun g10 =>
      ((zv_gR g10 a0 0 5).bind fun v11 =>
      ((zv_gJ g10 v11 4 9).bind fun v12 =>
      ((C0_standForThemselves d a0 g10).bind fun g13 =>
      ((zv_pI g13 a0 0 13 (0 : Int)).bind fun g14 =>
      L0_mergeIn_84 d a0 q1.1 (v12 &&& (v8 ^^^ (-1 : Int64))) (0 : Int) (1 : Int) g14)))))))))))
    else
      (some (some (zv_i (-4 : Int)), q3.2))))))) := by
  refine (zy_lim_eq zyS0_mergeIn _ _ _ _).trans ?_
  rfl
set_option maxRecDepth 100000 in
theorem qL0_mergeIn_84 (d : Nat) (a0 : Nat) (a2 : Nat) (a5 : Int64) (a7 : Int) (a8 : Int) (h : zv_H) : L0_mergeIn_84 d a0 a2 a5 a7 a8 h =
  ((zv_gI h a2 5 10).bind fun v1 =>
  (if a8 ≤ v1 then
    ((C0_above d a2 a8 h).bind fun q2 =>
    (if q2.1 = 0 then
      L0_mergeIn_84 d a0 a2 a5 a7 (zv_w (a8 + 1)) q2.2
    else
      ((C5_bit d q2.1 q2.2).bind fun q3 =>
      (if (zv_lcmp (a5 &&& q3.1) (Int64.ofNat 0)) = 0 then
        L0_mergeIn_84 d a0 a2 a5 a7 (zv_w (a8 + 1)) q3.2
      else
        ((C0_carryOne d a0 q2.1 q3.2).bind fun q4 =>
        (if q4.1 < 0 then
          ((zv_gI q4.2 a0 0 13).bind fun v5 =>
          ((zv_pI q4.2 a0 0 13 (zv_w (v5 + (1 : Int)))).bind fun g6 =>
          L0_mergeIn_84 d a0 a2 a5 a7 (zv_w (a8 + 1)) g6))
        else
          ((zv_gI q4.2 q2.1 5 0).bind fun v7 =>
          (if v7 < (48 : Int) then
            ((zv_gR q4.2 a0 0 3).bind fun v8 =>
            ((zv_gI q4.2 q2.1 5 0).bind fun v9 =>
            ((zv_wI q4.2 v8 v9 q4.1).bind fun g10 =>
            L0_mergeIn_84 d a0 a2 a5 (zv_w (a7 + 1)) (zv_w (a8 + 1)) g10)))
          else
            ((zv_gI q4.2 a0 0 13).bind fun v11 =>
            ((zv_pI q4.2 a0 0 13 (zv_w (v11 + (1 : Int)))).bind fun g12 =>
            L0_mergeIn_84 d a0 a2 a5 a7 (zv_w (a8 + 1)) g12))))))))))
  else
    (some (some (zv_i a7), h)))) := by
  refine (zy_lim_eq zyS0_mergeIn _ _ _ _).trans ?_
  rfl
theorem zyS0_mergeOnPaper : zy_srt 0 mc0_mergeOnPaper.2.1 = true := by decide +kernel
set_option maxRecDepth 100000 in
theorem qE0_mergeOnPaper (d : Nat) (a0 : Nat) (a1 : Int) (a2 : Int) (h : zv_H) : E0_mergeOnPaper d a0 a1 a2 h =
  ((zv_gR h a0 0 10).bind fun v1 =>
  ((zv_gR h a0 0 7).bind fun v2 =>
  ((C6_keep d v2 h).bind fun g3 =>
  ((C0_mergeIn d a0 a1 g3).bind fun q4 =>
  (if q4.1 < 0 then
    (some (some (zv_i q4.1), q4.2))
  else
    (if a2 = 0 then
      L0_mergeOnPaper_60 d a0 v1 q4.1 q4.1 (0 : Int) q4.2
    else
      (if a2 = (1 : Int) then
        ((zv_gI q4.2 a0 0 13).bind fun v5 =>
        L0_mergeOnPaper_60 d a0 v1 q4.1 v5 (0 : Int) q4.2)
      else
        ((zv_gR q4.2 a0 0 10).bind fun v6 =>
        ((zv_gI q4.2 v6 5 12).bind fun v7 =>
        L0_mergeOnPaper_60 d a0 v1 q4.1 v7 (0 : Int) q4.2))))))))) := by
  refine (zy_lim_eq zyS0_mergeOnPaper _ _ _ _).trans ?_
  rfl
set_option maxRecDepth 100000 in
theorem qL0_mergeOnPaper_60 (d : Nat) (a0 : Nat) (a3 : Nat) (a4 : Int) (a5 : Int) (a6 : Int) (h : zv_H) : L0_mergeOnPaper_60 d a0 a3 a4 a5 a6 h =
  (if a6 < a4 then
    ((zv_gR h a0 0 10).bind fun v1 =>
    (if 1000000 ≤ v1 ∨ 1000000 ≤ a3 then none else
    if v1 = a3 then
      L0_mergeOnPaper_112 d a0 a5 h
    else
      ((zv_gR h a0 0 10).bind fun v2 =>
      ((zv_gR h v2 5 4).bind fun v3 =>
      (if v3 = 0 then
        L0_mergeOnPaper_112 d a0 a5 h
      else
        ((zv_gR h a0 0 10).bind fun v4 =>
        ((zv_gR h v4 5 4).bind fun v5 =>
        ((zv_pR h a0 0 10 v5).bind fun g6 =>
        ((C0_remove d a0 v4 g6).bind fun g7 =>
        L0_mergeOnPaper_60 d a0 a3 a4 a5 (zv_w (a6 + 1)) g7)))))))))
  else
    L0_mergeOnPaper_112 d a0 a5 h) := by
  refine (zy_lim_eq zyS0_mergeOnPaper _ _ _ _).trans ?_
  rfl
set_option maxRecDepth 100000 in
theorem qL0_mergeOnPaper_112 (d : Nat) (a0 : Nat) (a5 : Int) (h : zv_H) : L0_mergeOnPaper_112 d a0 a5 h =
  ((zv_gR h a0 0 7).bind fun v1 =>
  ((C6_giveBack d v1 h).bind fun g2 =>
  (some (some (zv_i a5), g2)))) := by
  refine (zy_lim_eq zyS0_mergeOnPaper _ _ _ _).trans ?_
  rfl
theorem zyS0_remove : zy_srt 0 mc0_remove.2.1 = true := by decide +kernel
set_option maxRecDepth 100000 in
theorem qE0_remove (d : Nat) (a0 : Nat) (a1 : Nat) (h : zv_H) : E0_remove d a0 a1 h =
  ((zv_pZ h a1 5 3 (0 : Int)).bind fun g1 =>
  ((zv_gR g1 a1 5 4).bind fun v2 =>
  (if v2 = 0 then
    L0_remove_25 d a0 a1 g1
  else
    ((zv_gR g1 a1 5 4).bind fun v3 =>
    ((zv_gI g1 v3 5 11).bind fun v4 =>
    ((zv_pI g1 v3 5 11 (zv_w (v4 - (1 : Int)))).bind fun g5 =>
    L0_remove_25 d a0 a1 g5)))))) := by
  refine (zy_lim_eq zyS0_remove _ _ _ _).trans ?_
  rfl
set_option maxRecDepth 100000 in
theorem qL0_remove_25 (d : Nat) (a0 : Nat) (a1 : Nat) (h : zv_H) : L0_remove_25 d a0 a1 h =
  ((zv_pR h a1 5 4 0).bind fun g1 =>
  ((zv_gR g1 a0 0 7).bind fun v2 =>
  ((zv_gI g1 a1 5 0).bind fun v3 =>
  ((C6_forget d v2 v3 g1).bind fun g4 =>
  ((zv_gI g4 a0 0 12).bind fun v5 =>
  ((zv_pI g4 a0 0 12 (zv_w (v5 - (1 : Int)))).bind fun g6 =>
  (some (none, g6)))))))) := by
  refine (zy_lim_eq zyS0_remove _ _ _ _).trans ?_
  rfl
theorem zyS0_nextToGo : zy_srt 0 mc0_nextToGo.2.1 = true := by decide +kernel
set_option maxRecDepth 100000 in
theorem qE0_nextToGo (d : Nat) (a0 : Nat) (h : zv_H) : E0_nextToGo d a0 h =
  L0_nextToGo_4 d a0 0 (1 : Int) h := by
  refine (zy_lim_eq zyS0_nextToGo _ _ _ _).trans ?_
  rfl
set_option maxRecDepth 100000 in
theorem qL0_nextToGo_4 (d : Nat) (a0 : Nat) (a1 : Nat) (a2 : Int) (h : zv_H) : L0_nextToGo_4 d a0 a1 a2 h =
  (if a2 < (48 : Int) then
    ((C0_at d a0 a2 h).bind fun q1 =>
    (if q1.1 = 0 then
      L0_nextToGo_4 d a0 a1 (zv_w (a2 + 1)) q1.2
    else
      ((zv_gR q1.2 a0 0 10).bind fun v2 =>
      (if 1000000 ≤ q1.1 ∨ 1000000 ≤ v2 then none else
      if q1.1 = v2 then
        L0_nextToGo_4 d a0 a1 (zv_w (a2 + 1)) q1.2
      else
        ((zv_gI q1.2 q1.1 5 11).bind fun v3 =>
        (if v3 = 0 then
          ((zv_gR q1.2 a0 0 6).bind fun v4 =>
          ((C2_countOf d v4 a2 q1.2).bind fun q5 =>
          (if q5.1 = 0 then
            (if a1 = 0 then
              L0_nextToGo_4 d a0 q1.1 (zv_w (a2 + 1)) q5.2
            else
              ((zv_gI q5.2 q1.1 5 13).bind fun v6 =>
              ((zv_gI q5.2 a1 5 13).bind fun v7 =>
              (if v6 < v7 then
                L0_nextToGo_4 d a0 q1.1 (zv_w (a2 + 1)) q5.2
              else
                L0_nextToGo_4 d a0 a1 (zv_w (a2 + 1)) q5.2))))
          else
            L0_nextToGo_4 d a0 a1 (zv_w (a2 + 1)) q5.2)))
        else
          L0_nextToGo_4 d a0 a1 (zv_w (a2 + 1)) q1.2))))))
  else
    (some (some (zv_r a1), h))) := by
  refine (zy_lim_eq zyS0_nextToGo _ _ _ _).trans ?_
  rfl
theorem zyS0_pruneTo : zy_srt 0 mc0_pruneTo.2.1 = true := by decide +kernel
set_option maxRecDepth 100000 in
theorem qE0_pruneTo (d : Nat) (a0 : Nat) (a1 : Int) (h : zv_H) : E0_pruneTo d a0 a1 h =
  ((C8_within d a1 (1 : Int) (48 : Int) h).bind fun q1 =>
  (if q1.1 = 0 then
    (some (some (zv_i (-1 : Int)), q1.2))
  else
    L0_pruneTo_14 d a0 a1 (0 : Int) q1.2)) := by
  refine (zy_lim_eq zyS0_pruneTo _ _ _ _).trans ?_
  rfl
set_option maxRecDepth 100000 in
theorem qL0_pruneTo_14 (d : Nat) (a0 : Nat) (a1 : Int) (a2 : Int) (h : zv_H) : L0_pruneTo_14 d a0 a1 a2 h =
  ((zv_gI h a0 0 12).bind fun v1 =>
  (if v1 ≤ a1 then
    (some (some (zv_i a2), h))
  else
    (if a2 < (48 : Int) then
      ((C0_nextToGo d a0 h).bind fun q2 =>
      (if q2.1 = 0 then
        (some (some (zv_i a2), q2.2))
      else
        ((C0_remove d a0 q2.1 q2.2).bind fun g3 =>
        L0_pruneTo_14 d a0 a1 (zv_w (a2 + 1)) g3)))
    else
      (some (some (zv_i a2), h))))) := by
  refine (zy_lim_eq zyS0_pruneTo _ _ _ _).trans ?_
  rfl
theorem zyS0_nearest : zy_srt 0 mc0_nearest.2.1 = true := by decide +kernel
set_option maxRecDepth 100000 in
theorem qE0_nearest (d : Nat) (a0 : Nat) (a1 : Nat) (h : zv_H) : E0_nearest d a0 a1 h =
  L0_nearest_2 d a1 a0 h := by
  refine (zy_lim_eq zyS0_nearest _ _ _ _).trans ?_
  rfl
set_option maxRecDepth 100000 in
theorem qL0_nearest_2 (d : Nat) (a1 : Nat) (a2 : Nat) (h : zv_H) : L0_nearest_2 d a1 a2 h =
  ((zv_gR h a2 5 4).bind fun v1 =>
  (if v1 = 0 then
    (some (some (zv_r a2), h))
  else
    ((C0_onLine d a2 a1 h).bind fun q2 =>
    (if q2.1 = 0 then
      ((zv_gR q2.2 a2 5 4).bind fun v3 =>
      L0_nearest_2 d a1 v3 q2.2)
    else
      (some (some (zv_r a2), q2.2)))))) := by
  refine (zy_lim_eq zyS0_nearest _ _ _ _).trans ?_
  rfl
theorem zyS0_wayLength : zy_srt 0 mc0_wayLength.2.1 = true := by decide +kernel
set_option maxRecDepth 100000 in
theorem qE0_wayLength (d : Nat) (a0 : Nat) (a1 : Nat) (h : zv_H) : E0_wayLength d a0 a1 h =
  ((zv_gI h a0 5 10).bind fun v1 =>
  ((zv_gI h a1 5 10).bind fun v2 =>
  ((C0_nearest d a0 a1 h).bind fun q3 =>
  ((zv_gI q3.2 q3.1 5 10).bind fun v4 =>
  (some (some (zv_i (zv_w ((zv_w (v1 + v2)) - (zv_w ((2 : Int) * v4))))), q3.2)))))) := by
  refine (zy_lim_eq zyS0_wayLength _ _ _ _).trans ?_
  rfl
theorem zyS0_onWay : zy_srt 0 mc0_onWay.2.1 = true := by decide +kernel
set_option maxRecDepth 100000 in
theorem qE0_onWay (d : Nat) (a0 : Nat) (a1 : Nat) (a2 : Int) (h : zv_H) : E0_onWay d a0 a1 a2 h =
  ((zv_gI h a0 5 10).bind fun v1 =>
  ((C0_nearest d a0 a1 h).bind fun q2 =>
  ((zv_gI q2.2 q2.1 5 10).bind fun v3 =>
  ((C0_wayLength d a0 a1 q2.2).bind fun q4 =>
  (if a2 < 0 then
    (some (some (zv_r 0), q4.2))
  else
    (if a2 ≤ q4.1 then
      (if a2 ≤ (zv_w (v1 - v3)) then
        ((zv_gI q4.2 a0 5 10).bind fun v5 =>
        ((C0_above d a0 (zv_w (v5 - a2)) q4.2).bind fun q6 =>
        (some (some (zv_r q6.1), q6.2))))
      else
        ((zv_gI q4.2 a1 5 10).bind fun v7 =>
        ((C0_above d a1 (zv_w (v7 - (zv_w (q4.1 - a2)))) q4.2).bind fun q8 =>
        (some (some (zv_r q8.1), q8.2)))))
    else
      (some (some (zv_r 0), q4.2)))))))) := by
  refine (zy_lim_eq zyS0_onWay _ _ _ _).trans ?_
  rfl
theorem zyS0_keptOf : zy_srt 0 mc0_keptOf.2.1 = true := by decide +kernel
set_option maxRecDepth 100000 in
theorem qE0_keptOf (d : Nat) (a0 : Nat) (a1 : Nat) (a2 : Nat) (h : zv_H) : E0_keptOf d a0 a1 a2 h =
  L0_keptOf_5 d a1 a2 (0 : Int) (0 : Int) h := by
  refine (zy_lim_eq zyS0_keptOf _ _ _ _).trans ?_
  rfl
set_option maxRecDepth 100000 in
theorem qL0_keptOf_5 (d : Nat) (a1 : Nat) (a2 : Nat) (a3 : Int) (a4 : Int) (h : zv_H) : L0_keptOf_5 d a1 a2 a3 a4 h =
  ((zv_gI h a1 5 12).bind fun v1 =>
  (if a4 < v1 then
    L0_keptOf_17 d a1 a2 a3 a4 (0 : Int) h
  else
    (some (some (zv_i a3), h)))) := by
  refine (zy_lim_eq zyS0_keptOf _ _ _ _).trans ?_
  rfl
set_option maxRecDepth 100000 in
theorem qL0_keptOf_17 (d : Nat) (a1 : Nat) (a2 : Nat) (a3 : Int) (a4 : Int) (a5 : Int) (h : zv_H) : L0_keptOf_17 d a1 a2 a3 a4 a5 h =
  ((zv_gI h a2 5 12).bind fun v1 =>
  (if a5 < v1 then
    ((C5_idAt d a1 a4 h).bind fun q2 =>
    ((C5_idAt d a2 a5 q2.2).bind fun q3 =>
    (if q2.1 = q3.1 then
      L0_keptOf_17 d a1 a2 (zv_w (a3 + (1 : Int))) a4 (zv_w (a5 + 1)) q3.2
    else
      L0_keptOf_17 d a1 a2 (zv_w (a3 + (0 : Int))) a4 (zv_w (a5 + 1)) q3.2)))
  else
    L0_keptOf_5 d a1 a2 a3 (zv_w (a4 + 1)) h)) := by
  refine (zy_lim_eq zyS0_keptOf _ _ _ _).trans ?_
  rfl
theorem zyS0_firstDifference : zy_srt 0 mc0_firstDifference.2.1 = true := by decide +kernel
set_option maxRecDepth 100000 in
theorem qE0_firstDifference (d : Nat) (a0 : Nat) (a1 : Nat) (a2 : Nat) (h : zv_H) : E0_firstDifference d a0 a1 a2 h =
  ((zv_gI h a1 5 12).bind fun v1 =>
  ((zv_gI h a2 5 12).bind fun v2 =>
  L0_firstDifference_15 d a0 a1 a2 (max v1 v2) (0 : Int) h)) := by
  refine (zy_lim_eq zyS0_firstDifference _ _ _ _).trans ?_
  rfl
set_option maxRecDepth 100000 in
theorem qL0_firstDifference_15 (d : Nat) (a0 : Nat) (a1 : Nat) (a2 : Nat) (a3 : Int) (a4 : Int) (h : zv_H) : L0_firstDifference_15 d a0 a1 a2 a3 a4 h =
  (if a4 < a3 then
    ((C0_letterAt d a0 a1 a4 h).bind fun q1 =>
    ((C0_letterAt d a0 a2 a4 q1.2).bind fun q2 =>
    (if q1.1 = q2.1 then
      L0_firstDifference_15 d a0 a1 a2 a3 (zv_w (a4 + 1)) q2.2
    else
      (some (some (zv_i a4), q2.2)))))
  else
    (some (some (zv_i (-1 : Int)), h))) := by
  refine (zy_lim_eq zyS0_firstDifference _ _ _ _).trans ?_
  rfl
theorem zyS0_longestCommon : zy_srt 0 mc0_longestCommon.2.1 = true := by decide +kernel
set_option maxRecDepth 100000 in
theorem qE0_longestCommon (d : Nat) (a0 : Nat) (a1 : Nat) (a2 : Nat) (h : zv_H) : E0_longestCommon d a0 a1 a2 h =
  L0_longestCommon_2 d a0 a1 a2 (0 : Int) h := by
  refine (zy_lim_eq zyS0_longestCommon _ _ _ _).trans ?_
  rfl
set_option maxRecDepth 100000 in
theorem qL0_longestCommon_2 (d : Nat) (a0 : Nat) (a1 : Nat) (a2 : Nat) (a3 : Int) (h : zv_H) : L0_longestCommon_2 d a0 a1 a2 a3 h =
  (if a3 ≤ (120 : Int) then
    ((zv_gR h a0 0 4).bind fun v1 =>
    ((zv_wI h v1 a3 (0 : Int)).bind fun g2 =>
    L0_longestCommon_2 d a0 a1 a2 (zv_w (a3 + 1)) g2))
  else
    ((zv_gI h a2 5 12).bind fun v3 =>
    L0_longestCommon_34 d a0 a1 a2 (min v3 (120 : Int)) (0 : Int) h)) := by
  refine (zy_lim_eq zyS0_longestCommon _ _ _ _).trans ?_
  rfl
set_option maxRecDepth 100000 in
theorem qL0_longestCommon_34 (d : Nat) (a0 : Nat) (a1 : Nat) (a2 : Nat) (a3 : Int) (a4 : Int) (h : zv_H) : L0_longestCommon_34 d a0 a1 a2 a3 a4 h =
  ((zv_gI h a1 5 12).bind fun v1 =>
  (if a4 < v1 then
    ((C0_letterAt d a0 a1 a4 h).bind fun q2 =>
    L0_longestCommon_58 d a0 a1 a2 a3 a4 q2.1 (0 : Int) (1 : Int) q2.2)
  else
    ((zv_gR h a0 0 4).bind fun v3 =>
    ((zv_aI h v3 (max a3 (0 : Int))).bind fun v4 =>
    (some (some (zv_i v4), h)))))) := by
  refine (zy_lim_eq zyS0_longestCommon _ _ _ _).trans ?_
  rfl
set_option maxRecDepth 100000 in
theorem qL0_longestCommon_58 (d : Nat) (a0 : Nat) (a1 : Nat) (a2 : Nat) (a3 : Int) (a4 : Int) (a5 : Int) (a6 : Int) (a7 : Int) (h : zv_H) : L0_longestCommon_58 d a0 a1 a2 a3 a4 a5 a6 a7 h =
  (if a7 ≤ a3 then
    ((zv_gR h a0 0 4).bind fun v1 =>
    ((zv_aI h v1 a7).bind fun v2 =>
    ((zv_gR h a0 0 4).bind fun v3 =>
    ((C0_letterAt d a0 a2 (zv_w (a7 - (1 : Int))) h).bind fun q4 =>
    (if a5 = q4.1 then
      ((zv_wI q4.2 v3 a7 (zv_w (a6 + (1 : Int)))).bind fun g5 =>
      L0_longestCommon_58 d a0 a1 a2 a3 a4 a5 v2 (zv_w (a7 + 1)) g5)
    else
      ((zv_gR q4.2 a0 0 4).bind fun v6 =>
      ((zv_aI q4.2 v6 (zv_w (a7 - (1 : Int)))).bind fun v7 =>
      ((zv_wI q4.2 v3 a7 (max v2 v7)).bind fun g8 =>
      L0_longestCommon_58 d a0 a1 a2 a3 a4 a5 v2 (zv_w (a7 + 1)) g8))))))))
  else
    L0_longestCommon_34 d a0 a1 a2 a3 (zv_w (a4 + 1)) h) := by
  refine (zy_lim_eq zyS0_longestCommon _ _ _ _).trans ?_
  rfl
theorem zyS0_placeIn : zy_srt 0 mc0_placeIn.2.1 = true := by decide +kernel
set_option maxRecDepth 100000 in
theorem qE0_placeIn (d : Nat) (a0 : Nat) (a1 : Nat) (a2 : Nat) (h : zv_H) : E0_placeIn d a0 a1 a2 h =
  L0_placeIn_2 d a0 a1 a2 (0 : Int) h := by
  refine (zy_lim_eq zyS0_placeIn _ _ _ _).trans ?_
  rfl
set_option maxRecDepth 100000 in
theorem qL0_placeIn_2 (d : Nat) (a0 : Nat) (a1 : Nat) (a2 : Nat) (a3 : Int) (h : zv_H) : L0_placeIn_2 d a0 a1 a2 a3 h =
  ((zv_gI h a2 7 1).bind fun v1 =>
  ((zv_gI h a1 5 12).bind fun v2 =>
  (if (zv_w (a3 + v1)) ≤ v2 then
    L0_placeIn_18 d a0 a1 a2 a3 (0 : Int) h
  else
    (some (some (zv_i (-1 : Int)), h))))) := by
  refine (zy_lim_eq zyS0_placeIn _ _ _ _).trans ?_
  rfl
set_option maxRecDepth 100000 in
theorem qL0_placeIn_18 (d : Nat) (a0 : Nat) (a1 : Nat) (a2 : Nat) (a3 : Int) (a4 : Int) (h : zv_H) : L0_placeIn_18 d a0 a1 a2 a3 a4 h =
  ((zv_gI h a2 7 1).bind fun v1 =>
  (if a4 < v1 then
    ((C0_letterAt d a0 a1 (zv_w (a3 + a4)) h).bind fun q2 =>
    ((C7_at d a2 a4 q2.2).bind fun q3 =>
    (if q2.1 = q3.1 then
      L0_placeIn_18 d a0 a1 a2 a3 (zv_w (a4 + 1)) q3.2
    else
      L0_placeIn_51 d a0 a1 a2 a3 a4 q3.2)))
  else
    L0_placeIn_51 d a0 a1 a2 a3 a4 h)) := by
  refine (zy_lim_eq zyS0_placeIn _ _ _ _).trans ?_
  rfl
set_option maxRecDepth 100000 in
theorem qL0_placeIn_51 (d : Nat) (a0 : Nat) (a1 : Nat) (a2 : Nat) (a3 : Int) (a4 : Int) (h : zv_H) : L0_placeIn_51 d a0 a1 a2 a3 a4 h =
  ((zv_gI h a2 7 1).bind fun v1 =>
  (if a4 = v1 then
    (some (some (zv_i a3), h))
  else
    L0_placeIn_2 d a0 a1 a2 (zv_w (a3 + 1)) h)) := by
  refine (zy_lim_eq zyS0_placeIn _ _ _ _).trans ?_
  rfl
theorem zyS0_leastWith : zy_srt 0 mc0_leastWith.2.1 = true := by decide +kernel
set_option maxRecDepth 100000 in
theorem qE0_leastWith (d : Nat) (a0 : Nat) (a1 : Nat) (h : zv_H) : E0_leastWith d a0 a1 h =
  L0_leastWith_2 d a0 a1 (0 : Int) h := by
  refine (zy_lim_eq zyS0_leastWith _ _ _ _).trans ?_
  rfl
set_option maxRecDepth 100000 in
theorem qL0_leastWith_2 (d : Nat) (a0 : Nat) (a1 : Nat) (a2 : Int) (h : zv_H) : L0_leastWith_2 d a0 a1 a2 h =
  (if a2 < (48 : Int) then
    ((C0_at d a0 a2 h).bind fun q1 =>
    (if q1.1 = 0 then
      L0_leastWith_2 d a0 a1 (zv_w (a2 + 1)) q1.2
    else
      ((C0_placeIn d a0 q1.1 a1 q1.2).bind fun q2 =>
      (if q2.1 = (-1 : Int) then
        L0_leastWith_2 d a0 a1 (zv_w (a2 + 1)) q2.2
      else
        (some (some (zv_i a2), q2.2))))))
  else
    (some (some (zv_i (-1 : Int)), h))) := by
  refine (zy_lim_eq zyS0_leastWith _ _ _ _).trans ?_
  rfl
theorem zyS0_statesWith : zy_srt 0 mc0_statesWith.2.1 = true := by decide +kernel
set_option maxRecDepth 100000 in
theorem qE0_statesWith (d : Nat) (a0 : Nat) (a1 : Nat) (h : zv_H) : E0_statesWith d a0 a1 h =
  L0_statesWith_4 d a0 a1 (0 : Int) (0 : Int) h := by
  refine (zy_lim_eq zyS0_statesWith _ _ _ _).trans ?_
  rfl
set_option maxRecDepth 100000 in
theorem qL0_statesWith_4 (d : Nat) (a0 : Nat) (a1 : Nat) (a2 : Int) (a3 : Int) (h : zv_H) : L0_statesWith_4 d a0 a1 a2 a3 h =
  (if a3 < (48 : Int) then
    ((C0_at d a0 a3 h).bind fun q1 =>
    (if q1.1 = 0 then
      L0_statesWith_4 d a0 a1 (zv_w (a2 + (0 : Int))) (zv_w (a3 + 1)) q1.2
    else
      ((C0_placeIn d a0 q1.1 a1 q1.2).bind fun q2 =>
      (if q2.1 = (-1 : Int) then
        L0_statesWith_4 d a0 a1 (zv_w (a2 + (0 : Int))) (zv_w (a3 + 1)) q2.2
      else
        L0_statesWith_4 d a0 a1 (zv_w (a2 + (1 : Int))) (zv_w (a3 + 1)) q2.2))))
  else
    (some (some (zv_i a2), h))) := by
  refine (zy_lim_eq zyS0_statesWith _ _ _ _).trans ?_
  rfl
theorem zyS0_twinOf : zy_srt 0 mc0_twinOf.2.1 = true := by decide +kernel
set_option maxRecDepth 100000 in
theorem qE0_twinOf (d : Nat) (a0 : Nat) (a1 : Nat) (h : zv_H) : E0_twinOf d a0 a1 h =
  L0_twinOf_2 d a0 a1 (0 : Int) h := by
  refine (zy_lim_eq zyS0_twinOf _ _ _ _).trans ?_
  rfl
set_option maxRecDepth 100000 in
theorem qL0_twinOf_2 (d : Nat) (a0 : Nat) (a1 : Nat) (a2 : Int) (h : zv_H) : L0_twinOf_2 d a0 a1 a2 h =
  (if a2 < (48 : Int) then
    ((C0_at d a0 a2 h).bind fun q1 =>
    (if q1.1 = 0 then
      L0_twinOf_2 d a0 a1 (zv_w (a2 + 1)) q1.2
    else
      (if 1000000 ≤ q1.1 ∨ 1000000 ≤ a1 then none else
      if q1.1 = a1 then
        L0_twinOf_2 d a0 a1 (zv_w (a2 + 1)) q1.2
      else
        ((C0_firstDifference d a0 a1 q1.1 q1.2).bind fun q2 =>
        (if q2.1 = (-1 : Int) then
          (some (some (zv_i a2), q2.2))
        else
          L0_twinOf_2 d a0 a1 (zv_w (a2 + 1)) q2.2)))))
  else
    (some (some (zv_i (-1 : Int)), h))) := by
  refine (zy_lim_eq zyS0_twinOf _ _ _ _).trans ?_
  rfl
