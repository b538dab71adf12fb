theorem zyS8_init : zy_srt 0 mc8_init.2.1 = true := by decide +kernel
set_option maxRecDepth 100000 in
theorem qE8_init (d : Nat) (a0 : Nat) (h : zv_H) : E8_init d a0 h =
  (if a0 = 0 then none else
  ((zv_nA h 2 (160 : Int)).bind fun g1 =>
  ((zv_pR g1 a0 8 0 (zv_n h + 1)).bind fun g2 =>
  ((zv_nO g2 7).bind fun g3 =>
  ((C7_init d (zv_n g2 + 1) g3).bind fun g4 =>
  ((zv_pR g4 a0 8 1 (zv_n g2 + 1)).bind fun g5 =>
  ((zv_nO g5 3).bind fun g6 =>
  ((C3_init d (zv_n g5 + 1) g6).bind fun g7 =>
  ((zv_pR g7 a0 8 2 (zv_n g5 + 1)).bind fun g8 =>
  ((zv_nO g8 0).bind fun g9 =>
  ((C0_init d (zv_n g8 + 1) g9).bind fun g10 =>
  ((zv_pR g10 a0 8 3 (zv_n g8 + 1)).bind fun g11 =>
  ((zv_nO g11 0).bind fun g12 =>
  ((C0_init d (zv_n g11 + 1) g12).bind fun g13 =>
  ((zv_pR g13 a0 8 4 (zv_n g11 + 1)).bind fun g14 =>
  ((zv_pI g14 a0 8 5 (0 : Int)).bind fun g15 =>
  ((zv_pI g15 a0 8 6 (0 : Int)).bind fun g16 =>
  ((zv_pZ g16 a0 8 7 (0 : Int)).bind fun g17 =>
  (some (none, g17)))))))))))))))))))) := by
  refine (zy_lim_eq zyS8_init _ _ _ _).trans ?_
  rfl
theorem zyS8_refused : zy_srt 0 mc8_refused.2.1 = true := by decide +kernel
set_option maxRecDepth 100000 in
theorem qE8_refused (d : Nat) (a0 : Nat) (a1 : Int) (h : zv_H) : E8_refused d a0 a1 h =
  ((zv_pI h a0 8 6 a1).bind fun g1 =>
  (some (some (zv_i (-1 : Int)), g1))) := by
  refine (zy_lim_eq zyS8_refused _ _ _ _).trans ?_
  rfl
theorem zyS8_given : zy_srt 0 mc8_given.2.1 = true := by decide +kernel
set_option maxRecDepth 100000 in
theorem qE8_given (d : Nat) (a0 : Nat) (a1 : Int) (h : zv_H) : E8_given d a0 a1 h =
  ((zv_pI h a0 8 6 (0 : Int)).bind fun g1 =>
  (some (some (zv_i a1), g1))) := by
  refine (zy_lim_eq zyS8_given _ _ _ _).trans ?_
  rfl
theorem zyS8_answered : zy_srt 0 mc8_answered.2.1 = true := by decide +kernel
set_option maxRecDepth 100000 in
theorem qE8_answered (d : Nat) (a0 : Nat) (a1 : Int) (h : zv_H) : E8_answered d a0 a1 h =
  (if a1 < 0 then
    ((C8_refused d a0 (zv_w (-a1)) h).bind fun q1 =>
    (some (some (zv_i q1.1), q1.2)))
  else
    ((C8_given d a0 a1 h).bind fun q2 =>
    (some (some (zv_i q2.1), q2.2)))) := by
  refine (zy_lim_eq zyS8_answered _ _ _ _).trans ?_
  rfl
theorem zyS8_within : zy_srt 0 mc8_within.2.1 = true := by decide +kernel
set_option maxRecDepth 100000 in
theorem qE8_within (d : Nat) (a0 : Int) (a1 : Int) (a2 : Int) (h : zv_H) : E8_within d a0 a1 a2 h =
  (if a0 < a1 then
    (some (some (zv_i (0 : Int)), h))
  else
    (if a0 ≤ a2 then
      (some (some (zv_i (1 : Int)), h))
    else
      (some (some (zv_i (0 : Int)), h)))) := by
  refine (zy_lim_eq zyS8_within _ _ _ _).trans ?_
  rfl
theorem zyS8_status : zy_srt 0 mc8_status.2.1 = true := by decide +kernel
set_option maxRecDepth 100000 in
theorem qE8_status (d : Nat) (a0 : Nat) (h : zv_H) : E8_status d a0 h =
  ((zv_gI h a0 8 6).bind fun v1 =>
  (some (some (zv_i v1), h))) := by
  refine (zy_lim_eq zyS8_status _ _ _ _).trans ?_
  rfl
theorem zyS8_feed : zy_srt 0 mc8_feed.2.1 = true := by decide +kernel
set_option maxRecDepth 100000 in
theorem qE8_feed (d : Nat) (a0 : Nat) (a1 : Int) (a2 : Int) (a3 : Int) (a4 : Int) (a5 : Int) (h : zv_H) : E8_feed d a0 a1 a2 a3 a4 a5 h =
  ((zv_gR h a0 8 2).bind fun v1 =>
  ((zv_gI h v1 3 2).bind fun v2 =>
  (if (zv_w (v2 + (20 : Int))) ≤ (700 : Int) then
    ((C8_feedInt d a0 a1 h).bind fun g3 =>
    ((C8_feedInt d a0 a2 g3).bind fun g4 =>
    ((C8_feedInt d a0 a3 g4).bind fun g5 =>
    ((C8_feedInt d a0 a4 g5).bind fun g6 =>
    ((C8_feedInt d a0 a5 g6).bind fun g7 =>
    ((zv_gR g7 a0 8 2).bind fun v8 =>
    ((zv_gI g7 v8 3 2).bind fun v9 =>
    (some (some (zv_i v9), g7)))))))))
  else
    (some (some (zv_i (-1 : Int)), h))))) := by
  refine (zy_lim_eq zyS8_feed _ _ _ _).trans ?_
  rfl
theorem zyS8_feedInt : zy_srt 0 mc8_feedInt.2.1 = true := by decide +kernel
set_option maxRecDepth 100000 in
theorem qE8_feedInt (d : Nat) (a0 : Nat) (a1 : Int) (h : zv_H) : E8_feedInt d a0 a1 h =
  L8_feedInt_3 d a0 a1 (24 : Int) h := by
  refine (zy_lim_eq zyS8_feedInt _ _ _ _).trans ?_
  rfl
set_option maxRecDepth 100000 in
theorem qL8_feedInt_3 (d : Nat) (a0 : Nat) (a1 : Int) (a2 : Int) (h : zv_H) : L8_feedInt_3 d a0 a1 a2 h =
  (if a2 < 0 then
    (some (none, h))
  else
    ((zv_gR h a0 8 2).bind fun v1 =>
    ((C3_addByte d v1 (zv_and (zv_ushr a1 a2) (255 : Int)) h).bind fun g2 =>
    L8_feedInt_3 d a0 a1 (zv_w (a2 + (-8))) g2))) := by
  refine (zy_lim_eq zyS8_feedInt _ _ _ _).trans ?_
  rfl
theorem zyS8_fault : zy_srt 0 mc8_fault.2.1 = true := by decide +kernel
set_option maxRecDepth 100000 in
theorem qE8_fault (d : Nat) (a0 : Nat) (a1 : Int) (h : zv_H) : E8_fault d a0 a1 h =
  ((zv_gI h a0 8 7).bind fun v1 =>
  (if v1 = 0 then
    (some (some (zv_i (-1 : Int)), h))
  else
    ((C8_within d a1 (0 : Int) (1 : Int) h).bind fun q2 =>
    (if q2.1 = 0 then
      (some (some (zv_i (-1 : Int)), q2.2))
    else
      (if a1 = 0 then
        ((zv_gR q2.2 a0 8 2).bind fun v3 =>
        ((zv_gI q2.2 v3 3 8).bind fun v4 =>
        (some (some (zv_i v4), q2.2))))
      else
        ((zv_gR q2.2 a0 8 2).bind fun v5 =>
        ((zv_gI q2.2 v5 3 9).bind fun v6 =>
        (some (some (zv_i v6), q2.2))))))))) := by
  refine (zy_lim_eq zyS8_fault _ _ _ _).trans ?_
  rfl
theorem zyS8_type : zy_srt 0 mc8_type.2.1 = true := by decide +kernel
set_option maxRecDepth 100000 in
theorem qE8_type (d : Nat) (a0 : Nat) (a1 : Int) (a2 : Int) (h : zv_H) : E8_type d a0 a1 a2 h =
  L8_type_2 d a0 a1 a2 (0 : Int) h := by
  refine (zy_lim_eq zyS8_type _ _ _ _).trans ?_
  rfl
set_option maxRecDepth 100000 in
theorem qL8_type_2 (d : Nat) (a0 : Nat) (a1 : Int) (a2 : Int) (a3 : Int) (h : zv_H) : L8_type_2 d a0 a1 a2 a3 h =
  (if a3 < (12 : Int) then
    ((C8_typedLetter d a1 a2 a3 h).bind fun q1 =>
    (if q1.1 = 0 then
      L8_type_36 d a0 a1 a2 a3 q1.2
    else
      ((C8_typedLetter d a1 a2 a3 q1.2).bind fun q2 =>
      (if q2.1 ≤ (26 : Int) then
        L8_type_2 d a0 a1 a2 (zv_w (a3 + 1)) q2.2
      else
        (some (some (zv_i (-1 : Int)), q2.2))))))
  else
    L8_type_36 d a0 a1 a2 a3 h) := by
  refine (zy_lim_eq zyS8_type _ _ _ _).trans ?_
  rfl
set_option maxRecDepth 100000 in
theorem qL8_type_36 (d : Nat) (a0 : Nat) (a1 : Int) (a2 : Int) (a3 : Int) (h : zv_H) : L8_type_36 d a0 a1 a2 a3 h =
  ((zv_gR h a0 8 1).bind fun v1 =>
  ((C7_clear d v1 h).bind fun g2 =>
  L8_type_46 d a0 a1 a2 a3 (0 : Int) g2)) := by
  refine (zy_lim_eq zyS8_type _ _ _ _).trans ?_
  rfl
set_option maxRecDepth 100000 in
theorem qL8_type_46 (d : Nat) (a0 : Nat) (a1 : Int) (a2 : Int) (a3 : Int) (a4 : Int) (h : zv_H) : L8_type_46 d a0 a1 a2 a3 a4 h =
  (if a4 < a3 then
    ((zv_gR h a0 8 1).bind fun v1 =>
    ((C8_typedLetter d a1 a2 a4 h).bind fun q2 =>
    ((C7_add d v1 (zv_w (q2.1 - (1 : Int))) q2.2).bind fun g3 =>
    L8_type_46 d a0 a1 a2 a3 (zv_w (a4 + 1)) g3)))
  else
    (some (some (zv_i a3), h))) := by
  refine (zy_lim_eq zyS8_type _ _ _ _).trans ?_
  rfl
theorem zyS8_typedLetter : zy_srt 0 mc8_typedLetter.2.1 = true := by decide +kernel
set_option maxRecDepth 100000 in
theorem qE8_typedLetter (d : Nat) (a0 : Int) (a1 : Int) (a2 : Int) (h : zv_H) : E8_typedLetter d a0 a1 a2 h =
  (if a2 < (6 : Int) then
    (some (some (zv_i (zv_and (zv_ushr a0 (zv_w ((5 : Int) * a2))) (31 : Int))), h))
  else
    (some (some (zv_i (zv_and (zv_ushr a1 (zv_w ((5 : Int) * (zv_w (a2 - (6 : Int)))))) (31 : Int))), h))) := by
  refine (zy_lim_eq zyS8_typedLetter _ _ _ _).trans ?_
  rfl
theorem zyS8_load : zy_srt 0 mc8_load.2.1 = true := by decide +kernel
set_option maxRecDepth 100000 in
theorem qE8_load (d : Nat) (a0 : Nat) (a1 : Int) (h : zv_H) : E8_load d a0 a1 h =
  ((zv_gR h a0 8 2).bind fun v1 =>
  ((zv_gI h v1 3 2).bind fun v2 =>
  ((C8_within d a1 (0 : Int) v2 h).bind fun q3 =>
  (if q3.1 = 0 then
    ((C8_refused d a0 (1 : Int) q3.2).bind fun q4 =>
    (some (some (zv_i q4.1), q4.2)))
  else
    ((zv_pZ q3.2 a0 8 7 (1 : Int)).bind fun g5 =>
    ((zv_gR g5 a0 8 4).bind fun v6 =>
    ((C0_begin d v6 g5).bind fun g7 =>
    ((zv_gR g7 a0 8 2).bind fun v8 =>
    ((C3_begin d v8 a1 g7).bind fun g9 =>
    ((zv_gR g9 a0 8 2).bind fun v10 =>
    ((zv_gR g9 a0 8 4).bind fun v11 =>
    ((C3_head d v10 v11 g9).bind fun g12 =>
    L8_load_54 d a0 a1 (0 : Int) g12)))))))))))) := by
  refine (zy_lim_eq zyS8_load _ _ _ _).trans ?_
  rfl
set_option maxRecDepth 100000 in
theorem qL8_load_54 (d : Nat) (a0 : Nat) (a1 : Int) (a2 : Int) (h : zv_H) : L8_load_54 d a0 a1 a2 h =
  (if a2 ≤ a1 then
    ((zv_gR h a0 8 2).bind fun v1 =>
    ((C3_more d v1 h).bind fun q2 =>
    (if q2.1 = 0 then
      L8_load_117 d a0 q2.2
    else
      ((zv_gR q2.2 a0 8 2).bind fun v3 =>
      ((C3_line d v3 q2.2).bind fun q4 =>
      (if q4.1 = 0 then
        L8_load_54 d a0 a1 (zv_w (a2 + 1)) q4.2
      else
        ((zv_gR q4.2 a0 8 4).bind fun v5 =>
        ((C8_done d a0 v5 q4.2).bind fun q6 =>
        (if q6.1 < 0 then
          ((zv_gR q6.2 a0 8 2).bind fun v7 =>
          ((C3_fail d v7 (7 : Int) q6.2).bind fun q8 =>
          L8_load_54 d a0 a1 (zv_w (a2 + 1)) q8.2))
        else
          ((zv_gR q6.2 a0 8 2).bind fun v9 =>
          ((C3_next d v9 q6.2).bind fun q10 =>
          L8_load_54 d a0 a1 (zv_w (a2 + 1)) q10.2)))))))))))
  else
    L8_load_117 d a0 h) := by
  refine (zy_lim_eq zyS8_load _ _ _ _).trans ?_
  rfl
set_option maxRecDepth 100000 in
theorem qL8_load_117 (d : Nat) (a0 : Nat) (h : zv_H) : L8_load_117 d a0 h =
  ((zv_gR h a0 8 2).bind fun v1 =>
  ((zv_gI h v1 3 8).bind fun v2 =>
  (if v2 = 0 then
    ((zv_gR h a0 8 3).bind fun v3 =>
    ((zv_gR h a0 8 4).bind fun v4 =>
    ((zv_pR h a0 8 3 v4).bind fun g5 =>
    ((zv_pR g5 a0 8 4 v3).bind fun g6 =>
    ((zv_gR g6 a0 8 3).bind fun v7 =>
    ((zv_gI g6 v7 0 12).bind fun v8 =>
    ((C8_given d a0 v8 g6).bind fun q9 =>
    (some (some (zv_i q9.1), q9.2)))))))))
  else
    ((C8_refused d a0 (9 : Int) h).bind fun q10 =>
    (some (some (zv_i q10.1), q10.2)))))) := by
  refine (zy_lim_eq zyS8_load _ _ _ _).trans ?_
  rfl
theorem zyS8_done : zy_srt 0 mc8_done.2.1 = true := by decide +kernel
set_option maxRecDepth 100000 in
theorem qE8_done (d : Nat) (a0 : Nat) (a1 : Nat) (h : zv_H) : E8_done d a0 a1 h =
  ((zv_gR h a0 8 2).bind fun v1 =>
  ((zv_gI h v1 3 10).bind fun v2 =>
  (if v2 = (0 : Int) then
    ((zv_gR h a0 8 2).bind fun v3 =>
    ((zv_gI h v3 3 11).bind fun v4 =>
    ((zv_gR h a0 8 2).bind fun v5 =>
    ((zv_gR h v5 3 1).bind fun v6 =>
    ((C0_putWord d a1 v4 v6 h).bind fun q7 =>
    (some (some (zv_i q7.1), q7.2)))))))
  else
  if v2 = (1 : Int) then
    ((zv_gR h a0 8 2).bind fun v8 =>
    ((zv_gI h v8 3 11).bind fun v9 =>
    ((zv_gR h a0 8 2).bind fun v10 =>
    ((zv_gI h v10 3 12).bind fun v11 =>
    ((C0_cutOut d a1 v9 v11 h).bind fun q12 =>
    (some (some (zv_i q12.1), q12.2)))))))
  else
  if v2 = (2 : Int) then
    ((zv_gR h a0 8 2).bind fun v13 =>
    ((zv_gI h v13 3 11).bind fun v14 =>
    ((C0_passTime d a1 v14 h).bind fun q15 =>
    (some (some (zv_i q15.1), q15.2)))))
  else
  if v2 = (3 : Int) then
    ((C0_stepBack d a1 h).bind fun q16 =>
    (some (some (zv_i q16.1), q16.2)))
  else
  if v2 = (4 : Int) then
    ((C0_stepOn d a1 h).bind fun q17 =>
    (some (some (zv_i q17.1), q17.2)))
  else
  if v2 = (5 : Int) then
    ((zv_gR h a0 8 2).bind fun v18 =>
    ((zv_gI h v18 3 11).bind fun v19 =>
    ((C0_goTo d a1 v19 h).bind fun q20 =>
    (some (some (zv_i q20.1), q20.2)))))
  else
  if v2 = (6 : Int) then
    ((zv_gR h a0 8 2).bind fun v21 =>
    ((zv_gR h v21 3 1).bind fun v22 =>
    ((C7_key d v22 h).bind fun q23 =>
    ((C0_nameHere d a1 q23.1 q23.2).bind fun q24 =>
    (some (some (zv_i q24.1), q24.2))))))
  else
  if v2 = (7 : Int) then
    ((zv_gR h a0 8 2).bind fun v25 =>
    ((zv_gI h v25 3 11).bind fun v26 =>
    ((C0_takeBack d a1 v26 h).bind fun q27 =>
    (some (some (zv_i q27.1), q27.2)))))
  else
  if v2 = (8 : Int) then
    ((zv_gR h a0 8 2).bind fun v28 =>
    ((zv_gI h v28 3 11).bind fun v29 =>
    ((C0_giveBack d a1 v29 h).bind fun q30 =>
    (some (some (zv_i q30.1), q30.2)))))
  else
  if v2 = (9 : Int) then
    ((zv_gR h a0 8 2).bind fun v31 =>
    ((zv_gI h v31 3 11).bind fun v32 =>
    ((C0_carryOver d a1 v32 h).bind fun q33 =>
    (some (some (zv_i q33.1), q33.2)))))
  else
  if v2 = (10 : Int) then
    ((zv_gR h a0 8 2).bind fun v34 =>
    ((zv_gI h v34 3 11).bind fun v35 =>
    ((C0_mergeIn d a1 v35 h).bind fun q36 =>
    (some (some (zv_i q36.1), q36.2)))))
  else
  if v2 = (11 : Int) then
    ((zv_gR h a0 8 2).bind fun v37 =>
    ((zv_gI h v37 3 11).bind fun v38 =>
    ((C0_pruneTo d a1 v38 h).bind fun q39 =>
    (some (some (zv_i q39.1), q39.2)))))
  else
    (some (some (zv_i (-1 : Int)), h))))) := by
  refine (zy_lim_eq zyS8_done _ _ _ _).trans ?_
  rfl
theorem zyS8_many : zy_srt 0 mc8_many.2.1 = true := by decide +kernel
set_option maxRecDepth 100000 in
theorem qE8_many (d : Nat) (a0 : Nat) (a1 : Int) (h : zv_H) : E8_many d a0 a1 h =
  (if a1 = (0 : Int) then
    ((zv_gR h a0 8 3).bind fun v1 =>
    ((zv_gI h v1 0 12).bind fun v2 =>
    ((C8_given d a0 v2 h).bind fun q3 =>
    (some (some (zv_i q3.1), q3.2)))))
  else
  if a1 = (1 : Int) then
    ((zv_gR h a0 8 3).bind fun v4 =>
    ((zv_gR h v4 0 10).bind fun v5 =>
    ((zv_gI h v5 5 0).bind fun v6 =>
    ((C8_given d a0 v6 h).bind fun q7 =>
    (some (some (zv_i q7.1), q7.2))))))
  else
  if a1 = (2 : Int) then
    ((zv_gR h a0 8 3).bind fun v8 =>
    ((zv_gI h v8 0 11).bind fun v9 =>
    ((C8_given d a0 v9 h).bind fun q10 =>
    (some (some (zv_i q10.1), q10.2)))))
  else
  if a1 = (3 : Int) then
    ((zv_gR h a0 8 3).bind fun v11 =>
    ((zv_gR h v11 0 10).bind fun v12 =>
    ((zv_gI h v12 5 12).bind fun v13 =>
    ((C8_given d a0 v13 h).bind fun q14 =>
    (some (some (zv_i q14.1), q14.2))))))
  else
  if a1 = (4 : Int) then
    ((zv_gR h a0 8 3).bind fun v15 =>
    ((C0_rowOfHere d v15 h).bind fun q16 =>
    ((zv_gI q16.2 q16.1 4 6).bind fun v17 =>
    ((C8_given d a0 v17 q16.2).bind fun q18 =>
    (some (some (zv_i q18.1), q18.2))))))
  else
  if a1 = (5 : Int) then
    ((zv_gR h a0 8 3).bind fun v19 =>
    ((zv_gR h v19 0 6).bind fun v20 =>
    ((zv_gI h v20 2 2).bind fun v21 =>
    ((C8_given d a0 v21 h).bind fun q22 =>
    (some (some (zv_i q22.1), q22.2))))))
  else
  if a1 = (6 : Int) then
    ((zv_gR h a0 8 3).bind fun v23 =>
    ((C0_leaves d v23 h).bind fun q24 =>
    ((C8_given d a0 q24.1 q24.2).bind fun q25 =>
    (some (some (zv_i q25.1), q25.2)))))
  else
  if a1 = (7 : Int) then
    ((zv_gR h a0 8 3).bind fun v26 =>
    ((C0_groups d v26 h).bind fun q27 =>
    ((C8_given d a0 q27.1 q27.2).bind fun q28 =>
    (some (some (zv_i q28.1), q28.2)))))
  else
  if a1 = (8 : Int) then
    ((zv_gR h a0 8 3).bind fun v29 =>
    ((C0_rowOfHere d v29 h).bind fun q30 =>
    ((C4_outOfForce d q30.1 q30.2).bind fun q31 =>
    ((C12_bitCount d q31.1 q31.2).bind fun q32 =>
    ((C8_given d a0 q32.1 q32.2).bind fun q33 =>
    (some (some (zv_i q33.1), q33.2)))))))
  else
  if a1 = (9 : Int) then
    ((zv_gR h a0 8 3).bind fun v34 =>
    ((zv_gR h v34 0 7).bind fun v35 =>
    ((zv_gI h v35 6 4).bind fun v36 =>
    ((C8_given d a0 v36 h).bind fun q37 =>
    (some (some (zv_i q37.1), q37.2))))))
  else
    ((C8_refused d a0 (1 : Int) h).bind fun q38 =>
    (some (some (zv_i q38.1), q38.2)))) := by
  refine (zy_lim_eq zyS8_many _ _ _ _).trans ?_
  rfl
theorem zyS8_letter : zy_srt 0 mc8_letter.2.1 = true := by decide +kernel
set_option maxRecDepth 100000 in
theorem qE8_letter (d : Nat) (a0 : Nat) (a1 : Int) (a2 : Int) (h : zv_H) : E8_letter d a0 a1 a2 h =
  (if a2 < 0 then
    ((C8_refused d a0 (1 : Int) h).bind fun q1 =>
    (some (some (zv_i q1.1), q1.2)))
  else
    ((zv_gR h a0 8 3).bind fun v2 =>
    ((C0_at d v2 a1 h).bind fun q3 =>
    (if q3.1 = 0 then
      ((C8_refused d a0 (2 : Int) q3.2).bind fun q4 =>
      (some (some (zv_i q4.1), q4.2)))
    else
      ((zv_gI q3.2 q3.1 5 12).bind fun v5 =>
      (if a2 < v5 then
        ((zv_gR q3.2 a0 8 3).bind fun v6 =>
        ((C0_letterAt d v6 q3.1 a2 q3.2).bind fun q7 =>
        ((C8_given d a0 q7.1 q7.2).bind fun q8 =>
        (some (some (zv_i q8.1), q8.2)))))
      else
        ((C8_refused d a0 (5 : Int) q3.2).bind fun q9 =>
        (some (some (zv_i q9.1), q9.2))))))))) := by
  refine (zy_lim_eq zyS8_letter _ _ _ _).trans ?_
  rfl
theorem zyS8_state : zy_srt 0 mc8_state.2.1 = true := by decide +kernel
set_option maxRecDepth 100000 in
theorem qE8_state (d : Nat) (a0 : Nat) (a1 : Int) (a2 : Int) (h : zv_H) : E8_state d a0 a1 a2 h =
  ((C8_within d a2 (0 : Int) (9 : Int) h).bind fun q1 =>
  (if q1.1 = 0 then
    ((C8_refused d a0 (1 : Int) q1.2).bind fun q2 =>
    (some (some (zv_i q2.1), q2.2)))
  else
    ((zv_gR q1.2 a0 8 3).bind fun v3 =>
    ((C0_at d v3 a1 q1.2).bind fun q4 =>
    (if q4.1 = 0 then
      ((C8_refused d a0 (2 : Int) q4.2).bind fun q5 =>
      (some (some (zv_i q5.1), q5.2)))
    else
      (if a2 = (0 : Int) then
        ((zv_gR q4.2 q4.1 5 4).bind fun v6 =>
        (if v6 = 0 then
          L8_state_107 d a0 (-1 : Int) q4.2
        else
          ((zv_gR q4.2 q4.1 5 4).bind fun v7 =>
          ((zv_gI q4.2 v7 5 0).bind fun v8 =>
          L8_state_107 d a0 v8 q4.2))))
      else
      if a2 = (1 : Int) then
        ((zv_gI q4.2 q4.1 5 6).bind fun v9 =>
        ((C8_given d a0 v9 q4.2).bind fun q10 =>
        (some (some (zv_i q10.1), q10.2))))
      else
      if a2 = (2 : Int) then
        ((zv_gI q4.2 q4.1 5 7).bind fun v11 =>
        ((C8_given d a0 v11 q4.2).bind fun q12 =>
        (some (some (zv_i q12.1), q12.2))))
      else
      if a2 = (3 : Int) then
        ((zv_gI q4.2 q4.1 5 8).bind fun v13 =>
        ((C8_given d a0 v13 q4.2).bind fun q14 =>
        (some (some (zv_i q14.1), q14.2))))
      else
      if a2 = (4 : Int) then
        ((zv_gI q4.2 q4.1 5 9).bind fun v15 =>
        ((C8_given d a0 v15 q4.2).bind fun q16 =>
        (some (some (zv_i q16.1), q16.2))))
      else
      if a2 = (5 : Int) then
        ((zv_gR q4.2 q4.1 5 5).bind fun v17 =>
        (if v17 = 0 then
          L8_state_166 d a0 (-1 : Int) q4.2
        else
          ((zv_gR q4.2 q4.1 5 5).bind fun v18 =>
          ((zv_gI q4.2 v18 5 0).bind fun v19 =>
          L8_state_166 d a0 v19 q4.2))))
      else
      if a2 = (6 : Int) then
        ((zv_gI q4.2 q4.1 5 11).bind fun v20 =>
        ((C8_given d a0 v20 q4.2).bind fun q21 =>
        (some (some (zv_i q21.1), q21.2))))
      else
      if a2 = (7 : Int) then
        ((zv_gI q4.2 q4.1 5 10).bind fun v22 =>
        ((C8_given d a0 v22 q4.2).bind fun q23 =>
        (some (some (zv_i q23.1), q23.2))))
      else
      if a2 = (8 : Int) then
        ((zv_gI q4.2 q4.1 5 12).bind fun v24 =>
        ((C8_given d a0 v24 q4.2).bind fun q25 =>
        (some (some (zv_i q25.1), q25.2))))
      else
        ((zv_gR q4.2 a0 8 3).bind fun v26 =>
        ((zv_gR q4.2 v26 0 6).bind fun v27 =>
        ((zv_gI q4.2 q4.1 5 0).bind fun v28 =>
        ((C2_countOf d v27 v28 q4.2).bind fun q29 =>
        ((C8_given d a0 q29.1 q29.2).bind fun q30 =>
        (some (some (zv_i q30.1), q30.2))))))))))))) := by
  refine (zy_lim_eq zyS8_state _ _ _ _).trans ?_
  rfl
set_option maxRecDepth 100000 in
theorem qL8_state_107 (d : Nat) (e0 : Nat) (e1 : Int) (h : zv_H) : L8_state_107 d e0 e1 h =
  ((C8_given d e0 e1 h).bind fun q1 =>
  (some (some (zv_i q1.1), q1.2))) := by
  refine (zy_lim_eq zyS8_state _ _ _ _).trans ?_
  rfl
set_option maxRecDepth 100000 in
theorem qL8_state_166 (d : Nat) (e0 : Nat) (e1 : Int) (h : zv_H) : L8_state_166 d e0 e1 h =
  ((C8_given d e0 e1 h).bind fun q1 =>
  (some (some (zv_i q1.1), q1.2))) := by
  refine (zy_lim_eq zyS8_state _ _ _ _).trans ?_
  rfl
theorem zyS8_child : zy_srt 0 mc8_child.2.1 = true := by decide +kernel
set_option maxRecDepth 100000 in
theorem qE8_child (d : Nat) (a0 : Nat) (a1 : Int) (a2 : Int) (h : zv_H) : E8_child d a0 a1 a2 h =
  (if a2 < 0 then
    ((C8_refused d a0 (1 : Int) h).bind fun q1 =>
    (some (some (zv_i q1.1), q1.2)))
  else
    ((zv_gR h a0 8 3).bind fun v2 =>
    ((C0_at d v2 a1 h).bind fun q3 =>
    (if q3.1 = 0 then
      ((C8_refused d a0 (2 : Int) q3.2).bind fun q4 =>
      (some (some (zv_i q4.1), q4.2)))
    else
      ((zv_gR q3.2 a0 8 3).bind fun v5 =>
      ((C0_childOf d v5 q3.1 a2 q3.2).bind fun q6 =>
      (if q6.1 = 0 then
        ((C8_refused d a0 (5 : Int) q6.2).bind fun q7 =>
        (some (some (zv_i q7.1), q7.2)))
      else
        ((zv_gI q6.2 q6.1 5 0).bind fun v8 =>
        ((C8_given d a0 v8 q6.2).bind fun q9 =>
        (some (some (zv_i q9.1), q9.2))))))))))) := by
  refine (zy_lim_eq zyS8_child _ _ _ _).trans ?_
  rfl
theorem zyS8_force : zy_srt 0 mc8_force.2.1 = true := by decide +kernel
set_option maxRecDepth 100000 in
theorem qE8_force (d : Nat) (a0 : Nat) (a1 : Int) (a2 : Int) (h : zv_H) : E8_force d a0 a1 a2 h =
  ((zv_gR h a0 8 3).bind fun v1 =>
  ((C0_at d v1 a1 h).bind fun q2 =>
  ((zv_gR q2.2 a0 8 3).bind fun v3 =>
  ((C0_at d v3 a2 q2.2).bind fun q4 =>
  (if q2.1 = 0 then
    L8_force_28 d a0 q4.2
  else
    (if q4.1 = 0 then
      L8_force_28 d a0 q4.2
    else
      ((zv_gR q4.2 a0 8 3).bind fun v5 =>
      ((zv_gR q4.2 v5 0 5).bind fun v6 =>
      ((C4_walk d v6 q4.1 q4.2).bind fun g7 =>
      ((zv_gJ g7 v6 4 8).bind fun v8 =>
      ((C5_bit d q2.1 g7).bind fun q9 =>
      (if (zv_lcmp (v8 &&& q9.1) (Int64.ofNat 0)) = 0 then
        ((C8_refused d a0 (5 : Int) q9.2).bind fun q10 =>
        (some (some (zv_i q10.1), q10.2)))
      else
        ((zv_gJ q9.2 v6 4 9).bind fun v11 =>
        ((C5_bit d q2.1 q9.2).bind fun q12 =>
        (if (zv_lcmp (v11 &&& q12.1) (Int64.ofNat 0)) = 0 then
          L8_force_92 d a0 (0 : Int) q12.2
        else
          L8_force_92 d a0 (1 : Int) q12.2))))))))))))))) := by
  refine (zy_lim_eq zyS8_force _ _ _ _).trans ?_
  rfl
set_option maxRecDepth 100000 in
theorem qL8_force_28 (d : Nat) (a0 : Nat) (h : zv_H) : L8_force_28 d a0 h =
  ((C8_refused d a0 (2 : Int) h).bind fun q1 =>
  (some (some (zv_i q1.1), q1.2))) := by
  refine (zy_lim_eq zyS8_force _ _ _ _).trans ?_
  rfl
set_option maxRecDepth 100000 in
theorem qL8_force_92 (d : Nat) (e0 : Nat) (e1 : Int) (h : zv_H) : L8_force_92 d e0 e1 h =
  ((C8_given d e0 e1 h).bind fun q1 =>
  (some (some (zv_i q1.1), q1.2))) := by
  refine (zy_lim_eq zyS8_force _ _ _ _).trans ?_
  rfl
theorem zyS8_blame : zy_srt 0 mc8_blame.2.1 = true := by decide +kernel
set_option maxRecDepth 100000 in
theorem qE8_blame (d : Nat) (a0 : Nat) (a1 : Int) (a2 : Int) (h : zv_H) : E8_blame d a0 a1 a2 h =
  (if a1 < 0 then
    L8_blame_13 d a0 h
  else
    ((C8_within d a2 (0 : Int) (2 : Int) h).bind fun q1 =>
    (if q1.1 = 0 then
      L8_blame_13 d a0 q1.2
    else
      ((zv_gR q1.2 a0 8 3).bind fun v2 =>
      ((zv_gR q1.2 v2 0 10).bind fun v3 =>
      ((C5_idAt d v3 a1 q1.2).bind fun q4 =>
      (if q4.1 = (-1 : Int) then
        ((C8_refused d a0 (5 : Int) q4.2).bind fun q5 =>
        (some (some (zv_i q5.1), q5.2)))
      else
        (if a2 = (0 : Int) then
          ((C4_putter d q4.1 q4.2).bind fun q6 =>
          ((C8_given d a0 q6.1 q6.2).bind fun q7 =>
          (some (some (zv_i q7.1), q7.2))))
        else
        if a2 = (1 : Int) then
          ((C4_order d q4.1 q4.2).bind fun q8 =>
          ((C8_given d a0 q8.1 q8.2).bind fun q9 =>
          (some (some (zv_i q9.1), q9.2))))
        else
          ((zv_gR q4.2 a0 8 3).bind fun v10 =>
          ((C0_rowOfHere d v10 q4.2).bind fun q11 =>
          ((C4_placeOf d q11.1 q4.1 q11.2).bind fun q12 =>
          ((C8_given d a0 q12.1 q12.2).bind fun q13 =>
          (some (some (zv_i q13.1), q13.2)))))))))))))) := by
  refine (zy_lim_eq zyS8_blame _ _ _ _).trans ?_
  rfl
set_option maxRecDepth 100000 in
theorem qL8_blame_13 (d : Nat) (a0 : Nat) (h : zv_H) : L8_blame_13 d a0 h =
  ((C8_refused d a0 (1 : Int) h).bind fun q1 =>
  (some (some (zv_i q1.1), q1.2))) := by
  refine (zy_lim_eq zyS8_blame _ _ _ _).trans ?_
  rfl
theorem zyS8_row : zy_srt 0 mc8_row.2.1 = true := by decide +kernel
set_option maxRecDepth 100000 in
theorem qE8_row (d : Nat) (a0 : Nat) (a1 : Int) (a2 : Int) (h : zv_H) : E8_row d a0 a1 a2 h =
  (if a1 < 0 then
    L8_row_13 d a0 h
  else
    ((C8_within d a2 (0 : Int) (4 : Int) h).bind fun q1 =>
    (if q1.1 = 0 then
      L8_row_13 d a0 q1.2
    else
      ((zv_gR q1.2 a0 8 3).bind fun v2 =>
      ((C0_rowOfHere d v2 q1.2).bind fun q3 =>
      ((C4_idAt d q3.1 a1 q3.2).bind fun q4 =>
      (if q4.1 = (-1 : Int) then
        ((C8_refused d a0 (5 : Int) q4.2).bind fun q5 =>
        (some (some (zv_i q5.1), q5.2)))
      else
        (if a2 = (0 : Int) then
          ((zv_gR q4.2 a0 8 3).bind fun v6 =>
          ((C0_glyph d v6 q4.1 q4.2).bind fun q7 =>
          ((C8_given d a0 q7.1 q7.2).bind fun q8 =>
          (some (some (zv_i q8.1), q8.2)))))
        else
        if a2 = (1 : Int) then
          ((C4_putter d q4.1 q4.2).bind fun q9 =>
          ((C8_given d a0 q9.1 q9.2).bind fun q10 =>
          (some (some (zv_i q10.1), q10.2))))
        else
        if a2 = (2 : Int) then
          ((C4_seesAt d q3.1 a1 q4.2).bind fun q11 =>
          (if q11.1 = 0 then
            L8_row_114 d a0 (0 : Int) q11.2
          else
            L8_row_114 d a0 (1 : Int) q11.2))
        else
        if a2 = (3 : Int) then
          ((C4_cutsInForce d q3.1 q4.1 q4.2).bind fun q12 =>
          ((C8_given d a0 q12.1 q12.2).bind fun q13 =>
          (some (some (zv_i q13.1), q13.2))))
        else
          ((C4_lastCut d q3.1 q4.1 q4.2).bind fun q14 =>
          ((C8_given d a0 q14.1 q14.2).bind fun q15 =>
          (some (some (zv_i q15.1), q15.2)))))))))))) := by
  refine (zy_lim_eq zyS8_row _ _ _ _).trans ?_
  rfl
set_option maxRecDepth 100000 in
theorem qL8_row_13 (d : Nat) (a0 : Nat) (h : zv_H) : L8_row_13 d a0 h =
  ((C8_refused d a0 (1 : Int) h).bind fun q1 =>
  (some (some (zv_i q1.1), q1.2))) := by
  refine (zy_lim_eq zyS8_row _ _ _ _).trans ?_
  rfl
set_option maxRecDepth 100000 in
theorem qL8_row_114 (d : Nat) (e0 : Nat) (e1 : Int) (h : zv_H) : L8_row_114 d e0 e1 h =
  ((C8_given d e0 e1 h).bind fun q1 =>
  (some (some (zv_i q1.1), q1.2))) := by
  refine (zy_lim_eq zyS8_row _ _ _ _).trans ?_
  rfl
theorem zyS8_visit : zy_srt 0 mc8_visit.2.1 = true := by decide +kernel
set_option maxRecDepth 100000 in
theorem qE8_visit (d : Nat) (a0 : Nat) (a1 : Int) (a2 : Int) (h : zv_H) : E8_visit d a0 a1 a2 h =
  ((C8_within d a1 (0 : Int) (39 : Int) h).bind fun q1 =>
  (if q1.1 = 0 then
    L8_visit_19 d a0 q1.2
  else
    ((C8_within d a2 (0 : Int) (1 : Int) q1.2).bind fun q2 =>
    (if q2.1 = 0 then
      L8_visit_19 d a0 q2.2
    else
      ((zv_gR q2.2 a0 8 3).bind fun v3 =>
      ((zv_gR q2.2 v3 0 7).bind fun v4 =>
      ((zv_gI q2.2 v4 6 4).bind fun v5 =>
      (if a1 < v5 then
        (if a2 = 0 then
          ((zv_gR q2.2 a0 8 3).bind fun v6 =>
          ((zv_gR q2.2 v6 0 7).bind fun v7 =>
          ((C6_stateAt d v7 a1 q2.2).bind fun q8 =>
          L8_visit_75 d a0 q8.1 q8.2)))
        else
          ((zv_gR q2.2 a0 8 3).bind fun v9 =>
          ((zv_gR q2.2 v9 0 7).bind fun v10 =>
          ((C6_timeAt d v10 a1 q2.2).bind fun q11 =>
          L8_visit_75 d a0 q11.1 q11.2))))
      else
        ((C8_refused d a0 (5 : Int) q2.2).bind fun q12 =>
        (some (some (zv_i q12.1), q12.2))))))))))) := by
  refine (zy_lim_eq zyS8_visit _ _ _ _).trans ?_
  rfl
set_option maxRecDepth 100000 in
theorem qL8_visit_19 (d : Nat) (a0 : Nat) (h : zv_H) : L8_visit_19 d a0 h =
  ((C8_refused d a0 (1 : Int) h).bind fun q1 =>
  (some (some (zv_i q1.1), q1.2))) := by
  refine (zy_lim_eq zyS8_visit _ _ _ _).trans ?_
  rfl
set_option maxRecDepth 100000 in
theorem qL8_visit_75 (d : Nat) (e0 : Nat) (e1 : Int) (h : zv_H) : L8_visit_75 d e0 e1 h =
  ((C8_given d e0 e1 h).bind fun q1 =>
  (some (some (zv_i q1.1), q1.2))) := by
  refine (zy_lim_eq zyS8_visit _ _ _ _).trans ?_
  rfl
theorem zyS8_named : zy_srt 0 mc8_named.2.1 = true := by decide +kernel
set_option maxRecDepth 100000 in
theorem qE8_named (d : Nat) (a0 : Nat) (h : zv_H) : E8_named d a0 h =
  ((zv_gR h a0 8 1).bind fun v1 =>
  ((C7_key d v1 h).bind fun q2 =>
  (if q2.1 = 0 then
    ((C8_refused d a0 (1 : Int) q2.2).bind fun q3 =>
    (some (some (zv_i q3.1), q3.2)))
  else
    ((zv_gR q2.2 a0 8 3).bind fun v4 =>
    ((zv_gR q2.2 v4 0 6).bind fun v5 =>
    ((C2_indexOf d v5 q2.1 q2.2).bind fun q6 =>
    (if q6.1 < 0 then
      ((C8_refused d a0 (5 : Int) q6.2).bind fun q7 =>
      (some (some (zv_i q7.1), q7.2)))
    else
      ((zv_gR q6.2 a0 8 3).bind fun v8 =>
      ((zv_gR q6.2 v8 0 6).bind fun v9 =>
      ((C2_ownerAt d v9 q6.1 q6.2).bind fun q10 =>
      ((C8_given d a0 q10.1 q10.2).bind fun q11 =>
      (some (some (zv_i q11.1), q11.2))))))))))))) := by
  refine (zy_lim_eq zyS8_named _ _ _ _).trans ?_
  rfl
theorem zyS8_leans : zy_srt 0 mc8_leans.2.1 = true := by decide +kernel
set_option maxRecDepth 100000 in
theorem qE8_leans (d : Nat) (a0 : Nat) (a1 : Int) (a2 : Int) (h : zv_H) : E8_leans d a0 a1 a2 h =
  ((zv_gR h a0 8 3).bind fun v1 =>
  ((C0_at d v1 a1 h).bind fun q2 =>
  ((zv_gR q2.2 a0 8 3).bind fun v3 =>
  ((C0_at d v3 a2 q2.2).bind fun q4 =>
  (if q2.1 = 0 then
    L8_leans_28 d a0 q4.2
  else
    (if q4.1 = 0 then
      L8_leans_28 d a0 q4.2
    else
      ((zv_gI q4.2 q2.1 5 10).bind fun v5 =>
      ((zv_gI q4.2 q4.1 5 10).bind fun v6 =>
      (if v5 < v6 then
        L8_leans_52 d a0 q2.1 q4.1 q4.1 q4.2
      else
        L8_leans_52 d a0 q2.1 q4.1 q2.1 q4.2))))))))) := by
  refine (zy_lim_eq zyS8_leans _ _ _ _).trans ?_
  rfl
set_option maxRecDepth 100000 in
theorem qL8_leans_28 (d : Nat) (a0 : Nat) (h : zv_H) : L8_leans_28 d a0 h =
  ((C8_refused d a0 (2 : Int) h).bind fun q1 =>
  (some (some (zv_i q1.1), q1.2))) := by
  refine (zy_lim_eq zyS8_leans _ _ _ _).trans ?_
  rfl
set_option maxRecDepth 100000 in
theorem qL8_leans_52 (d : Nat) (a0 : Nat) (a3 : Nat) (a4 : Nat) (e0 : Nat) (h : zv_H) : L8_leans_52 d a0 a3 a4 e0 h =
  (if 1000000 ≤ e0 ∨ 1000000 ≤ a3 then none else
  if e0 = a3 then
    L8_leans_66 d a0 e0 a4 h
  else
    L8_leans_66 d a0 e0 a3 h) := by
  refine (zy_lim_eq zyS8_leans _ _ _ _).trans ?_
  rfl
set_option maxRecDepth 100000 in
theorem qL8_leans_66 (d : Nat) (a0 : Nat) (a5 : Nat) (e0 : Nat) (h : zv_H) : L8_leans_66 d a0 a5 e0 h =
  ((C5_edits d a5 h).bind fun q1 =>
  (if q1.1 = 0 then
    L8_leans_94 d a0 q1.2
  else
    ((C5_edits d e0 q1.2).bind fun q2 =>
    (if q2.1 = 0 then
      L8_leans_94 d a0 q2.2
    else
      ((C0_onLine d e0 a5 q2.2).bind fun q3 =>
      (if q3.1 = 0 then
        L8_leans_94 d a0 q3.2
      else
        ((zv_gJ q3.2 a5 5 17).bind fun v4 =>
        ((C5_bit d e0 q3.2).bind fun q5 =>
        (if (zv_lcmp (v4 &&& q5.1) (Int64.ofNat 0)) = 0 then
          L8_leans_122 d a0 (0 : Int) q5.2
        else
          L8_leans_122 d a0 (1 : Int) q5.2))))))))) := by
  refine (zy_lim_eq zyS8_leans _ _ _ _).trans ?_
  rfl
set_option maxRecDepth 100000 in
theorem qL8_leans_94 (d : Nat) (a0 : Nat) (h : zv_H) : L8_leans_94 d a0 h =
  ((C8_refused d a0 (5 : Int) h).bind fun q1 =>
  (some (some (zv_i q1.1), q1.2))) := by
  refine (zy_lim_eq zyS8_leans _ _ _ _).trans ?_
  rfl
set_option maxRecDepth 100000 in
theorem qL8_leans_122 (d : Nat) (e0 : Nat) (e1 : Int) (h : zv_H) : L8_leans_122 d e0 e1 h =
  ((C8_given d e0 e1 h).bind fun q1 =>
  (some (some (zv_i q1.1), q1.2))) := by
  refine (zy_lim_eq zyS8_leans _ _ _ _).trans ?_
  rfl
theorem zyS8_put : zy_srt 0 mc8_put.2.1 = true := by decide +kernel
set_option maxRecDepth 100000 in
theorem qE8_put (d : Nat) (a0 : Nat) (a1 : Int) (h : zv_H) : E8_put d a0 a1 h =
  ((zv_gR h a0 8 3).bind fun v1 =>
  ((zv_gR h a0 8 1).bind fun v2 =>
  ((C0_putWord d v1 a1 v2 h).bind fun q3 =>
  ((C8_answered d a0 q3.1 q3.2).bind fun q4 =>
  (some (some (zv_i q4.1), q4.2)))))) := by
  refine (zy_lim_eq zyS8_put _ _ _ _).trans ?_
  rfl
theorem zyS8_cut : zy_srt 0 mc8_cut.2.1 = true := by decide +kernel
set_option maxRecDepth 100000 in
theorem qE8_cut (d : Nat) (a0 : Nat) (a1 : Int) (a2 : Int) (h : zv_H) : E8_cut d a0 a1 a2 h =
  ((zv_gR h a0 8 3).bind fun v1 =>
  ((C0_cutOut d v1 a1 a2 h).bind fun q2 =>
  ((C8_answered d a0 q2.1 q2.2).bind fun q3 =>
  (some (some (zv_i q3.1), q3.2))))) := by
  refine (zy_lim_eq zyS8_cut _ _ _ _).trans ?_
  rfl
theorem zyS8_wait : zy_srt 0 mc8_wait.2.1 = true := by decide +kernel
set_option maxRecDepth 100000 in
theorem qE8_wait (d : Nat) (a0 : Nat) (a1 : Int) (h : zv_H) : E8_wait d a0 a1 h =
  ((zv_gR h a0 8 3).bind fun v1 =>
  ((C0_passTime d v1 a1 h).bind fun q2 =>
  ((C8_answered d a0 q2.1 q2.2).bind fun q3 =>
  (some (some (zv_i q3.1), q3.2))))) := by
  refine (zy_lim_eq zyS8_wait _ _ _ _).trans ?_
  rfl
theorem zyS8_undo : zy_srt 0 mc8_undo.2.1 = true := by decide +kernel
set_option maxRecDepth 100000 in
theorem qE8_undo (d : Nat) (a0 : Nat) (h : zv_H) : E8_undo d a0 h =
  ((zv_gR h a0 8 3).bind fun v1 =>
  ((C0_stepBack d v1 h).bind fun q2 =>
  ((C8_answered d a0 q2.1 q2.2).bind fun q3 =>
  (some (some (zv_i q3.1), q3.2))))) := by
  refine (zy_lim_eq zyS8_undo _ _ _ _).trans ?_
  rfl
theorem zyS8_redo : zy_srt 0 mc8_redo.2.1 = true := by decide +kernel
set_option maxRecDepth 100000 in
theorem qE8_redo (d : Nat) (a0 : Nat) (h : zv_H) : E8_redo d a0 h =
  ((zv_gR h a0 8 3).bind fun v1 =>
  ((C0_stepOn d v1 h).bind fun q2 =>
  ((C8_answered d a0 q2.1 q2.2).bind fun q3 =>
  (some (some (zv_i q3.1), q3.2))))) := by
  refine (zy_lim_eq zyS8_redo _ _ _ _).trans ?_
  rfl
theorem zyS8_go : zy_srt 0 mc8_go.2.1 = true := by decide +kernel
set_option maxRecDepth 100000 in
theorem qE8_go (d : Nat) (a0 : Nat) (a1 : Int) (h : zv_H) : E8_go d a0 a1 h =
  ((zv_gR h a0 8 3).bind fun v1 =>
  ((C0_goTo d v1 a1 h).bind fun q2 =>
  ((C8_answered d a0 q2.1 q2.2).bind fun q3 =>
  (some (some (zv_i q3.1), q3.2))))) := by
  refine (zy_lim_eq zyS8_go _ _ _ _).trans ?_
  rfl
theorem zyS8_name : zy_srt 0 mc8_name.2.1 = true := by decide +kernel
set_option maxRecDepth 100000 in
theorem qE8_name (d : Nat) (a0 : Nat) (h : zv_H) : E8_name d a0 h =
  ((zv_gR h a0 8 3).bind fun v1 =>
  ((zv_gR h a0 8 1).bind fun v2 =>
  ((C7_key d v2 h).bind fun q3 =>
  ((C0_nameHere d v1 q3.1 q3.2).bind fun q4 =>
  ((C8_answered d a0 q4.1 q4.2).bind fun q5 =>
  (some (some (zv_i q5.1), q5.2))))))) := by
  refine (zy_lim_eq zyS8_name _ _ _ _).trans ?_
  rfl
theorem zyS8_unname : zy_srt 0 mc8_unname.2.1 = true := by decide +kernel
set_option maxRecDepth 100000 in
theorem qE8_unname (d : Nat) (a0 : Nat) (h : zv_H) : E8_unname d a0 h =
  ((zv_gR h a0 8 3).bind fun v1 =>
  ((zv_gR h a0 8 1).bind fun v2 =>
  ((C7_key d v2 h).bind fun q3 =>
  ((C0_dropName d v1 q3.1 q3.2).bind fun q4 =>
  ((C8_answered d a0 q4.1 q4.2).bind fun q5 =>
  (some (some (zv_i q5.1), q5.2))))))) := by
  refine (zy_lim_eq zyS8_unname _ _ _ _).trans ?_
  rfl
theorem zyS8_withdraw : zy_srt 0 mc8_withdraw.2.1 = true := by decide +kernel
set_option maxRecDepth 100000 in
theorem qE8_withdraw (d : Nat) (a0 : Nat) (a1 : Int) (h : zv_H) : E8_withdraw d a0 a1 h =
  ((zv_gR h a0 8 3).bind fun v1 =>
  ((C0_takeBack d v1 a1 h).bind fun q2 =>
  ((C8_answered d a0 q2.1 q2.2).bind fun q3 =>
  (some (some (zv_i q3.1), q3.2))))) := by
  refine (zy_lim_eq zyS8_withdraw _ _ _ _).trans ?_
  rfl
theorem zyS8_restore : zy_srt 0 mc8_restore.2.1 = true := by decide +kernel
set_option maxRecDepth 100000 in
theorem qE8_restore (d : Nat) (a0 : Nat) (a1 : Int) (h : zv_H) : E8_restore d a0 a1 h =
  ((zv_gR h a0 8 3).bind fun v1 =>
  ((C0_giveBack d v1 a1 h).bind fun q2 =>
  ((C8_answered d a0 q2.1 q2.2).bind fun q3 =>
  (some (some (zv_i q3.1), q3.2))))) := by
  refine (zy_lim_eq zyS8_restore _ _ _ _).trans ?_
  rfl
theorem zyS8_carry : zy_srt 0 mc8_carry.2.1 = true := by decide +kernel
set_option maxRecDepth 100000 in
theorem qE8_carry (d : Nat) (a0 : Nat) (a1 : Int) (h : zv_H) : E8_carry d a0 a1 h =
  ((zv_gR h a0 8 3).bind fun v1 =>
  ((C0_carryOver d v1 a1 h).bind fun q2 =>
  ((C8_answered d a0 q2.1 q2.2).bind fun q3 =>
  (some (some (zv_i q3.1), q3.2))))) := by
  refine (zy_lim_eq zyS8_carry _ _ _ _).trans ?_
  rfl
theorem zyS8_merge : zy_srt 0 mc8_merge.2.1 = true := by decide +kernel
set_option maxRecDepth 100000 in
theorem qE8_merge (d : Nat) (a0 : Nat) (a1 : Int) (h : zv_H) : E8_merge d a0 a1 h =
  ((zv_gR h a0 8 3).bind fun v1 =>
  ((C0_mergeIn d v1 a1 h).bind fun q2 =>
  ((C8_answered d a0 q2.1 q2.2).bind fun q3 =>
  (some (some (zv_i q3.1), q3.2))))) := by
  refine (zy_lim_eq zyS8_merge _ _ _ _).trans ?_
  rfl
theorem zyS8_prune : zy_srt 0 mc8_prune.2.1 = true := by decide +kernel
set_option maxRecDepth 100000 in
theorem qE8_prune (d : Nat) (a0 : Nat) (a1 : Int) (h : zv_H) : E8_prune d a0 a1 h =
  ((zv_gR h a0 8 3).bind fun v1 =>
  ((C0_pruneTo d v1 a1 h).bind fun q2 =>
  ((C8_answered d a0 q2.1 q2.2).bind fun q3 =>
  (some (some (zv_i q3.1), q3.2))))) := by
  refine (zy_lim_eq zyS8_prune _ _ _ _).trans ?_
  rfl
theorem zyS8_common : zy_srt 0 mc8_common.2.1 = true := by decide +kernel
set_option maxRecDepth 100000 in
theorem qE8_common (d : Nat) (a0 : Nat) (a1 : Int) (a2 : Int) (h : zv_H) : E8_common d a0 a1 a2 h =
  ((zv_gR h a0 8 3).bind fun v1 =>
  ((C0_at d v1 a1 h).bind fun q2 =>
  ((zv_gR q2.2 a0 8 3).bind fun v3 =>
  ((C0_at d v3 a2 q2.2).bind fun q4 =>
  (if q2.1 = 0 then
    L8_common_28 d a0 q4.2
  else
    (if q4.1 = 0 then
      L8_common_28 d a0 q4.2
    else
      ((C0_nearest d q2.1 q4.1 q4.2).bind fun q5 =>
      ((zv_gI q5.2 q5.1 5 0).bind fun v6 =>
      ((C8_given d a0 v6 q5.2).bind fun q7 =>
      (some (some (zv_i q7.1), q7.2))))))))))) := by
  refine (zy_lim_eq zyS8_common _ _ _ _).trans ?_
  rfl
set_option maxRecDepth 100000 in
theorem qL8_common_28 (d : Nat) (a0 : Nat) (h : zv_H) : L8_common_28 d a0 h =
  ((C8_refused d a0 (2 : Int) h).bind fun q1 =>
  (some (some (zv_i q1.1), q1.2))) := by
  refine (zy_lim_eq zyS8_common _ _ _ _).trans ?_
  rfl
theorem zyS8_way : zy_srt 0 mc8_way.2.1 = true := by decide +kernel
set_option maxRecDepth 100000 in
theorem qE8_way (d : Nat) (a0 : Nat) (a1 : Int) (a2 : Int) (a3 : Int) (h : zv_H) : E8_way d a0 a1 a2 a3 h =
  (if a3 < 0 then
    ((C8_refused d a0 (1 : Int) h).bind fun q1 =>
    (some (some (zv_i q1.1), q1.2)))
  else
    ((zv_gR h a0 8 3).bind fun v2 =>
    ((C0_at d v2 a1 h).bind fun q3 =>
    ((zv_gR q3.2 a0 8 3).bind fun v4 =>
    ((C0_at d v4 a2 q3.2).bind fun q5 =>
    (if q3.1 = 0 then
      L8_way_40 d a0 q5.2
    else
      (if q5.1 = 0 then
        L8_way_40 d a0 q5.2
      else
        ((C0_onWay d q3.1 q5.1 a3 q5.2).bind fun q6 =>
        (if q6.1 = 0 then
          ((C8_refused d a0 (5 : Int) q6.2).bind fun q7 =>
          (some (some (zv_i q7.1), q7.2)))
        else
          ((zv_gI q6.2 q6.1 5 0).bind fun v8 =>
          ((C8_given d a0 v8 q6.2).bind fun q9 =>
          (some (some (zv_i q9.1), q9.2))))))))))))) := by
  refine (zy_lim_eq zyS8_way _ _ _ _).trans ?_
  rfl
set_option maxRecDepth 100000 in
theorem qL8_way_40 (d : Nat) (a0 : Nat) (h : zv_H) : L8_way_40 d a0 h =
  ((C8_refused d a0 (2 : Int) h).bind fun q1 =>
  (some (some (zv_i q1.1), q1.2))) := by
  refine (zy_lim_eq zyS8_way _ _ _ _).trans ?_
  rfl
theorem zyS8_between : zy_srt 0 mc8_between.2.1 = true := by decide +kernel
set_option maxRecDepth 100000 in
theorem qE8_between (d : Nat) (a0 : Nat) (a1 : Int) (a2 : Int) (a3 : Int) (h : zv_H) : E8_between d a0 a1 a2 a3 h =
  ((C8_within d a3 (0 : Int) (3 : Int) h).bind fun q1 =>
  (if q1.1 = 0 then
    ((C8_refused d a0 (1 : Int) q1.2).bind fun q2 =>
    (some (some (zv_i q2.1), q2.2)))
  else
    ((zv_gR q1.2 a0 8 3).bind fun v3 =>
    ((C0_at d v3 a1 q1.2).bind fun q4 =>
    ((zv_gR q4.2 a0 8 3).bind fun v5 =>
    ((C0_at d v5 a2 q4.2).bind fun q6 =>
    (if q4.1 = 0 then
      L8_between_45 d a0 q6.2
    else
      (if q6.1 = 0 then
        L8_between_45 d a0 q6.2
      else
        (if a3 = (0 : Int) then
          ((zv_gR q6.2 a0 8 3).bind fun v7 =>
          ((C0_keptOf d v7 q4.1 q6.1 q6.2).bind fun q8 =>
          ((C8_given d a0 q8.1 q8.2).bind fun q9 =>
          (some (some (zv_i q9.1), q9.2)))))
        else
        if a3 = (1 : Int) then
          ((zv_gI q6.2 q4.1 5 12).bind fun v10 =>
          ((zv_gR q6.2 a0 8 3).bind fun v11 =>
          ((C0_keptOf d v11 q4.1 q6.1 q6.2).bind fun q12 =>
          ((C8_given d a0 (zv_w (v10 - q12.1)) q12.2).bind fun q13 =>
          (some (some (zv_i q13.1), q13.2))))))
        else
        if a3 = (2 : Int) then
          ((zv_gI q6.2 q6.1 5 12).bind fun v14 =>
          ((zv_gR q6.2 a0 8 3).bind fun v15 =>
          ((C0_keptOf d v15 q4.1 q6.1 q6.2).bind fun q16 =>
          ((C8_given d a0 (zv_w (v14 - q16.1)) q16.2).bind fun q17 =>
          (some (some (zv_i q17.1), q17.2))))))
        else
          ((zv_gR q6.2 a0 8 3).bind fun v18 =>
          ((C0_firstDifference d v18 q4.1 q6.1 q6.2).bind fun q19 =>
          ((C8_given d a0 q19.1 q19.2).bind fun q20 =>
          (some (some (zv_i q20.1), q20.2)))))))))))))) := by
  refine (zy_lim_eq zyS8_between _ _ _ _).trans ?_
  rfl
set_option maxRecDepth 100000 in
theorem qL8_between_45 (d : Nat) (a0 : Nat) (h : zv_H) : L8_between_45 d a0 h =
  ((C8_refused d a0 (2 : Int) h).bind fun q1 =>
  (some (some (zv_i q1.1), q1.2))) := by
  refine (zy_lim_eq zyS8_between _ _ _ _).trans ?_
  rfl
theorem zyS8_least : zy_srt 0 mc8_least.2.1 = true := by decide +kernel
set_option maxRecDepth 100000 in
theorem qE8_least (d : Nat) (a0 : Nat) (a1 : Int) (a2 : Int) (h : zv_H) : E8_least d a0 a1 a2 h =
  ((zv_gR h a0 8 3).bind fun v1 =>
  ((C0_at d v1 a1 h).bind fun q2 =>
  ((zv_gR q2.2 a0 8 3).bind fun v3 =>
  ((C0_at d v3 a2 q2.2).bind fun q4 =>
  (if q2.1 = 0 then
    L8_least_28 d a0 q4.2
  else
    (if q4.1 = 0 then
      L8_least_28 d a0 q4.2
    else
      ((zv_gI q4.2 q2.1 5 12).bind fun v5 =>
      ((zv_gI q4.2 q4.1 5 12).bind fun v6 =>
      ((zv_gR q4.2 a0 8 3).bind fun v7 =>
      ((C0_longestCommon d v7 q2.1 q4.1 q4.2).bind fun q8 =>
      ((C8_given d a0 (zv_w ((zv_w (v5 + v6)) - (zv_w ((2 : Int) * q8.1)))) q8.2).bind fun q9 =>
      (some (some (zv_i q9.1), q9.2))))))))))))) := by
  refine (zy_lim_eq zyS8_least _ _ _ _).trans ?_
  rfl
set_option maxRecDepth 100000 in
theorem qL8_least_28 (d : Nat) (a0 : Nat) (h : zv_H) : L8_least_28 d a0 h =
  ((C8_refused d a0 (2 : Int) h).bind fun q1 =>
  (some (some (zv_i q1.1), q1.2))) := by
  refine (zy_lim_eq zyS8_least _ _ _ _).trans ?_
  rfl
theorem zyS8_merges : zy_srt 0 mc8_merges.2.1 = true := by decide +kernel
set_option maxRecDepth 100000 in
theorem qE8_merges (d : Nat) (a0 : Nat) (a1 : Int) (a2 : Int) (h : zv_H) : E8_merges d a0 a1 a2 h =
  ((C8_within d a2 (0 : Int) (2 : Int) h).bind fun q1 =>
  (if q1.1 = 0 then
    ((C8_refused d a0 (1 : Int) q1.2).bind fun q2 =>
    (some (some (zv_i q2.1), q2.2)))
  else
    ((zv_gR q1.2 a0 8 3).bind fun v3 =>
    ((C0_mergeOnPaper d v3 a1 a2 q1.2).bind fun q4 =>
    ((C8_answered d a0 q4.1 q4.2).bind fun q5 =>
    (some (some (zv_i q5.1), q5.2))))))) := by
  refine (zy_lim_eq zyS8_merges _ _ _ _).trans ?_
  rfl
theorem zyS8_tell : zy_srt 0 mc8_tell.2.1 = true := by decide +kernel
set_option maxRecDepth 100000 in
theorem qE8_tell (d : Nat) (a0 : Nat) (a1 : Int) (h : zv_H) : E8_tell d a0 a1 h =
  ((C8_within d a1 (0 : Int) (2 : Int) h).bind fun q1 =>
  (if q1.1 = 0 then
    ((C8_refused d a0 (1 : Int) q1.2).bind fun q2 =>
    (some (some (zv_i q2.1), q2.2)))
  else
    ((zv_pI q1.2 a0 8 5 (0 : Int)).bind fun g3 =>
    (if a1 = 0 then
      ((C8_tellDocument d a0 g3).bind fun g4 =>
      L8_tell_47 d a0 g4)
    else
      (if a1 = (1 : Int) then
        ((C8_tellLine d a0 g3).bind fun g5 =>
        L8_tell_47 d a0 g5)
      else
        ((C8_tellNames d a0 g3).bind fun g6 =>
        L8_tell_47 d a0 g6)))))) := by
  refine (zy_lim_eq zyS8_tell _ _ _ _).trans ?_
  rfl
set_option maxRecDepth 100000 in
theorem qL8_tell_47 (d : Nat) (a0 : Nat) (h : zv_H) : L8_tell_47 d a0 h =
  ((zv_gI h a0 8 5).bind fun v1 =>
  ((C8_given d a0 v1 h).bind fun q2 =>
  (some (some (zv_i q2.1), q2.2)))) := by
  refine (zy_lim_eq zyS8_tell _ _ _ _).trans ?_
  rfl
theorem zyS8_tellDocument : zy_srt 0 mc8_tellDocument.2.1 = true := by decide +kernel
set_option maxRecDepth 100000 in
theorem qE8_tellDocument (d : Nat) (a0 : Nat) (h : zv_H) : E8_tellDocument d a0 h =
  ((zv_gR h a0 8 3).bind fun v1 =>
  ((zv_gR h v1 0 10).bind fun v2 =>
  L8_tellDocument_10 d a0 v2 (0 : Int) h)) := by
  refine (zy_lim_eq zyS8_tellDocument _ _ _ _).trans ?_
  rfl
set_option maxRecDepth 100000 in
theorem qL8_tellDocument_10 (d : Nat) (a0 : Nat) (a1 : Nat) (a2 : Int) (h : zv_H) : L8_tellDocument_10 d a0 a1 a2 h =
  ((zv_gI h a1 5 12).bind fun v1 =>
  (if a2 < v1 then
    ((zv_gR h a0 8 3).bind fun v2 =>
    ((C0_letterAt d v2 a1 a2 h).bind fun q3 =>
    ((C8_tellByte d a0 (zv_w ((97 : Int) + q3.1)) q3.2).bind fun g4 =>
    L8_tellDocument_10 d a0 a1 (zv_w (a2 + 1)) g4)))
  else
    (some (none, h)))) := by
  refine (zy_lim_eq zyS8_tellDocument _ _ _ _).trans ?_
  rfl
theorem zyS8_tellLine : zy_srt 0 mc8_tellLine.2.1 = true := by decide +kernel
set_option maxRecDepth 100000 in
theorem qE8_tellLine (d : Nat) (a0 : Nat) (h : zv_H) : E8_tellLine d a0 h =
  ((zv_gR h a0 8 3).bind fun v1 =>
  ((C0_rowOfHere d v1 h).bind fun q2 =>
  L8_tellLine_10 d a0 q2.1 (0 : Int) q2.2)) := by
  refine (zy_lim_eq zyS8_tellLine _ _ _ _).trans ?_
  rfl
set_option maxRecDepth 100000 in
theorem qL8_tellLine_10 (d : Nat) (a0 : Nat) (a1 : Nat) (a2 : Int) (h : zv_H) : L8_tellLine_10 d a0 a1 a2 h =
  ((zv_gI h a1 4 5).bind fun v1 =>
  (if a2 < v1 then
    (if a2 ≤ 0 then
      L8_tellLine_28 d a0 a1 a2 h
    else
      ((C8_tellByte d a0 (60 : Int) h).bind fun g2 =>
      L8_tellLine_28 d a0 a1 a2 g2))
  else
    (some (none, h)))) := by
  refine (zy_lim_eq zyS8_tellLine _ _ _ _).trans ?_
  rfl
set_option maxRecDepth 100000 in
theorem qL8_tellLine_28 (d : Nat) (a0 : Nat) (a1 : Nat) (a2 : Int) (h : zv_H) : L8_tellLine_28 d a0 a1 a2 h =
  ((C4_numberAt d a1 a2 h).bind fun q1 =>
  ((C8_tellNumber d a0 q1.1 q1.2).bind fun g2 =>
  L8_tellLine_10 d a0 a1 (zv_w (a2 + 1)) g2)) := by
  refine (zy_lim_eq zyS8_tellLine _ _ _ _).trans ?_
  rfl
theorem zyS8_tellNames : zy_srt 0 mc8_tellNames.2.1 = true := by decide +kernel
set_option maxRecDepth 100000 in
theorem qE8_tellNames (d : Nat) (a0 : Nat) (h : zv_H) : E8_tellNames d a0 h =
  ((zv_gR h a0 8 3).bind fun v1 =>
  ((zv_gR h v1 0 6).bind fun v2 =>
  L8_tellNames_10 d a0 v2 (0 : Int) h)) := by
  refine (zy_lim_eq zyS8_tellNames _ _ _ _).trans ?_
  rfl
set_option maxRecDepth 100000 in
theorem qL8_tellNames_10 (d : Nat) (a0 : Nat) (a1 : Nat) (a2 : Int) (h : zv_H) : L8_tellNames_10 d a0 a1 a2 h =
  ((zv_gI h a1 2 2).bind fun v1 =>
  (if a2 < v1 then
    (if a2 ≤ 0 then
      L8_tellNames_28 d a0 a1 a2 h
    else
      ((C8_tellByte d a0 (32 : Int) h).bind fun g2 =>
      L8_tellNames_28 d a0 a1 a2 g2))
  else
    (some (none, h)))) := by
  refine (zy_lim_eq zyS8_tellNames _ _ _ _).trans ?_
  rfl
set_option maxRecDepth 100000 in
theorem qL8_tellNames_28 (d : Nat) (a0 : Nat) (a1 : Nat) (a2 : Int) (h : zv_H) : L8_tellNames_28 d a0 a1 a2 h =
  ((C2_keyAt d a1 a2 h).bind fun q1 =>
  L8_tellNames_34 d a0 a1 a2 q1.1 q1.2) := by
  refine (zy_lim_eq zyS8_tellNames _ _ _ _).trans ?_
  rfl
set_option maxRecDepth 100000 in
theorem qL8_tellNames_34 (d : Nat) (a0 : Nat) (a1 : Nat) (a2 : Int) (a3 : Int) (h : zv_H) : L8_tellNames_34 d a0 a1 a2 a3 h =
  (if a3 ≤ 0 then
    ((C8_tellByte d a0 (61 : Int) h).bind fun g1 =>
    ((C2_ownerAt d a1 a2 g1).bind fun q2 =>
    ((C8_tellNumber d a0 q2.1 q2.2).bind fun g3 =>
    L8_tellNames_10 d a0 a1 (zv_w (a2 + 1)) g3)))
  else
    ((C8_tellByte d a0 (zv_w ((96 : Int) + (zv_and a3 (31 : Int)))) h).bind fun g4 =>
    L8_tellNames_34 d a0 a1 a2 (zv_ushr a3 (5 : Int)) g4)) := by
  refine (zy_lim_eq zyS8_tellNames _ _ _ _).trans ?_
  rfl
theorem zyS8_tellNumber : zy_srt 0 mc8_tellNumber.2.1 = true := by decide +kernel
set_option maxRecDepth 100000 in
theorem qE8_tellNumber (d : Nat) (a0 : Nat) (a1 : Int) (h : zv_H) : E8_tellNumber d a0 a1 h =
  (if a1 < (10 : Int) then
    L8_tellNumber_17 d a0 a1 h
  else
    ((C8_tellByte d a0 (zv_w ((48 : Int) + (zv_w ((a1).tdiv (10 : Int))))) h).bind fun g1 =>
    L8_tellNumber_17 d a0 a1 g1)) := by
  refine (zy_lim_eq zyS8_tellNumber _ _ _ _).trans ?_
  rfl
set_option maxRecDepth 100000 in
theorem qL8_tellNumber_17 (d : Nat) (a0 : Nat) (a1 : Int) (h : zv_H) : L8_tellNumber_17 d a0 a1 h =
  ((C8_tellByte d a0 (zv_w ((48 : Int) + ((a1).tmod (10 : Int)))) h).bind fun g1 =>
  (some (none, g1))) := by
  refine (zy_lim_eq zyS8_tellNumber _ _ _ _).trans ?_
  rfl
theorem zyS8_tellByte : zy_srt 0 mc8_tellByte.2.1 = true := by decide +kernel
set_option maxRecDepth 100000 in
theorem qE8_tellByte (d : Nat) (a0 : Nat) (a1 : Int) (h : zv_H) : E8_tellByte d a0 a1 h =
  ((zv_gI h a0 8 5).bind fun v1 =>
  (if v1 < 0 then
    (some (none, h))
  else
    ((zv_gI h a0 8 5).bind fun v2 =>
    ((zv_gR h a0 8 0).bind fun v3 =>
    ((zv_al h v3).bind fun v4 =>
    (if v2 < v4 then
      ((zv_gR h a0 8 0).bind fun v5 =>
      ((zv_gI h a0 8 5).bind fun v6 =>
      ((zv_wI h v5 v6 a1).bind fun g7 =>
      ((zv_gI g7 a0 8 5).bind fun v8 =>
      ((zv_pI g7 a0 8 5 (zv_w (v8 + (1 : Int)))).bind fun g9 =>
      (some (none, g9)))))))
    else
      (some (none, h)))))))) := by
  refine (zy_lim_eq zyS8_tellByte _ _ _ _).trans ?_
  rfl
theorem zyS8_out : zy_srt 0 mc8_out.2.1 = true := by decide +kernel
set_option maxRecDepth 100000 in
theorem qE8_out (d : Nat) (a0 : Nat) (a1 : Int) (h : zv_H) : E8_out d a0 a1 h =
  (if a1 < 0 then
    ((C8_refused d a0 (1 : Int) h).bind fun q1 =>
    (some (some (zv_i q1.1), q1.2)))
  else
    ((zv_gI h a0 8 5).bind fun v2 =>
    (if a1 < v2 then
      ((zv_gR h a0 8 0).bind fun v3 =>
      ((zv_al h v3).bind fun v4 =>
      (if a1 < v4 then
        ((zv_gR h a0 8 0).bind fun v5 =>
        ((zv_aI h v5 a1).bind fun v6 =>
        ((C8_given d a0 v6 h).bind fun q7 =>
        (some (some (zv_i q7.1), q7.2)))))
      else
        L8_out_27 d a0 h)))
    else
      L8_out_27 d a0 h))) := by
  refine (zy_lim_eq zyS8_out _ _ _ _).trans ?_
  rfl
set_option maxRecDepth 100000 in
theorem qL8_out_27 (d : Nat) (a0 : Nat) (h : zv_H) : L8_out_27 d a0 h =
  ((C8_refused d a0 (5 : Int) h).bind fun q1 =>
  (some (some (zv_i q1.1), q1.2))) := by
  refine (zy_lim_eq zyS8_out _ _ _ _).trans ?_
  rfl
theorem zyS8_leaning : zy_srt 0 mc8_leaning.2.1 = true := by decide +kernel
set_option maxRecDepth 100000 in
theorem qE8_leaning (d : Nat) (a0 : Nat) (a1 : Int) (a2 : Int) (h : zv_H) : E8_leaning d a0 a1 a2 h =
  ((C8_within d a2 (0 : Int) (3 : Int) h).bind fun q1 =>
  (if q1.1 = 0 then
    ((C8_refused d a0 (1 : Int) q1.2).bind fun q2 =>
    (some (some (zv_i q2.1), q2.2)))
  else
    ((zv_gR q1.2 a0 8 3).bind fun v3 =>
    ((C0_at d v3 a1 q1.2).bind fun q4 =>
    (if q4.1 = 0 then
      ((C8_refused d a0 (2 : Int) q4.2).bind fun q5 =>
      (some (some (zv_i q5.1), q5.2)))
    else
      ((zv_gR q4.2 a0 8 3).bind fun v6 =>
      ((C0_rowOfHere d v6 q4.2).bind fun q7 =>
      ((zv_gJ q7.2 q7.1 4 8).bind fun v8 =>
      ((C5_bit d q4.1 q7.2).bind fun q9 =>
      (if (zv_lcmp (v8 &&& q9.1) (Int64.ofNat 0)) = 0 then
        ((C8_refused d a0 (7 : Int) q9.2).bind fun q10 =>
        (some (some (zv_i q10.1), q10.2)))
      else
        ((C4_leaningOn d q7.1 q4.1 q9.2).bind fun q11 =>
        (if a2 = (0 : Int) then
          ((C12_bitCount d q11.1 q11.2).bind fun q12 =>
          ((C8_given d a0 q12.1 q12.2).bind fun q13 =>
          (some (some (zv_i q13.1), q13.2))))
        else
        if a2 = (1 : Int) then
          ((zv_gJ q11.2 q7.1 4 9).bind fun v14 =>
          ((C12_bitCount d (q11.1 &&& v14) q11.2).bind fun q15 =>
          ((C8_given d a0 q15.1 q15.2).bind fun q16 =>
          (some (some (zv_i q16.1), q16.2)))))
        else
        if a2 = (2 : Int) then
          ((zv_gR q11.2 a0 8 3).bind fun v17 =>
          ((C0_lettersOfHereBy d v17 q11.1 q11.2).bind fun q18 =>
          ((C8_given d a0 q18.1 q18.2).bind fun q19 =>
          (some (some (zv_i q19.1), q19.2)))))
        else
          ((zv_gJ q11.2 q7.1 4 9).bind fun v20 =>
          ((C4_look d q7.1 (v20 &&& (q11.1 ^^^ (-1 : Int64))) q11.2).bind fun g21 =>
          ((zv_gI g21 q7.1 4 7).bind fun v22 =>
          ((C8_given d a0 v22 g21).bind fun q23 =>
          (some (some (zv_i q23.1), q23.2)))))))))))))))))) := by
  refine (zy_lim_eq zyS8_leaning _ _ _ _).trans ?_
  rfl
theorem zyS8_find : zy_srt 0 mc8_find.2.1 = true := by decide +kernel
set_option maxRecDepth 100000 in
theorem qE8_find (d : Nat) (a0 : Nat) (a1 : Int) (h : zv_H) : E8_find d a0 a1 h =
  ((C8_within d a1 (0 : Int) (2 : Int) h).bind fun q1 =>
  (if q1.1 = 0 then
    L8_find_19 d a0 q1.2
  else
    ((zv_gR q1.2 a0 8 1).bind fun v2 =>
    ((zv_gI q1.2 v2 7 1).bind fun v3 =>
    (if v3 = 0 then
      L8_find_19 d a0 q1.2
    else
      (if a1 = (1 : Int) then
        ((zv_gR q1.2 a0 8 3).bind fun v4 =>
        ((zv_gR q1.2 a0 8 1).bind fun v5 =>
        ((C0_statesWith d v4 v5 q1.2).bind fun q6 =>
        ((C8_given d a0 q6.1 q6.2).bind fun q7 =>
        (some (some (zv_i q7.1), q7.2))))))
      else
        (if a1 = 0 then
          ((zv_gR q1.2 a0 8 3).bind fun v8 =>
          ((zv_gR q1.2 a0 8 1).bind fun v9 =>
          ((C0_leastWith d v8 v9 q1.2).bind fun q10 =>
          L8_find_82 d a0 q10.1 q10.2)))
        else
          ((zv_gR q1.2 a0 8 3).bind fun v11 =>
          ((zv_gR q1.2 a0 8 3).bind fun v12 =>
          ((zv_gR q1.2 v12 0 10).bind fun v13 =>
          ((zv_gR q1.2 a0 8 1).bind fun v14 =>
          ((C0_placeIn d v11 v13 v14 q1.2).bind fun q15 =>
          L8_find_82 d a0 q15.1 q15.2)))))))))))) := by
  refine (zy_lim_eq zyS8_find _ _ _ _).trans ?_
  rfl
set_option maxRecDepth 100000 in
theorem qL8_find_19 (d : Nat) (a0 : Nat) (h : zv_H) : L8_find_19 d a0 h =
  ((C8_refused d a0 (1 : Int) h).bind fun q1 =>
  (some (some (zv_i q1.1), q1.2))) := by
  refine (zy_lim_eq zyS8_find _ _ _ _).trans ?_
  rfl
set_option maxRecDepth 100000 in
theorem qL8_find_82 (d : Nat) (a0 : Nat) (e0 : Int) (h : zv_H) : L8_find_82 d a0 e0 h =
  (if e0 = (-1 : Int) then
    ((C8_refused d a0 (5 : Int) h).bind fun q1 =>
    (some (some (zv_i q1.1), q1.2)))
  else
    ((C8_given d a0 e0 h).bind fun q2 =>
    (some (some (zv_i q2.1), q2.2)))) := by
  refine (zy_lim_eq zyS8_find _ _ _ _).trans ?_
  rfl
theorem zyS8_first : zy_srt 0 mc8_first.2.1 = true := by decide +kernel
set_option maxRecDepth 100000 in
theorem qE8_first (d : Nat) (a0 : Nat) (h : zv_H) : E8_first d a0 h =
  ((zv_gR h a0 8 3).bind fun v1 =>
  ((C0_nextToGo d v1 h).bind fun q2 =>
  (if q2.1 = 0 then
    ((C8_refused d a0 (5 : Int) q2.2).bind fun q3 =>
    (some (some (zv_i q3.1), q3.2)))
  else
    ((zv_gI q2.2 q2.1 5 0).bind fun v4 =>
    ((C8_given d a0 v4 q2.2).bind fun q5 =>
    (some (some (zv_i q5.1), q5.2))))))) := by
  refine (zy_lim_eq zyS8_first _ _ _ _).trans ?_
  rfl
theorem zyS8_twin : zy_srt 0 mc8_twin.2.1 = true := by decide +kernel
set_option maxRecDepth 100000 in
theorem qE8_twin (d : Nat) (a0 : Nat) (a1 : Int) (h : zv_H) : E8_twin d a0 a1 h =
  ((zv_gR h a0 8 3).bind fun v1 =>
  ((C0_at d v1 a1 h).bind fun q2 =>
  (if q2.1 = 0 then
    ((C8_refused d a0 (2 : Int) q2.2).bind fun q3 =>
    (some (some (zv_i q3.1), q3.2)))
  else
    ((zv_gR q2.2 a0 8 3).bind fun v4 =>
    ((C0_twinOf d v4 q2.1 q2.2).bind fun q5 =>
    (if q5.1 = (-1 : Int) then
      ((C8_refused d a0 (5 : Int) q5.2).bind fun q6 =>
      (some (some (zv_i q6.1), q6.2)))
    else
      ((C8_given d a0 q5.1 q5.2).bind fun q7 =>
      (some (some (zv_i q7.1), q7.2))))))))) := by
  refine (zy_lim_eq zyS8_twin _ _ _ _).trans ?_
  rfl
theorem zyS8_back : zy_srt 0 mc8_back.2.1 = true := by decide +kernel
set_option maxRecDepth 100000 in
theorem qE8_back (d : Nat) (a0 : Nat) (a1 : Int) (h : zv_H) : E8_back d a0 a1 h =
  ((C8_within d a1 (1 : Int) (48 : Int) h).bind fun q1 =>
  (if q1.1 = 0 then
    ((C8_refused d a0 (1 : Int) q1.2).bind fun q2 =>
    (some (some (zv_i q2.1), q2.2)))
  else
    ((zv_gR q1.2 a0 8 3).bind fun v3 =>
    ((C0_behind d v3 a1 q1.2).bind fun q4 =>
    (if q4.1 = 0 then
      ((C8_refused d a0 (5 : Int) q4.2).bind fun q5 =>
      (some (some (zv_i q5.1), q5.2)))
    else
      ((zv_gI q4.2 q4.1 5 0).bind fun v6 =>
      ((C8_given d a0 v6 q4.2).bind fun q7 =>
      (some (some (zv_i q7.1), q7.2))))))))) := by
  refine (zy_lim_eq zyS8_back _ _ _ _).trans ?_
  rfl
