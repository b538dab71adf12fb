theorem qE5_init (d : Nat) (a0 : Nat) (a1 : Int) (h : zv_H) : E5_init d a0 a1 h =
  (if a0 = 0 ∨ 4 < 0 then none else
  ((zv_nA h 2 (12 : Int)).bind fun g1 =>
  ((zv_pR g1 a0 5 1 (zv_n h + 1)).bind fun g2 =>
  ((zv_nA g2 2 (120 : Int)).bind fun g3 =>
  ((zv_pR g3 a0 5 2 (zv_n g2 + 1)).bind fun g4 =>
  ((zv_pI g4 a0 5 0 a1).bind fun g5 =>
  (some (none, g5)))))))) := (zv_lim_eq _ _ _ _ _ _).trans rfl
theorem qE5_open (d : Nat) (a0 : Nat) (a1 : Nat) (a2 : Int) (a3 : Int) (a4 : Int) (h : zv_H) : E5_open d a0 a1 a2 a3 a4 h =
  ((zv_pZ h a0 5 3 (1 : Int)).bind fun g1 =>
  ((zv_pR g1 a0 5 4 a1).bind fun g2 =>
  ((zv_pR g2 a0 5 5 a0).bind fun g3 =>
  ((zv_pI g3 a0 5 6 a2).bind fun g4 =>
  ((zv_pI g4 a0 5 7 (0 : Int)).bind fun g5 =>
  ((zv_pI g5 a0 5 8 a3).bind fun g6 =>
  ((zv_pI g6 a0 5 9 a4).bind fun g7 =>
  (if a1 = 0 then
    L5_open_51 d a0 a0 (0 : Int) g7
  else
    ((zv_gI g7 a1 5 10).bind fun v8 =>
    L5_open_51 d a0 a0 (zv_w (v8 + (1 : Int))) g7))))))))) := (zv_lim_eq _ _ _ _ _ _).trans rfl
theorem qL5_open_51 (d : Nat) (a0 : Nat) (e0 : Nat) (e1 : Int) (h : zv_H) : L5_open_51 d a0 e0 e1 h =
  ((zv_pI h e0 5 10 e1).bind fun g1 =>
  ((zv_pI g1 a0 5 11 (0 : Int)).bind fun g2 =>
  ((zv_pI g2 a0 5 12 (0 : Int)).bind fun g3 =>
  ((zv_pI g3 a0 5 13 (0 : Int)).bind fun g4 =>
  ((zv_pI g4 a0 5 14 (0 : Int)).bind fun g5 =>
  ((zv_pI g5 a0 5 15 (-1 : Int)).bind fun g6 =>
  ((zv_pJ g6 a0 5 16 (Int64.ofNat 0)).bind fun g7 =>
  ((zv_pJ g7 a0 5 17 (Int64.ofNat 0)).bind fun g8 =>
  (some (none, g8)))))))))) := (zv_lim_eq _ _ _ _ _ _).trans rfl
theorem qE5_bit (d : Nat) (a0 : Nat) (h : zv_H) : E5_bit d a0 h =
  ((zv_gI h a0 5 0).bind fun v1 =>
  (some (some (zv_j (zv_lshl (Int64.ofNat 1) v1)), h))) := (zv_lim_eq _ _ _ _ _ _).trans rfl
theorem qE5_edits (d : Nat) (a0 : Nat) (h : zv_H) : E5_edits d a0 h =
  ((zv_gI h a0 5 6).bind fun v1 =>
  (if v1 = 0 then
    (some (some (zv_i (1 : Int)), h))
  else
    ((zv_gI h a0 5 6).bind fun v2 =>
    (if v2 = (1 : Int) then
      (some (some (zv_i (1 : Int)), h))
    else
      (some (some (zv_i (0 : Int)), h)))))) := (zv_lim_eq _ _ _ _ _ _).trans rfl
theorem qE5_brings (d : Nat) (a0 : Nat) (h : zv_H) : E5_brings d a0 h =
  ((zv_gI h a0 5 6).bind fun v1 =>
  (if v1 = 0 then
    (some (some (zv_i (1 : Int)), h))
  else
    ((zv_gI h a0 5 6).bind fun v2 =>
    (if v2 = (-1 : Int) then
      (some (some (zv_i (1 : Int)), h))
    else
      (some (some (zv_i (0 : Int)), h)))))) := (zv_lim_eq _ _ _ _ _ _).trans rfl
theorem qE5_idAt (d : Nat) (a0 : Nat) (a1 : Int) (h : zv_H) : E5_idAt d a0 a1 h =
  (if a1 < 0 then
    (some (some (zv_i (-1 : Int)), h))
  else
    ((zv_gI h a0 5 12).bind fun v1 =>
    (if a1 < v1 then
      ((zv_gR h a0 5 2).bind fun v2 =>
      ((zv_al h v2).bind fun v3 =>
      (if a1 < v3 then
        ((zv_gR h a0 5 2).bind fun v4 =>
        ((zv_aI h v4 a1).bind fun v5 =>
        (some (some (zv_i v5), h))))
      else
        (some (some (zv_i (-1 : Int)), h)))))
    else
      (some (some (zv_i (-1 : Int)), h))))) := (zv_lim_eq _ _ _ _ _ _).trans rfl
theorem qE5_addId (d : Nat) (a0 : Nat) (a1 : Int) (h : zv_H) : E5_addId d a0 a1 h =
  ((zv_gI h a0 5 12).bind fun v1 =>
  (if v1 < 0 then
    (some (none, h))
  else
    ((zv_gI h a0 5 12).bind fun v2 =>
    ((zv_gR h a0 5 2).bind fun v3 =>
    ((zv_al h v3).bind fun v4 =>
    (if v2 < v4 then
      ((zv_gR h a0 5 2).bind fun v5 =>
      ((zv_gI h a0 5 12).bind fun v6 =>
      ((zv_wI h v5 v6 a1).bind fun g7 =>
      ((zv_gI g7 a0 5 12).bind fun v8 =>
      ((zv_pI g7 a0 5 12 (zv_w (v8 + (1 : Int)))).bind fun g9 =>
      (some (none, g9)))))))
    else
      (some (none, h)))))))) := (zv_lim_eq _ _ _ _ _ _).trans rfl
theorem qE5_tookAt (d : Nat) (a0 : Nat) (a1 : Int) (h : zv_H) : E5_tookAt d a0 a1 h =
  ((zv_gI h a0 5 6).bind fun v1 =>
  (if v1 = (1 : Int) then
    (if a1 < 0 then
      (some (some (zv_i (-1 : Int)), h))
    else
      ((zv_gI h a0 5 9).bind fun v2 =>
      (if a1 < v2 then
        ((zv_gR h a0 5 1).bind fun v3 =>
        ((zv_al h v3).bind fun v4 =>
        (if a1 < v4 then
          ((zv_gR h a0 5 1).bind fun v5 =>
          ((zv_aI h v5 a1).bind fun v6 =>
          (some (some (zv_i v6), h))))
        else
          (some (some (zv_i (-1 : Int)), h)))))
      else
        (some (some (zv_i (-1 : Int)), h)))))
  else
    (some (some (zv_i (-1 : Int)), h)))) := (zv_lim_eq _ _ _ _ _ _).trans rfl
theorem qE5_tookIt (d : Nat) (a0 : Nat) (a1 : Int) (h : zv_H) : E5_tookIt d a0 a1 h =
  L5_tookIt_2 d a0 a1 (0 : Int) h := (zv_lim_eq _ _ _ _ _ _).trans rfl
theorem qL5_tookIt_2 (d : Nat) (a0 : Nat) (a1 : Int) (a2 : Int) (h : zv_H) : L5_tookIt_2 d a0 a1 a2 h =
  ((zv_gI h a0 5 9).bind fun v1 =>
  (if a2 < v1 then
    (if a1 = (-1 : Int) then
      L5_tookIt_2 d a0 a1 (zv_w (a2 + 1)) h
    else
      ((C5_tookAt d a0 a2 h).bind fun q2 =>
      (if q2.1 = a1 then
        (some (some (zv_i (1 : Int)), q2.2))
      else
        L5_tookIt_2 d a0 a1 (zv_w (a2 + 1)) q2.2)))
  else
    (some (some (zv_i (0 : Int)), h)))) := (zv_lim_eq _ _ _ _ _ _).trans rfl
