/-! 40.defs -/
section
noncomputable def CJ_chk (d : Nat) (x y : Int) (h : zv_H) := (zv_cs zv_prog d).1 906 [zv_i x, zv_i y] h
theorem lCJ_chk (d : Nat) (x y : Int) (h : zv_H) (hx : 0 ≤ x ∧ x < y) : CJ_chk (d + 1) x y h = some h := by
  unfold CJ_chk
  show zv_pjV (zv_sem zv_prog (zv_cs zv_prog d) 906 [zv_i x, zv_i y] h) = some h
  unfold zv_sem
  rw [if_pos (by omega)]
  show zv_pjV (if 0 ≤ x ∧ x < y then some (none, h) else none) = some h
  rw [if_pos hx]
  rfl
noncomputable def C0_init (d : Nat) (a0 : Nat) (h : zv_H) := (zv_cs zv_prog d).1 0 [zv_r a0] h
noncomputable def E0_init (d : Nat) (a0 : Nat) (h : zv_H) : zv_O := zv_lim (zv_cs zv_prog d) mc0_init 0 [some (zv_r a0), none] [] h
noncomputable def L0_init_125 (d : Nat) (a0 : Nat) (a1 : Int) (h : zv_H) : zv_O := zv_lim (zv_cs zv_prog d) mc0_init 125 [some (zv_r a0), some (zv_i a1)] [] h
noncomputable def C0_begin (d : Nat) (a0 : Nat) (h : zv_H) := (zv_cs zv_prog d).1 1 [zv_r a0] h
noncomputable def E0_begin (d : Nat) (a0 : Nat) (h : zv_H) : zv_O := zv_lim (zv_cs zv_prog d) mc0_begin 0 [some (zv_r a0), none] [] h
noncomputable def L0_begin_2 (d : Nat) (a0 : Nat) (a1 : Int) (h : zv_H) : zv_O := zv_lim (zv_cs zv_prog d) mc0_begin 2 [some (zv_r a0), some (zv_i a1)] [] h
noncomputable def C0_startWith (d : Nat) (a0 : Nat) (a1 : Nat) (h : zv_H) := (zv_cs zv_prog d).1 2 [zv_r a0, zv_r a1] h
noncomputable def E0_startWith (d : Nat) (a0 : Nat) (a1 : Nat) (h : zv_H) : zv_O := zv_lim (zv_cs zv_prog d) mc0_startWith 0 [some (zv_r a0), some (zv_r a1), none, none] [] h
noncomputable def L0_startWith_21 (d : Nat) (a0 : Nat) (a1 : Nat) (a2 : Int) (h : zv_H) : zv_O := zv_lim (zv_cs zv_prog d) mc0_startWith 21 [some (zv_r a0), some (zv_r a1), some (zv_i a2), none] [] h
noncomputable def C0_at (d : Nat) (a0 : Nat) (a1 : Int) (h : zv_H) := (zv_cs zv_prog d).2.2.2 3 [zv_r a0, zv_i a1] h
noncomputable def E0_at (d : Nat) (a0 : Nat) (a1 : Int) (h : zv_H) : zv_O := zv_lim (zv_cs zv_prog d) mc0_at 0 [some (zv_r a0), some (zv_i a1), none] [] h
noncomputable def C0_glyph (d : Nat) (a0 : Nat) (a1 : Int) (h : zv_H) := (zv_cs zv_prog d).2.1 4 [zv_r a0, zv_i a1] h
noncomputable def E0_glyph (d : Nat) (a0 : Nat) (a1 : Int) (h : zv_H) : zv_O := zv_lim (zv_cs zv_prog d) mc0_glyph 0 [some (zv_r a0), some (zv_i a1)] [] h
noncomputable def C0_setGlyph (d : Nat) (a0 : Nat) (a1 : Int) (a2 : Int) (h : zv_H) := (zv_cs zv_prog d).1 5 [zv_r a0, zv_i a1, zv_i a2] h
noncomputable def E0_setGlyph (d : Nat) (a0 : Nat) (a1 : Int) (a2 : Int) (h : zv_H) : zv_O := zv_lim (zv_cs zv_prog d) mc0_setGlyph 0 [some (zv_r a0), some (zv_i a1), some (zv_i a2)] [] h
noncomputable def C0_letterAt (d : Nat) (a0 : Nat) (a1 : Nat) (a2 : Int) (h : zv_H) := (zv_cs zv_prog d).2.1 6 [zv_r a0, zv_r a1, zv_i a2] h
noncomputable def E0_letterAt (d : Nat) (a0 : Nat) (a1 : Nat) (a2 : Int) (h : zv_H) : zv_O := zv_lim (zv_cs zv_prog d) mc0_letterAt 0 [some (zv_r a0), some (zv_r a1), some (zv_i a2)] [] h
noncomputable def C0_rowOfHere (d : Nat) (a0 : Nat) (h : zv_H) := (zv_cs zv_prog d).2.2.2 7 [zv_r a0] h
noncomputable def E0_rowOfHere (d : Nat) (a0 : Nat) (h : zv_H) : zv_O := zv_lim (zv_cs zv_prog d) mc0_rowOfHere 0 [some (zv_r a0)] [] h
noncomputable def C0_leaves (d : Nat) (a0 : Nat) (h : zv_H) := (zv_cs zv_prog d).2.1 8 [zv_r a0] h
noncomputable def E0_leaves (d : Nat) (a0 : Nat) (h : zv_H) : zv_O := zv_lim (zv_cs zv_prog d) mc0_leaves 0 [some (zv_r a0), none, none, none] [] h
noncomputable def L0_leaves_4 (d : Nat) (a0 : Nat) (a1 : Int) (a2 : Int) (h : zv_H) : zv_O := zv_lim (zv_cs zv_prog d) mc0_leaves 4 [some (zv_r a0), some (zv_i a1), some (zv_i a2), none] [] h
noncomputable def C0_groups (d : Nat) (a0 : Nat) (h : zv_H) := (zv_cs zv_prog d).2.1 9 [zv_r a0] h
noncomputable def E0_groups (d : Nat) (a0 : Nat) (h : zv_H) : zv_O := zv_lim (zv_cs zv_prog d) mc0_groups 0 [some (zv_r a0), none, none] [] h
noncomputable def L0_groups_7 (d : Nat) (a0 : Nat) (a1 : Int) (a2 : Nat) (h : zv_H) : zv_O := zv_lim (zv_cs zv_prog d) mc0_groups 7 [some (zv_r a0), some (zv_i a1), some (zv_r a2)] [] h
noncomputable def C0_childOf (d : Nat) (a0 : Nat) (a1 : Nat) (a2 : Int) (h : zv_H) := (zv_cs zv_prog d).2.2.2 10 [zv_r a0, zv_r a1, zv_i a2] h
noncomputable def E0_childOf (d : Nat) (a0 : Nat) (a1 : Nat) (a2 : Int) (h : zv_H) : zv_O := zv_lim (zv_cs zv_prog d) mc0_childOf 0 [some (zv_r a0), some (zv_r a1), some (zv_i a2), none, none, none] [] h
noncomputable def L0_childOf_34 (d : Nat) (a0 : Nat) (a1 : Nat) (a2 : Int) (a3 : Nat) (a4 : Int) (a5 : Int) (h : zv_H) : zv_O := zv_lim (zv_cs zv_prog d) mc0_childOf 34 [some (zv_r a0), some (zv_r a1), some (zv_i a2), some (zv_r a3), some (zv_i a4), some (zv_i a5)] [] h
noncomputable def C0_findNewest (d : Nat) (a0 : Nat) (h : zv_H) := (zv_cs zv_prog d).1 11 [zv_r a0] h
noncomputable def E0_findNewest (d : Nat) (a0 : Nat) (h : zv_H) : zv_O := zv_lim (zv_cs zv_prog d) mc0_findNewest 0 [some (zv_r a0), none, none, none] [] h
noncomputable def L0_findNewest_2 (d : Nat) (a0 : Nat) (a1 : Int) (h : zv_H) : zv_O := zv_lim (zv_cs zv_prog d) mc0_findNewest 2 [some (zv_r a0), some (zv_i a1), none, none] [] h
noncomputable def L0_findNewest_35 (d : Nat) (a0 : Nat) (a1 : Int) (h : zv_H) : zv_O := zv_lim (zv_cs zv_prog d) mc0_findNewest 35 [some (zv_r a0), some (zv_i a1), none, none] [] h
noncomputable def L0_findNewest_49 (d : Nat) (a0 : Nat) (a1 : Int) (a2 : Nat) (a3 : Nat) (h : zv_H) : zv_O := zv_lim (zv_cs zv_prog d) mc0_findNewest 49 [some (zv_r a0), some (zv_i a1), some (zv_r a2), some (zv_r a3)] [] h
noncomputable def C0_newestChild (d : Nat) (a0 : Nat) (a1 : Nat) (a2 : Int) (h : zv_H) := (zv_cs zv_prog d).2.2.2 12 [zv_r a0, zv_r a1, zv_i a2] h
noncomputable def E0_newestChild (d : Nat) (a0 : Nat) (a1 : Nat) (a2 : Int) (h : zv_H) : zv_O := zv_lim (zv_cs zv_prog d) mc0_newestChild 0 [some (zv_r a0), some (zv_r a1), some (zv_i a2), none, none, none] [] h
noncomputable def L0_newestChild_5 (d : Nat) (a0 : Nat) (a1 : Nat) (a2 : Int) (a3 : Nat) (a4 : Int) (h : zv_H) : zv_O := zv_lim (zv_cs zv_prog d) mc0_newestChild 5 [some (zv_r a0), some (zv_r a1), some (zv_i a2), some (zv_r a3), some (zv_i a4), none] [] h
noncomputable def C0_onLine (d : Nat) (a0 : Nat) (a1 : Nat) (h : zv_H) := (zv_cs zv_prog d).2.1 13 [zv_r a0, zv_r a1] h
noncomputable def E0_onLine (d : Nat) (a0 : Nat) (a1 : Nat) (h : zv_H) : zv_O := zv_lim (zv_cs zv_prog d) mc0_onLine 0 [some (zv_r a0), some (zv_r a1), none] [] h
noncomputable def L0_onLine_2 (d : Nat) (a0 : Nat) (a2 : Nat) (h : zv_H) : zv_O := zv_lim (zv_cs zv_prog d) mc0_onLine 2 [some (zv_r a0), none, some (zv_r a2)] [] h
noncomputable def L0_onLine_25 (d : Nat) (a0 : Nat) (a2 : Nat) (h : zv_H) : zv_O := zv_lim (zv_cs zv_prog d) mc0_onLine 25 [some (zv_r a0), none, some (zv_r a2)] [] h
noncomputable def C0_above (d : Nat) (a0 : Nat) (a1 : Int) (h : zv_H) := (zv_cs zv_prog d).2.2.2 14 [zv_r a0, zv_i a1] h
noncomputable def E0_above (d : Nat) (a0 : Nat) (a1 : Int) (h : zv_H) : zv_O := zv_lim (zv_cs zv_prog d) mc0_above 0 [some (zv_r a0), some (zv_i a1), none] [] h
noncomputable def L0_above_2 (d : Nat) (a1 : Int) (a2 : Nat) (h : zv_H) : zv_O := zv_lim (zv_cs zv_prog d) mc0_above 2 [none, some (zv_i a1), some (zv_r a2)] [] h
noncomputable def C0_lettersOfHereBy (d : Nat) (a0 : Nat) (a1 : Int64) (h : zv_H) := (zv_cs zv_prog d).2.1 15 [zv_r a0, zv_j a1] h
noncomputable def E0_lettersOfHereBy (d : Nat) (a0 : Nat) (a1 : Int64) (h : zv_H) : zv_O := zv_lim (zv_cs zv_prog d) mc0_lettersOfHereBy 0 [some (zv_r a0), some (zv_j a1), none, none, none] [] h
noncomputable def L0_lettersOfHereBy_5 (d : Nat) (a0 : Nat) (a1 : Int64) (a3 : Int) (a4 : Int) (h : zv_H) : zv_O := zv_lim (zv_cs zv_prog d) mc0_lettersOfHereBy 5 [some (zv_r a0), some (zv_j a1), none, some (zv_i a3), some (zv_i a4)] [] h
noncomputable def C0_moveTo (d : Nat) (a0 : Nat) (a1 : Nat) (h : zv_H) := (zv_cs zv_prog d).1 16 [zv_r a0, zv_r a1] h
noncomputable def E0_moveTo (d : Nat) (a0 : Nat) (a1 : Nat) (h : zv_H) : zv_O := zv_lim (zv_cs zv_prog d) mc0_moveTo 0 [some (zv_r a0), some (zv_r a1)] [] h
noncomputable def C0_grow (d : Nat) (a0 : Nat) (a1 : Int) (a2 : Int) (a3 : Int) (h : zv_H) := (zv_cs zv_prog d).2.2.2 17 [zv_r a0, zv_i a1, zv_i a2, zv_i a3] h
noncomputable def E0_grow (d : Nat) (a0 : Nat) (a1 : Int) (a2 : Int) (a3 : Int) (h : zv_H) : zv_O := zv_lim (zv_cs zv_prog d) mc0_grow 0 [some (zv_r a0), some (zv_i a1), some (zv_i a2), some (zv_i a3), none, none] [] h
noncomputable def L0_grow_3 (d : Nat) (a0 : Nat) (a1 : Int) (a2 : Int) (a3 : Int) (a4 : Int) (h : zv_H) : zv_O := zv_lim (zv_cs zv_prog d) mc0_grow 3 [some (zv_r a0), some (zv_i a1), some (zv_i a2), some (zv_i a3), some (zv_i a4), none] [] h
noncomputable def L0_grow_25 (d : Nat) (a0 : Nat) (a1 : Int) (a2 : Int) (a3 : Int) (a4 : Int) (h : zv_H) : zv_O := zv_lim (zv_cs zv_prog d) mc0_grow 25 [some (zv_r a0), some (zv_i a1), some (zv_i a2), some (zv_i a3), some (zv_i a4), none] [] h
noncomputable def C0_putWord (d : Nat) (a0 : Nat) (a1 : Int) (a2 : Nat) (h : zv_H) := (zv_cs zv_prog d).2.1 18 [zv_r a0, zv_i a1, zv_r a2] h
noncomputable def E0_putWord (d : Nat) (a0 : Nat) (a1 : Int) (a2 : Nat) (h : zv_H) : zv_O := zv_lim (zv_cs zv_prog d) mc0_putWord 0 [some (zv_r a0), some (zv_i a1), some (zv_r a2), none, none, none, none] [] h
noncomputable def L0_putWord_109 (d : Nat) (a0 : Nat) (a1 : Int) (a2 : Nat) (a3 : Nat) (a4 : Nat) (a5 : Int) (h : zv_H) : zv_O := zv_lim (zv_cs zv_prog d) mc0_putWord 109 [some (zv_r a0), some (zv_i a1), some (zv_r a2), some (zv_r a3), some (zv_r a4), some (zv_i a5), none] [] h
noncomputable def L0_putWord_135 (d : Nat) (a0 : Nat) (a1 : Int) (a2 : Nat) (a3 : Nat) (a4 : Nat) (a5 : Int) (h : zv_H) : zv_O := zv_lim (zv_cs zv_prog d) mc0_putWord 135 [some (zv_r a0), some (zv_i a1), some (zv_r a2), some (zv_r a3), some (zv_r a4), some (zv_i a5), none] [] h
noncomputable def L0_putWord_184 (d : Nat) (a0 : Nat) (a3 : Nat) (a4 : Nat) (a5 : Int) (h : zv_H) : zv_O := zv_lim (zv_cs zv_prog d) mc0_putWord 184 [some (zv_r a0), none, none, some (zv_r a3), some (zv_r a4), some (zv_i a5), none] [] h
noncomputable def C0_cutOut (d : Nat) (a0 : Nat) (a1 : Int) (a2 : Int) (h : zv_H) := (zv_cs zv_prog d).2.1 19 [zv_r a0, zv_i a1, zv_i a2] h
noncomputable def E0_cutOut (d : Nat) (a0 : Nat) (a1 : Int) (a2 : Int) (h : zv_H) : zv_O := zv_lim (zv_cs zv_prog d) mc0_cutOut 0 [some (zv_r a0), some (zv_i a1), some (zv_i a2), none, none, none, none, none] [] h
noncomputable def L0_cutOut_69 (d : Nat) (a0 : Nat) (a1 : Int) (a2 : Int) (a3 : Nat) (a4 : Nat) (a5 : Int) (h : zv_H) : zv_O := zv_lim (zv_cs zv_prog d) mc0_cutOut 69 [some (zv_r a0), some (zv_i a1), some (zv_i a2), some (zv_r a3), some (zv_r a4), some (zv_i a5), none, none] [] h
noncomputable def L0_cutOut_138 (d : Nat) (a0 : Nat) (a1 : Int) (a2 : Int) (a3 : Nat) (a4 : Nat) (a5 : Int) (a6 : Int) (h : zv_H) : zv_O := zv_lim (zv_cs zv_prog d) mc0_cutOut 138 [some (zv_r a0), some (zv_i a1), some (zv_i a2), some (zv_r a3), some (zv_r a4), some (zv_i a5), some (zv_i a6), none] [] h
noncomputable def C0_baseOf (d : Nat) (a0 : Int) (h : zv_H) := (zv_cs zv_prog d).2.2.1 20 [zv_i a0] h
noncomputable def E0_baseOf (d : Nat) (a0 : Int) (h : zv_H) : zv_O := zv_lim (zv_cs zv_prog d) mc0_baseOf 0 [some (zv_i a0)] [] h
noncomputable def C0_joinGroup (d : Nat) (a0 : Nat) (a1 : Nat) (a2 : Nat) (h : zv_H) := (zv_cs zv_prog d).1 21 [zv_r a0, zv_r a1, zv_r a2] h
noncomputable def E0_joinGroup (d : Nat) (a0 : Nat) (a1 : Nat) (a2 : Nat) (h : zv_H) : zv_O := zv_lim (zv_cs zv_prog d) mc0_joinGroup 0 [some (zv_r a0), some (zv_r a1), some (zv_r a2)] [] h
noncomputable def L0_joinGroup_87 (d : Nat) (a0 : Nat) (a1 : Nat) (a2 : Nat) (e0 : Nat) (e1 : Int) (e2 : Int) (h : zv_H) : zv_O := zv_lim (zv_cs zv_prog d) mc0_joinGroup 87 [some (zv_r a0), some (zv_r a1), some (zv_r a2)] [zv_i e2, zv_i e1, zv_r e0] h
noncomputable def L0_joinGroup_108 (d : Nat) (a0 : Nat) (a1 : Nat) (a2 : Nat) (e0 : Nat) (e1 : Int) (e2 : Int) (h : zv_H) : zv_O := zv_lim (zv_cs zv_prog d) mc0_joinGroup 108 [some (zv_r a0), some (zv_r a1), some (zv_r a2)] [zv_i e2, zv_i e1, zv_r e0] h
noncomputable def C0_isNear (d : Nat) (a0 : Nat) (a1 : Nat) (h : zv_H) := (zv_cs zv_prog d).2.1 22 [zv_r a0, zv_r a1] h
noncomputable def E0_isNear (d : Nat) (a0 : Nat) (a1 : Nat) (h : zv_H) : zv_O := zv_lim (zv_cs zv_prog d) mc0_isNear 0 [some (zv_r a0), some (zv_r a1), none] [] h
noncomputable def L0_isNear_23 (d : Nat) (a0 : Nat) (a1 : Nat) (e0 : Int) (h : zv_H) : zv_O := zv_lim (zv_cs zv_prog d) mc0_isNear 23 [some (zv_r a0), some (zv_r a1), none] [zv_i e0] h
noncomputable def C0_passTime (d : Nat) (a0 : Nat) (a1 : Int) (h : zv_H) := (zv_cs zv_prog d).2.1 23 [zv_r a0, zv_i a1] h
noncomputable def E0_passTime (d : Nat) (a0 : Nat) (a1 : Int) (h : zv_H) : zv_O := zv_lim (zv_cs zv_prog d) mc0_passTime 0 [some (zv_r a0), some (zv_i a1)] [] h
noncomputable def C0_behind (d : Nat) (a0 : Nat) (a1 : Int) (h : zv_H) := (zv_cs zv_prog d).2.2.2 24 [zv_r a0, zv_i a1] h
noncomputable def E0_behind (d : Nat) (a0 : Nat) (a1 : Int) (h : zv_H) : zv_O := zv_lim (zv_cs zv_prog d) mc0_behind 0 [some (zv_r a0), some (zv_i a1), none, none] [] h
noncomputable def L0_behind_7 (d : Nat) (a1 : Int) (a2 : Nat) (a3 : Int) (h : zv_H) : zv_O := zv_lim (zv_cs zv_prog d) mc0_behind 7 [none, some (zv_i a1), some (zv_r a2), some (zv_i a3)] [] h
noncomputable def C0_stepBack (d : Nat) (a0 : Nat) (h : zv_H) := (zv_cs zv_prog d).2.1 25 [zv_r a0] h
noncomputable def E0_stepBack (d : Nat) (a0 : Nat) (h : zv_H) : zv_O := zv_lim (zv_cs zv_prog d) mc0_stepBack 0 [some (zv_r a0), none] [] h
noncomputable def C0_stepOn (d : Nat) (a0 : Nat) (h : zv_H) := (zv_cs zv_prog d).2.1 26 [zv_r a0] h
noncomputable def E0_stepOn (d : Nat) (a0 : Nat) (h : zv_H) : zv_O := zv_lim (zv_cs zv_prog d) mc0_stepOn 0 [some (zv_r a0), none, none, none] [] h
noncomputable def L0_stepOn_26 (d : Nat) (a0 : Nat) (a1 : Nat) (a2 : Nat) (a3 : Int) (h : zv_H) : zv_O := zv_lim (zv_cs zv_prog d) mc0_stepOn 26 [some (zv_r a0), some (zv_r a1), some (zv_r a2), some (zv_i a3)] [] h
noncomputable def L0_stepOn_62 (d : Nat) (a0 : Nat) (a1 : Nat) (h : zv_H) : zv_O := zv_lim (zv_cs zv_prog d) mc0_stepOn 62 [some (zv_r a0), some (zv_r a1), none, none] [] h
noncomputable def C0_goTo (d : Nat) (a0 : Nat) (a1 : Int) (h : zv_H) := (zv_cs zv_prog d).2.1 27 [zv_r a0, zv_i a1] h
noncomputable def E0_goTo (d : Nat) (a0 : Nat) (a1 : Int) (h : zv_H) : zv_O := zv_lim (zv_cs zv_prog d) mc0_goTo 0 [some (zv_r a0), some (zv_i a1), none, none] [] h
noncomputable def C0_nameHere (d : Nat) (a0 : Nat) (a1 : Int) (h : zv_H) := (zv_cs zv_prog d).2.1 28 [zv_r a0, zv_i a1] h
noncomputable def E0_nameHere (d : Nat) (a0 : Nat) (a1 : Int) (h : zv_H) : zv_O := zv_lim (zv_cs zv_prog d) mc0_nameHere 0 [some (zv_r a0), some (zv_i a1), none] [] h
noncomputable def L0_nameHere_35 (d : Nat) (a0 : Nat) (a1 : Int) (a2 : Int) (h : zv_H) : zv_O := zv_lim (zv_cs zv_prog d) mc0_nameHere 35 [some (zv_r a0), some (zv_i a1), some (zv_i a2)] [] h
noncomputable def L0_nameHere_61 (d : Nat) (a0 : Nat) (a1 : Int) (h : zv_H) : zv_O := zv_lim (zv_cs zv_prog d) mc0_nameHere 61 [some (zv_r a0), some (zv_i a1), none] [] h
noncomputable def C0_dropName (d : Nat) (a0 : Nat) (a1 : Int) (h : zv_H) := (zv_cs zv_prog d).2.1 29 [zv_r a0, zv_i a1] h
noncomputable def E0_dropName (d : Nat) (a0 : Nat) (a1 : Int) (h : zv_H) : zv_O := zv_lim (zv_cs zv_prog d) mc0_dropName 0 [some (zv_r a0), some (zv_i a1), none] [] h
noncomputable def C0_takeBack (d : Nat) (a0 : Nat) (a1 : Int) (h : zv_H) := (zv_cs zv_prog d).2.1 30 [zv_r a0, zv_i a1] h
noncomputable def E0_takeBack (d : Nat) (a0 : Nat) (a1 : Int) (h : zv_H) : zv_O := zv_lim (zv_cs zv_prog d) mc0_takeBack 0 [some (zv_r a0), some (zv_i a1), none, none, none] [] h
noncomputable def C0_giveBack (d : Nat) (a0 : Nat) (a1 : Int) (h : zv_H) := (zv_cs zv_prog d).2.1 31 [zv_r a0, zv_i a1] h
noncomputable def E0_giveBack (d : Nat) (a0 : Nat) (a1 : Int) (h : zv_H) : zv_O := zv_lim (zv_cs zv_prog d) mc0_giveBack 0 [some (zv_r a0), some (zv_i a1), none, none, none] [] h
noncomputable def C0_turn (d : Nat) (a0 : Nat) (a1 : Int) (a2 : Int64) (a4 : Int64) (h : zv_H) := (zv_cs zv_prog d).2.1 32 [zv_r a0, zv_i a1, zv_j a2, zv_j a4] h
noncomputable def E0_turn (d : Nat) (a0 : Nat) (a1 : Int) (a2 : Int64) (a4 : Int64) (h : zv_H) : zv_O := zv_lim (zv_cs zv_prog d) mc0_turn 0 [some (zv_r a0), some (zv_i a1), some (zv_j a2), none, some (zv_j a4), none, none, none] [] h
noncomputable def L0_turn_65 (d : Nat) (a0 : Nat) (a6 : Nat) (a7 : Int) (h : zv_H) : zv_O := zv_lim (zv_cs zv_prog d) mc0_turn 65 [some (zv_r a0), none, none, none, none, none, some (zv_r a6), some (zv_i a7)] [] h
noncomputable def C0_carryOver (d : Nat) (a0 : Nat) (a1 : Int) (h : zv_H) := (zv_cs zv_prog d).2.1 33 [zv_r a0, zv_i a1] h
noncomputable def E0_carryOver (d : Nat) (a0 : Nat) (a1 : Int) (h : zv_H) : zv_O := zv_lim (zv_cs zv_prog d) mc0_carryOver 0 [some (zv_r a0), some (zv_i a1), none] [] h
noncomputable def C0_standForThemselves (d : Nat) (a0 : Nat) (h : zv_H) := (zv_cs zv_prog d).1 34 [zv_r a0] h
noncomputable def E0_standForThemselves (d : Nat) (a0 : Nat) (h : zv_H) : zv_O := zv_lim (zv_cs zv_prog d) mc0_standForThemselves 0 [some (zv_r a0), none] [] h
noncomputable def L0_standForThemselves_2 (d : Nat) (a0 : Nat) (a1 : Int) (h : zv_H) : zv_O := zv_lim (zv_cs zv_prog d) mc0_standForThemselves 2 [some (zv_r a0), some (zv_i a1)] [] h
noncomputable def C0_standOf (d : Nat) (a0 : Nat) (a1 : Int) (h : zv_H) := (zv_cs zv_prog d).2.1 35 [zv_r a0, zv_i a1] h
noncomputable def E0_standOf (d : Nat) (a0 : Nat) (a1 : Int) (h : zv_H) : zv_O := zv_lim (zv_cs zv_prog d) mc0_standOf 0 [some (zv_r a0), some (zv_i a1), none] [] h
noncomputable def C0_carryOne (d : Nat) (a0 : Nat) (a1 : Nat) (h : zv_H) := (zv_cs zv_prog d).2.1 36 [zv_r a0, zv_r a1] h
noncomputable def E0_carryOne (d : Nat) (a0 : Nat) (a1 : Nat) (h : zv_H) : zv_O := zv_lim (zv_cs zv_prog d) mc0_carryOne 0 [some (zv_r a0), some (zv_r a1), none, none] [] h
noncomputable def L0_carryOne_74 (d : Nat) (a0 : Nat) (a1 : Nat) (a2 : Int) (h : zv_H) : zv_O := zv_lim (zv_cs zv_prog d) mc0_carryOne 74 [some (zv_r a0), some (zv_r a1), some (zv_i a2), none] [] h
noncomputable def L0_carryOne_91 (d : Nat) (a0 : Nat) (a1 : Nat) (a2 : Int) (a3 : Int) (h : zv_H) : zv_O := zv_lim (zv_cs zv_prog d) mc0_carryOne 91 [some (zv_r a0), some (zv_r a1), some (zv_i a2), some (zv_i a3)] [] h
noncomputable def C0_firstTaken (d : Nat) (a0 : Nat) (a1 : Nat) (h : zv_H) := (zv_cs zv_prog d).2.1 37 [zv_r a0, zv_r a1] h
noncomputable def E0_firstTaken (d : Nat) (a0 : Nat) (a1 : Nat) (h : zv_H) : zv_O := zv_lim (zv_cs zv_prog d) mc0_firstTaken 0 [some (zv_r a0), some (zv_r a1), none] [] h
noncomputable def L0_firstTaken_2 (d : Nat) (a0 : Nat) (a1 : Nat) (a2 : Int) (h : zv_H) : zv_O := zv_lim (zv_cs zv_prog d) mc0_firstTaken 2 [some (zv_r a0), some (zv_r a1), some (zv_i a2)] [] h
noncomputable def C0_takenFrom (d : Nat) (a0 : Nat) (a1 : Nat) (a2 : Int) (h : zv_H) := (zv_cs zv_prog d).2.1 38 [zv_r a0, zv_r a1, zv_i a2] h
noncomputable def E0_takenFrom (d : Nat) (a0 : Nat) (a1 : Nat) (a2 : Int) (h : zv_H) : zv_O := zv_lim (zv_cs zv_prog d) mc0_takenFrom 0 [some (zv_r a0), some (zv_r a1), some (zv_i a2), none, none] [] h
noncomputable def L0_takenFrom_9 (d : Nat) (a0 : Nat) (a1 : Nat) (a2 : Int) (a3 : Int) (a4 : Int) (h : zv_H) : zv_O := zv_lim (zv_cs zv_prog d) mc0_takenFrom 9 [some (zv_r a0), some (zv_r a1), some (zv_i a2), some (zv_i a3), some (zv_i a4)] [] h
noncomputable def C0_takes (d : Nat) (a0 : Nat) (a1 : Nat) (a2 : Int) (h : zv_H) := (zv_cs zv_prog d).2.1 39 [zv_r a0, zv_r a1, zv_i a2] h
noncomputable def E0_takes (d : Nat) (a0 : Nat) (a1 : Nat) (a2 : Int) (h : zv_H) : zv_O := zv_lim (zv_cs zv_prog d) mc0_takes 0 [some (zv_r a0), some (zv_r a1), some (zv_i a2), none] [] h
noncomputable def L0_takes_2 (d : Nat) (a0 : Nat) (a1 : Nat) (a2 : Int) (a3 : Int) (h : zv_H) : zv_O := zv_lim (zv_cs zv_prog d) mc0_takes 2 [some (zv_r a0), some (zv_r a1), some (zv_i a2), some (zv_i a3)] [] h
noncomputable def C0_mergeIn (d : Nat) (a0 : Nat) (a1 : Int) (h : zv_H) := (zv_cs zv_prog d).2.1 40 [zv_r a0, zv_i a1] h
noncomputable def E0_mergeIn (d : Nat) (a0 : Nat) (a1 : Int) (h : zv_H) : zv_O := zv_lim (zv_cs zv_prog d) mc0_mergeIn 0 [some (zv_r a0), some (zv_i a1), none, none, none, none, none, none, none, none, none] [] h
noncomputable def L0_mergeIn_84 (d : Nat) (a0 : Nat) (a2 : Nat) (a5 : Int64) (a7 : Int) (a8 : Int) (h : zv_H) : zv_O := zv_lim (zv_cs zv_prog d) mc0_mergeIn 84 [some (zv_r a0), none, some (zv_r a2), none, none, some (zv_j a5), none, some (zv_i a7), some (zv_i a8), none, none] [] h
noncomputable def C0_mergeOnPaper (d : Nat) (a0 : Nat) (a1 : Int) (a2 : Int) (h : zv_H) := (zv_cs zv_prog d).2.1 41 [zv_r a0, zv_i a1, zv_i a2] h
noncomputable def E0_mergeOnPaper (d : Nat) (a0 : Nat) (a1 : Int) (a2 : Int) (h : zv_H) : zv_O := zv_lim (zv_cs zv_prog d) mc0_mergeOnPaper 0 [some (zv_r a0), some (zv_i a1), some (zv_i a2), none, none, none, none, none] [] h
noncomputable def L0_mergeOnPaper_60 (d : Nat) (a0 : Nat) (a3 : Nat) (a4 : Int) (a5 : Int) (a6 : Int) (h : zv_H) : zv_O := zv_lim (zv_cs zv_prog d) mc0_mergeOnPaper 60 [some (zv_r a0), none, none, some (zv_r a3), some (zv_i a4), some (zv_i a5), some (zv_i a6), none] [] h
noncomputable def L0_mergeOnPaper_112 (d : Nat) (a0 : Nat) (a5 : Int) (h : zv_H) : zv_O := zv_lim (zv_cs zv_prog d) mc0_mergeOnPaper 112 [some (zv_r a0), none, none, none, none, some (zv_i a5), none, none] [] h
noncomputable def C0_remove (d : Nat) (a0 : Nat) (a1 : Nat) (h : zv_H) := (zv_cs zv_prog d).1 42 [zv_r a0, zv_r a1] h
noncomputable def E0_remove (d : Nat) (a0 : Nat) (a1 : Nat) (h : zv_H) : zv_O := zv_lim (zv_cs zv_prog d) mc0_remove 0 [some (zv_r a0), some (zv_r a1)] [] h
noncomputable def L0_remove_25 (d : Nat) (a0 : Nat) (a1 : Nat) (h : zv_H) : zv_O := zv_lim (zv_cs zv_prog d) mc0_remove 25 [some (zv_r a0), some (zv_r a1)] [] h
noncomputable def C0_nextToGo (d : Nat) (a0 : Nat) (h : zv_H) := (zv_cs zv_prog d).2.2.2 43 [zv_r a0] h
noncomputable def E0_nextToGo (d : Nat) (a0 : Nat) (h : zv_H) : zv_O := zv_lim (zv_cs zv_prog d) mc0_nextToGo 0 [some (zv_r a0), none, none, none] [] h
noncomputable def L0_nextToGo_4 (d : Nat) (a0 : Nat) (a1 : Nat) (a2 : Int) (h : zv_H) : zv_O := zv_lim (zv_cs zv_prog d) mc0_nextToGo 4 [some (zv_r a0), some (zv_r a1), some (zv_i a2), none] [] h
noncomputable def C0_pruneTo (d : Nat) (a0 : Nat) (a1 : Int) (h : zv_H) := (zv_cs zv_prog d).2.1 44 [zv_r a0, zv_i a1] h
noncomputable def E0_pruneTo (d : Nat) (a0 : Nat) (a1 : Int) (h : zv_H) : zv_O := zv_lim (zv_cs zv_prog d) mc0_pruneTo 0 [some (zv_r a0), some (zv_i a1), none, none] [] h
noncomputable def L0_pruneTo_14 (d : Nat) (a0 : Nat) (a1 : Int) (a2 : Int) (h : zv_H) : zv_O := zv_lim (zv_cs zv_prog d) mc0_pruneTo 14 [some (zv_r a0), some (zv_i a1), some (zv_i a2), none] [] h
noncomputable def C0_nearest (d : Nat) (a0 : Nat) (a1 : Nat) (h : zv_H) := (zv_cs zv_prog d).2.2.2 45 [zv_r a0, zv_r a1] h
noncomputable def E0_nearest (d : Nat) (a0 : Nat) (a1 : Nat) (h : zv_H) : zv_O := zv_lim (zv_cs zv_prog d) mc0_nearest 0 [some (zv_r a0), some (zv_r a1), none] [] h
noncomputable def L0_nearest_2 (d : Nat) (a1 : Nat) (a2 : Nat) (h : zv_H) : zv_O := zv_lim (zv_cs zv_prog d) mc0_nearest 2 [none, some (zv_r a1), some (zv_r a2)] [] h
noncomputable def C0_wayLength (d : Nat) (a0 : Nat) (a1 : Nat) (h : zv_H) := (zv_cs zv_prog d).2.1 46 [zv_r a0, zv_r a1] h
noncomputable def E0_wayLength (d : Nat) (a0 : Nat) (a1 : Nat) (h : zv_H) : zv_O := zv_lim (zv_cs zv_prog d) mc0_wayLength 0 [some (zv_r a0), some (zv_r a1)] [] h
noncomputable def C0_onWay (d : Nat) (a0 : Nat) (a1 : Nat) (a2 : Int) (h : zv_H) := (zv_cs zv_prog d).2.2.2 47 [zv_r a0, zv_r a1, zv_i a2] h
noncomputable def E0_onWay (d : Nat) (a0 : Nat) (a1 : Nat) (a2 : Int) (h : zv_H) : zv_O := zv_lim (zv_cs zv_prog d) mc0_onWay 0 [some (zv_r a0), some (zv_r a1), some (zv_i a2), none, none] [] h
noncomputable def C0_keptOf (d : Nat) (a0 : Nat) (a1 : Nat) (a2 : Nat) (h : zv_H) := (zv_cs zv_prog d).2.1 48 [zv_r a0, zv_r a1, zv_r a2] h
noncomputable def E0_keptOf (d : Nat) (a0 : Nat) (a1 : Nat) (a2 : Nat) (h : zv_H) : zv_O := zv_lim (zv_cs zv_prog d) mc0_keptOf 0 [some (zv_r a0), some (zv_r a1), some (zv_r a2), none, none, none] [] h
noncomputable def L0_keptOf_5 (d : Nat) (a1 : Nat) (a2 : Nat) (a3 : Int) (a4 : Int) (h : zv_H) : zv_O := zv_lim (zv_cs zv_prog d) mc0_keptOf 5 [none, some (zv_r a1), some (zv_r a2), some (zv_i a3), some (zv_i a4), none] [] h
noncomputable def L0_keptOf_17 (d : Nat) (a1 : Nat) (a2 : Nat) (a3 : Int) (a4 : Int) (a5 : Int) (h : zv_H) : zv_O := zv_lim (zv_cs zv_prog d) mc0_keptOf 17 [none, some (zv_r a1), some (zv_r a2), some (zv_i a3), some (zv_i a4), some (zv_i a5)] [] h
noncomputable def C0_firstDifference (d : Nat) (a0 : Nat) (a1 : Nat) (a2 : Nat) (h : zv_H) := (zv_cs zv_prog d).2.1 49 [zv_r a0, zv_r a1, zv_r a2] h
noncomputable def E0_firstDifference (d : Nat) (a0 : Nat) (a1 : Nat) (a2 : Nat) (h : zv_H) : zv_O := zv_lim (zv_cs zv_prog d) mc0_firstDifference 0 [some (zv_r a0), some (zv_r a1), some (zv_r a2), none, none] [] h
noncomputable def L0_firstDifference_15 (d : Nat) (a0 : Nat) (a1 : Nat) (a2 : Nat) (a3 : Int) (a4 : Int) (h : zv_H) : zv_O := zv_lim (zv_cs zv_prog d) mc0_firstDifference 15 [some (zv_r a0), some (zv_r a1), some (zv_r a2), some (zv_i a3), some (zv_i a4)] [] h
noncomputable def C0_longestCommon (d : Nat) (a0 : Nat) (a1 : Nat) (a2 : Nat) (h : zv_H) := (zv_cs zv_prog d).2.1 50 [zv_r a0, zv_r a1, zv_r a2] h
noncomputable def E0_longestCommon (d : Nat) (a0 : Nat) (a1 : Nat) (a2 : Nat) (h : zv_H) : zv_O := zv_lim (zv_cs zv_prog d) mc0_longestCommon 0 [some (zv_r a0), some (zv_r a1), some (zv_r a2), none, none, none, none, none, none] [] h
noncomputable def L0_longestCommon_2 (d : Nat) (a0 : Nat) (a1 : Nat) (a2 : Nat) (a3 : Int) (h : zv_H) : zv_O := zv_lim (zv_cs zv_prog d) mc0_longestCommon 2 [some (zv_r a0), some (zv_r a1), some (zv_r a2), some (zv_i a3), none, none, none, none, none] [] h
noncomputable def L0_longestCommon_34 (d : Nat) (a0 : Nat) (a1 : Nat) (a2 : Nat) (a3 : Int) (a4 : Int) (h : zv_H) : zv_O := zv_lim (zv_cs zv_prog d) mc0_longestCommon 34 [some (zv_r a0), some (zv_r a1), some (zv_r a2), some (zv_i a3), some (zv_i a4), none, none, none, none] [] h
noncomputable def L0_longestCommon_58 (d : Nat) (a0 : Nat) (a1 : Nat) (a2 : Nat) (a3 : Int) (a4 : Int) (a5 : Int) (a6 : Int) (a7 : Int) (h : zv_H) : zv_O := zv_lim (zv_cs zv_prog d) mc0_longestCommon 58 [some (zv_r a0), some (zv_r a1), some (zv_r a2), some (zv_i a3), some (zv_i a4), some (zv_i a5), some (zv_i a6), some (zv_i a7), none] [] h
noncomputable def C0_placeIn (d : Nat) (a0 : Nat) (a1 : Nat) (a2 : Nat) (h : zv_H) := (zv_cs zv_prog d).2.1 51 [zv_r a0, zv_r a1, zv_r a2] h
noncomputable def E0_placeIn (d : Nat) (a0 : Nat) (a1 : Nat) (a2 : Nat) (h : zv_H) : zv_O := zv_lim (zv_cs zv_prog d) mc0_placeIn 0 [some (zv_r a0), some (zv_r a1), some (zv_r a2), none, none] [] h
noncomputable def L0_placeIn_2 (d : Nat) (a0 : Nat) (a1 : Nat) (a2 : Nat) (a3 : Int) (h : zv_H) : zv_O := zv_lim (zv_cs zv_prog d) mc0_placeIn 2 [some (zv_r a0), some (zv_r a1), some (zv_r a2), some (zv_i a3), none] [] h
noncomputable def L0_placeIn_18 (d : Nat) (a0 : Nat) (a1 : Nat) (a2 : Nat) (a3 : Int) (a4 : Int) (h : zv_H) : zv_O := zv_lim (zv_cs zv_prog d) mc0_placeIn 18 [some (zv_r a0), some (zv_r a1), some (zv_r a2), some (zv_i a3), some (zv_i a4)] [] h
noncomputable def L0_placeIn_51 (d : Nat) (a0 : Nat) (a1 : Nat) (a2 : Nat) (a3 : Int) (a4 : Int) (h : zv_H) : zv_O := zv_lim (zv_cs zv_prog d) mc0_placeIn 51 [some (zv_r a0), some (zv_r a1), some (zv_r a2), some (zv_i a3), some (zv_i a4)] [] h
noncomputable def C0_leastWith (d : Nat) (a0 : Nat) (a1 : Nat) (h : zv_H) := (zv_cs zv_prog d).2.1 52 [zv_r a0, zv_r a1] h
noncomputable def E0_leastWith (d : Nat) (a0 : Nat) (a1 : Nat) (h : zv_H) : zv_O := zv_lim (zv_cs zv_prog d) mc0_leastWith 0 [some (zv_r a0), some (zv_r a1), none, none] [] h
noncomputable def L0_leastWith_2 (d : Nat) (a0 : Nat) (a1 : Nat) (a2 : Int) (h : zv_H) : zv_O := zv_lim (zv_cs zv_prog d) mc0_leastWith 2 [some (zv_r a0), some (zv_r a1), some (zv_i a2), none] [] h
noncomputable def C0_statesWith (d : Nat) (a0 : Nat) (a1 : Nat) (h : zv_H) := (zv_cs zv_prog d).2.1 53 [zv_r a0, zv_r a1] h
noncomputable def E0_statesWith (d : Nat) (a0 : Nat) (a1 : Nat) (h : zv_H) : zv_O := zv_lim (zv_cs zv_prog d) mc0_statesWith 0 [some (zv_r a0), some (zv_r a1), none, none, none] [] h
noncomputable def L0_statesWith_4 (d : Nat) (a0 : Nat) (a1 : Nat) (a2 : Int) (a3 : Int) (h : zv_H) : zv_O := zv_lim (zv_cs zv_prog d) mc0_statesWith 4 [some (zv_r a0), some (zv_r a1), some (zv_i a2), some (zv_i a3), none] [] h
noncomputable def C0_twinOf (d : Nat) (a0 : Nat) (a1 : Nat) (h : zv_H) := (zv_cs zv_prog d).2.1 54 [zv_r a0, zv_r a1] h
noncomputable def E0_twinOf (d : Nat) (a0 : Nat) (a1 : Nat) (h : zv_H) : zv_O := zv_lim (zv_cs zv_prog d) mc0_twinOf 0 [some (zv_r a0), some (zv_r a1), none, none] [] h
noncomputable def L0_twinOf_2 (d : Nat) (a0 : Nat) (a1 : Nat) (a2 : Int) (h : zv_H) : zv_O := zv_lim (zv_cs zv_prog d) mc0_twinOf 2 [some (zv_r a0), some (zv_r a1), some (zv_i a2), none] [] h
noncomputable def C1_init (d : Nat) (a0 : Nat) (h : zv_H) := (zv_cs zv_prog d).1 55 [zv_r a0] h
noncomputable def E1_init (d : Nat) (a0 : Nat) (h : zv_H) : zv_O := zv_lim (zv_cs zv_prog d) mc1_init 0 [some (zv_r a0)] [] h
noncomputable def C1_clear (d : Nat) (a0 : Nat) (h : zv_H) := (zv_cs zv_prog d).1 56 [zv_r a0] h
noncomputable def E1_clear (d : Nat) (a0 : Nat) (h : zv_H) : zv_O := zv_lim (zv_cs zv_prog d) mc1_clear 0 [some (zv_r a0)] [] h
noncomputable def C1_usual (d : Nat) (a0 : Nat) (h : zv_H) := (zv_cs zv_prog d).1 57 [zv_r a0] h
noncomputable def E1_usual (d : Nat) (a0 : Nat) (h : zv_H) : zv_O := zv_lim (zv_cs zv_prog d) mc1_usual 0 [some (zv_r a0)] [] h
noncomputable def C1_compare (d : Nat) (a0 : Nat) (a1 : Int) (a2 : Int) (a3 : Int) (h : zv_H) := (zv_cs zv_prog d).1 58 [zv_r a0, zv_i a1, zv_i a2, zv_i a3] h
noncomputable def E1_compare (d : Nat) (a0 : Nat) (a1 : Int) (a2 : Int) (a3 : Int) (h : zv_H) : zv_O := zv_lim (zv_cs zv_prog d) mc1_compare 0 [some (zv_r a0), some (zv_i a1), some (zv_i a2), some (zv_i a3)] [] h
noncomputable def C1_add (d : Nat) (a0 : Nat) (a1 : Int) (a2 : Int) (h : zv_H) := (zv_cs zv_prog d).1 59 [zv_r a0, zv_i a1, zv_i a2] h
noncomputable def E1_add (d : Nat) (a0 : Nat) (a1 : Int) (a2 : Int) (h : zv_H) : zv_O := zv_lim (zv_cs zv_prog d) mc1_add 0 [some (zv_r a0), some (zv_i a1), some (zv_i a2)] [] h
noncomputable def C1_set (d : Nat) (a0 : Nat) (a1 : Int) (a2 : Int) (h : zv_H) := (zv_cs zv_prog d).1 60 [zv_r a0, zv_i a1, zv_i a2] h
noncomputable def E1_set (d : Nat) (a0 : Nat) (a1 : Int) (a2 : Int) (h : zv_H) : zv_O := zv_lim (zv_cs zv_prog d) mc1_set 0 [some (zv_r a0), some (zv_i a1), some (zv_i a2)] [] h
noncomputable def C1_holds (d : Nat) (a0 : Nat) (h : zv_H) := (zv_cs zv_prog d).2.1 61 [zv_r a0] h
noncomputable def E1_holds (d : Nat) (a0 : Nat) (h : zv_H) : zv_O := zv_lim (zv_cs zv_prog d) mc1_holds 0 [some (zv_r a0), none, none, none, none, none, none, none, none] [] h
noncomputable def L1_holds_4 (d : Nat) (a0 : Nat) (a1 : Int64) (a3 : Int) (h : zv_H) : zv_O := zv_lim (zv_cs zv_prog d) mc1_holds 4 [some (zv_r a0), some (zv_j a1), none, some (zv_i a3), none, none, none, none, none] [] h
noncomputable def L1_holds_107 (d : Nat) (a0 : Nat) (a1 : Int64) (a3 : Int) (a4 : Int) (h : zv_H) : zv_O := zv_lim (zv_cs zv_prog d) mc1_holds 107 [some (zv_r a0), some (zv_j a1), none, some (zv_i a3), some (zv_i a4), none, none, none, none] [] h
noncomputable def L1_holds_108 (d : Nat) (a0 : Nat) (a1 : Int64) (a3 : Int) (a4 : Int) (e0 : Int) (h : zv_H) : zv_O := zv_lim (zv_cs zv_prog d) mc1_holds 108 [some (zv_r a0), some (zv_j a1), none, some (zv_i a3), some (zv_i a4), none, none, none, none] [zv_i e0] h
noncomputable def L1_holds_181 (d : Nat) (a0 : Nat) (a1 : Int64) (a3 : Int) (e0 : Int) (h : zv_H) : zv_O := zv_lim (zv_cs zv_prog d) mc1_holds 181 [some (zv_r a0), some (zv_j a1), none, some (zv_i a3), none, none, none, none, none] [zv_i e0] h
noncomputable def L1_holds_204 (d : Nat) (a1 : Int64) (h : zv_H) : zv_O := zv_lim (zv_cs zv_prog d) mc1_holds 204 [none, some (zv_j a1), none, none, none, none, none, none, none] [] h
noncomputable def C2_init (d : Nat) (a0 : Nat) (h : zv_H) := (zv_cs zv_prog d).1 62 [zv_r a0] h
noncomputable def E2_init (d : Nat) (a0 : Nat) (h : zv_H) : zv_O := zv_lim (zv_cs zv_prog d) mc2_init 0 [some (zv_r a0)] [] h
noncomputable def C2_indexOf (d : Nat) (a0 : Nat) (a1 : Int) (h : zv_H) := (zv_cs zv_prog d).2.1 63 [zv_r a0, zv_i a1] h
noncomputable def E2_indexOf (d : Nat) (a0 : Nat) (a1 : Int) (h : zv_H) : zv_O := zv_lim (zv_cs zv_prog d) mc2_indexOf 0 [some (zv_r a0), some (zv_i a1), none] [] h
noncomputable def L2_indexOf_2 (d : Nat) (a0 : Nat) (a1 : Int) (a2 : Int) (h : zv_H) : zv_O := zv_lim (zv_cs zv_prog d) mc2_indexOf 2 [some (zv_r a0), some (zv_i a1), some (zv_i a2)] [] h
noncomputable def C2_keyAt (d : Nat) (a0 : Nat) (a1 : Int) (h : zv_H) := (zv_cs zv_prog d).2.1 64 [zv_r a0, zv_i a1] h
noncomputable def E2_keyAt (d : Nat) (a0 : Nat) (a1 : Int) (h : zv_H) : zv_O := zv_lim (zv_cs zv_prog d) mc2_keyAt 0 [some (zv_r a0), some (zv_i a1)] [] h
noncomputable def C2_ownerAt (d : Nat) (a0 : Nat) (a1 : Int) (h : zv_H) := (zv_cs zv_prog d).2.1 65 [zv_r a0, zv_i a1] h
noncomputable def E2_ownerAt (d : Nat) (a0 : Nat) (a1 : Int) (h : zv_H) : zv_O := zv_lim (zv_cs zv_prog d) mc2_ownerAt 0 [some (zv_r a0), some (zv_i a1)] [] h
noncomputable def C2_countOf (d : Nat) (a0 : Nat) (a1 : Int) (h : zv_H) := (zv_cs zv_prog d).2.1 66 [zv_r a0, zv_i a1] h
noncomputable def E2_countOf (d : Nat) (a0 : Nat) (a1 : Int) (h : zv_H) : zv_O := zv_lim (zv_cs zv_prog d) mc2_countOf 0 [some (zv_r a0), some (zv_i a1), none, none] [] h
noncomputable def L2_countOf_4 (d : Nat) (a0 : Nat) (a1 : Int) (a2 : Int) (a3 : Int) (h : zv_H) : zv_O := zv_lim (zv_cs zv_prog d) mc2_countOf 4 [some (zv_r a0), some (zv_i a1), some (zv_i a2), some (zv_i a3)] [] h
noncomputable def C2_own (d : Nat) (a0 : Nat) (a1 : Int) (a2 : Int) (h : zv_H) := (zv_cs zv_prog d).1 67 [zv_r a0, zv_i a1, zv_i a2] h
noncomputable def E2_own (d : Nat) (a0 : Nat) (a1 : Int) (a2 : Int) (h : zv_H) : zv_O := zv_lim (zv_cs zv_prog d) mc2_own 0 [some (zv_r a0), some (zv_i a1), some (zv_i a2), none] [] h
noncomputable def L2_own_16 (d : Nat) (a0 : Nat) (a1 : Int) (a2 : Int) (a3 : Int) (h : zv_H) : zv_O := zv_lim (zv_cs zv_prog d) mc2_own 16 [some (zv_r a0), some (zv_i a1), some (zv_i a2), some (zv_i a3)] [] h
noncomputable def C2_drop (d : Nat) (a0 : Nat) (a1 : Int) (h : zv_H) := (zv_cs zv_prog d).1 68 [zv_r a0, zv_i a1] h
noncomputable def E2_drop (d : Nat) (a0 : Nat) (a1 : Int) (h : zv_H) : zv_O := zv_lim (zv_cs zv_prog d) mc2_drop 0 [some (zv_r a0), some (zv_i a1), none] [] h
noncomputable def L2_drop_6 (d : Nat) (a0 : Nat) (a2 : Int) (h : zv_H) : zv_O := zv_lim (zv_cs zv_prog d) mc2_drop 6 [some (zv_r a0), none, some (zv_i a2)] [] h
noncomputable def L2_drop_58 (d : Nat) (a0 : Nat) (h : zv_H) : zv_O := zv_lim (zv_cs zv_prog d) mc2_drop 58 [some (zv_r a0), none, none] [] h
noncomputable def C3_init (d : Nat) (a0 : Nat) (h : zv_H) := (zv_cs zv_prog d).1 69 [zv_r a0] h
noncomputable def E3_init (d : Nat) (a0 : Nat) (h : zv_H) : zv_O := zv_lim (zv_cs zv_prog d) mc3_init 0 [some (zv_r a0)] [] h
noncomputable def C3_addByte (d : Nat) (a0 : Nat) (a1 : Int) (h : zv_H) := (zv_cs zv_prog d).1 70 [zv_r a0, zv_i a1] h
noncomputable def E3_addByte (d : Nat) (a0 : Nat) (a1 : Int) (h : zv_H) : zv_O := zv_lim (zv_cs zv_prog d) mc3_addByte 0 [some (zv_r a0), some (zv_i a1)] [] h
noncomputable def C3_byteAt (d : Nat) (a0 : Nat) (a1 : Int) (h : zv_H) := (zv_cs zv_prog d).2.1 71 [zv_r a0, zv_i a1] h
noncomputable def E3_byteAt (d : Nat) (a0 : Nat) (a1 : Int) (h : zv_H) : zv_O := zv_lim (zv_cs zv_prog d) mc3_byteAt 0 [some (zv_r a0), some (zv_i a1)] [] h
noncomputable def C3_fail (d : Nat) (a0 : Nat) (a1 : Int) (h : zv_H) := (zv_cs zv_prog d).2.1 72 [zv_r a0, zv_i a1] h
noncomputable def E3_fail (d : Nat) (a0 : Nat) (a1 : Int) (h : zv_H) : zv_O := zv_lim (zv_cs zv_prog d) mc3_fail 0 [some (zv_r a0), some (zv_i a1)] [] h
noncomputable def C3_more (d : Nat) (a0 : Nat) (h : zv_H) := (zv_cs zv_prog d).2.1 73 [zv_r a0] h
noncomputable def E3_more (d : Nat) (a0 : Nat) (h : zv_H) : zv_O := zv_lim (zv_cs zv_prog d) mc3_more 0 [some (zv_r a0)] [] h
noncomputable def C3_begin (d : Nat) (a0 : Nat) (a1 : Int) (h : zv_H) := (zv_cs zv_prog d).1 74 [zv_r a0, zv_i a1] h
noncomputable def E3_begin (d : Nat) (a0 : Nat) (a1 : Int) (h : zv_H) : zv_O := zv_lim (zv_cs zv_prog d) mc3_begin 0 [some (zv_r a0), some (zv_i a1)] [] h
noncomputable def C3_next (d : Nat) (a0 : Nat) (h : zv_H) := (zv_cs zv_prog d).2.1 75 [zv_r a0] h
noncomputable def E3_next (d : Nat) (a0 : Nat) (h : zv_H) : zv_O := zv_lim (zv_cs zv_prog d) mc3_next 0 [some (zv_r a0)] [] h
noncomputable def L3_next_8 (d : Nat) (a0 : Nat) (h : zv_H) : zv_O := zv_lim (zv_cs zv_prog d) mc3_next 8 [some (zv_r a0)] [] h
noncomputable def L3_next_58 (d : Nat) (a0 : Nat) (h : zv_H) : zv_O := zv_lim (zv_cs zv_prog d) mc3_next 58 [some (zv_r a0)] [] h
noncomputable def L3_next_108 (d : Nat) (a0 : Nat) (h : zv_H) : zv_O := zv_lim (zv_cs zv_prog d) mc3_next 108 [some (zv_r a0)] [] h
noncomputable def L3_next_168 (d : Nat) (a0 : Nat) (h : zv_H) : zv_O := zv_lim (zv_cs zv_prog d) mc3_next 168 [some (zv_r a0)] [] h
noncomputable def L3_next_242 (d : Nat) (a0 : Nat) (h : zv_H) : zv_O := zv_lim (zv_cs zv_prog d) mc3_next 242 [some (zv_r a0)] [] h
noncomputable def L3_next_302 (d : Nat) (a0 : Nat) (h : zv_H) : zv_O := zv_lim (zv_cs zv_prog d) mc3_next 302 [some (zv_r a0)] [] h
noncomputable def C3_isSmall (d : Nat) (a0 : Int) (h : zv_H) := (zv_cs zv_prog d).2.1 76 [zv_i a0] h
noncomputable def E3_isSmall (d : Nat) (a0 : Int) (h : zv_H) : zv_O := zv_lim (zv_cs zv_prog d) mc3_isSmall 0 [some (zv_i a0)] [] h
noncomputable def C3_isDigit (d : Nat) (a0 : Int) (h : zv_H) := (zv_cs zv_prog d).2.1 77 [zv_i a0] h
noncomputable def E3_isDigit (d : Nat) (a0 : Int) (h : zv_H) : zv_O := zv_lim (zv_cs zv_prog d) mc3_isDigit 0 [some (zv_i a0)] [] h
noncomputable def C3_is (d : Nat) (a0 : Nat) (a1 : Nat) (h : zv_H) := (zv_cs zv_prog d).2.1 78 [zv_r a0, zv_r a1] h
noncomputable def E3_is (d : Nat) (a0 : Nat) (a1 : Nat) (h : zv_H) : zv_O := zv_lim (zv_cs zv_prog d) mc3_is 0 [some (zv_r a0), some (zv_r a1), none] [] h
noncomputable def L3_is_28 (d : Nat) (a0 : Nat) (a1 : Nat) (a2 : Int) (h : zv_H) : zv_O := zv_lim (zv_cs zv_prog d) mc3_is 28 [some (zv_r a0), some (zv_r a1), some (zv_i a2)] [] h
noncomputable def C3_isSign (d : Nat) (a0 : Nat) (a1 : Int) (h : zv_H) := (zv_cs zv_prog d).2.1 79 [zv_r a0, zv_i a1] h
noncomputable def E3_isSign (d : Nat) (a0 : Nat) (a1 : Int) (h : zv_H) : zv_O := zv_lim (zv_cs zv_prog d) mc3_isSign 0 [some (zv_r a0), some (zv_i a1)] [] h
noncomputable def C3_head (d : Nat) (a0 : Nat) (a1 : Nat) (h : zv_H) := (zv_cs zv_prog d).1 80 [zv_r a0, zv_r a1] h
noncomputable def E3_head (d : Nat) (a0 : Nat) (a1 : Nat) (h : zv_H) : zv_O := zv_lim (zv_cs zv_prog d) mc3_head 0 [some (zv_r a0), some (zv_r a1)] [] h
noncomputable def L3_head_52 (d : Nat) (a0 : Nat) (a1 : Nat) (h : zv_H) : zv_O := zv_lim (zv_cs zv_prog d) mc3_head 52 [some (zv_r a0), some (zv_r a1)] [] h
noncomputable def C3_closed (d : Nat) (a0 : Nat) (h : zv_H) := (zv_cs zv_prog d).2.1 81 [zv_r a0] h
noncomputable def E3_closed (d : Nat) (a0 : Nat) (h : zv_H) : zv_O := zv_lim (zv_cs zv_prog d) mc3_closed 0 [some (zv_r a0)] [] h
noncomputable def C3_spelled (d : Nat) (a0 : Nat) (a1 : Int) (h : zv_H) := (zv_cs zv_prog d).2.1 82 [zv_r a0, zv_i a1] h
noncomputable def E3_spelled (d : Nat) (a0 : Nat) (a1 : Int) (h : zv_H) : zv_O := zv_lim (zv_cs zv_prog d) mc3_spelled 0 [some (zv_r a0), some (zv_i a1), none] [] h
noncomputable def L3_spelled_45 (d : Nat) (a0 : Nat) (a2 : Int) (h : zv_H) : zv_O := zv_lim (zv_cs zv_prog d) mc3_spelled 45 [some (zv_r a0), none, some (zv_i a2)] [] h
noncomputable def C3_test (d : Nat) (a0 : Nat) (a1 : Nat) (a2 : Int) (h : zv_H) := (zv_cs zv_prog d).2.1 83 [zv_r a0, zv_r a1, zv_i a2] h
noncomputable def E3_test (d : Nat) (a0 : Nat) (a1 : Nat) (a2 : Int) (h : zv_H) : zv_O := zv_lim (zv_cs zv_prog d) mc3_test 0 [some (zv_r a0), some (zv_r a1), some (zv_i a2), none, none] [] h
noncomputable def L3_test_10 (d : Nat) (a0 : Nat) (a1 : Nat) (a2 : Int) (a3 : Int) (a4 : Int) (h : zv_H) : zv_O := zv_lim (zv_cs zv_prog d) mc3_test 10 [some (zv_r a0), some (zv_r a1), some (zv_i a2), some (zv_i a3), some (zv_i a4)] [] h
noncomputable def L3_test_51 (d : Nat) (a0 : Nat) (a1 : Nat) (a2 : Int) (a4 : Int) (h : zv_H) : zv_O := zv_lim (zv_cs zv_prog d) mc3_test 51 [some (zv_r a0), some (zv_r a1), some (zv_i a2), none, some (zv_i a4)] [] h
noncomputable def L3_test_52 (d : Nat) (a0 : Nat) (a1 : Nat) (a2 : Int) (a4 : Int) (e0 : Int) (h : zv_H) : zv_O := zv_lim (zv_cs zv_prog d) mc3_test 52 [some (zv_r a0), some (zv_r a1), some (zv_i a2), none, some (zv_i a4)] [zv_i e0] h
noncomputable def C3_side (d : Nat) (a0 : Nat) (a1 : Nat) (a2 : Int) (h : zv_H) := (zv_cs zv_prog d).2.1 84 [zv_r a0, zv_r a1, zv_i a2] h
noncomputable def E3_side (d : Nat) (a0 : Nat) (a1 : Nat) (a2 : Int) (h : zv_H) : zv_O := zv_lim (zv_cs zv_prog d) mc3_side 0 [some (zv_r a0), some (zv_r a1), some (zv_i a2), none, none] [] h
noncomputable def L3_side_10 (d : Nat) (a0 : Nat) (a1 : Nat) (a2 : Int) (a3 : Int) (a4 : Int) (h : zv_H) : zv_O := zv_lim (zv_cs zv_prog d) mc3_side 10 [some (zv_r a0), some (zv_r a1), some (zv_i a2), some (zv_i a3), some (zv_i a4)] [] h
noncomputable def L3_side_51 (d : Nat) (a0 : Nat) (a1 : Nat) (a2 : Int) (a4 : Int) (h : zv_H) : zv_O := zv_lim (zv_cs zv_prog d) mc3_side 51 [some (zv_r a0), some (zv_r a1), some (zv_i a2), none, some (zv_i a4)] [] h
noncomputable def L3_side_52 (d : Nat) (a0 : Nat) (a1 : Nat) (a2 : Int) (a4 : Int) (e0 : Int) (h : zv_H) : zv_O := zv_lim (zv_cs zv_prog d) mc3_side 52 [some (zv_r a0), some (zv_r a1), some (zv_i a2), none, some (zv_i a4)] [zv_i e0] h
noncomputable def C3_fact (d : Nat) (a0 : Nat) (a1 : Nat) (a2 : Int) (h : zv_H) := (zv_cs zv_prog d).2.1 85 [zv_r a0, zv_r a1, zv_i a2] h
noncomputable def E3_fact (d : Nat) (a0 : Nat) (a1 : Nat) (a2 : Int) (h : zv_H) : zv_O := zv_lim (zv_cs zv_prog d) mc3_fact 0 [some (zv_r a0), some (zv_r a1), some (zv_i a2), none, none] [] h
noncomputable def L3_fact_30 (d : Nat) (a0 : Nat) (a1 : Nat) (a2 : Int) (a3 : Int) (h : zv_H) : zv_O := zv_lim (zv_cs zv_prog d) mc3_fact 30 [some (zv_r a0), some (zv_r a1), some (zv_i a2), some (zv_i a3), none] [] h
noncomputable def C3_comparison (d : Nat) (a0 : Nat) (a1 : Nat) (a2 : Int) (h : zv_H) := (zv_cs zv_prog d).2.1 86 [zv_r a0, zv_r a1, zv_i a2] h
noncomputable def E3_comparison (d : Nat) (a0 : Nat) (a1 : Nat) (a2 : Int) (h : zv_H) : zv_O := zv_lim (zv_cs zv_prog d) mc3_comparison 0 [some (zv_r a0), some (zv_r a1), some (zv_i a2), none] [] h
noncomputable def L3_comparison_46 (d : Nat) (a0 : Nat) (h : zv_H) : zv_O := zv_lim (zv_cs zv_prog d) mc3_comparison 46 [some (zv_r a0), none, none, none] [] h
noncomputable def C3_asked (d : Nat) (a0 : Nat) (h : zv_H) := (zv_cs zv_prog d).2.1 87 [zv_r a0] h
noncomputable def E3_asked (d : Nat) (a0 : Nat) (h : zv_H) : zv_O := zv_lim (zv_cs zv_prog d) mc3_asked 0 [some (zv_r a0)] [] h
noncomputable def C3_line (d : Nat) (a0 : Nat) (h : zv_H) := (zv_cs zv_prog d).2.1 88 [zv_r a0] h
noncomputable def E3_line (d : Nat) (a0 : Nat) (h : zv_H) : zv_O := zv_lim (zv_cs zv_prog d) mc3_line 0 [some (zv_r a0), none] [] h
noncomputable def L3_line_84 (d : Nat) (a0 : Nat) (e0 : Int) (h : zv_H) : zv_O := zv_lim (zv_cs zv_prog d) mc3_line 84 [some (zv_r a0), none] [zv_i e0] h
noncomputable def L3_line_85 (d : Nat) (a0 : Nat) (a1 : Int) (h : zv_H) : zv_O := zv_lim (zv_cs zv_prog d) mc3_line 85 [some (zv_r a0), some (zv_i a1)] [] h
noncomputable def L3_line_125 (d : Nat) (a0 : Nat) (e0 : Int) (h : zv_H) : zv_O := zv_lim (zv_cs zv_prog d) mc3_line 125 [some (zv_r a0), none] [zv_i e0] h
noncomputable def L3_line_126 (d : Nat) (a0 : Nat) (a1 : Int) (h : zv_H) : zv_O := zv_lim (zv_cs zv_prog d) mc3_line 126 [some (zv_r a0), some (zv_i a1)] [] h
noncomputable def L3_line_144 (d : Nat) (a0 : Nat) (a1 : Int) (h : zv_H) : zv_O := zv_lim (zv_cs zv_prog d) mc3_line 144 [some (zv_r a0), some (zv_i a1)] [] h
noncomputable def L3_line_164 (d : Nat) (a0 : Nat) (a1 : Int) (h : zv_H) : zv_O := zv_lim (zv_cs zv_prog d) mc3_line 164 [some (zv_r a0), some (zv_i a1)] [] h
noncomputable def C3_verbHere (d : Nat) (a0 : Nat) (h : zv_H) := (zv_cs zv_prog d).2.1 89 [zv_r a0] h
noncomputable def E3_verbHere (d : Nat) (a0 : Nat) (h : zv_H) : zv_O := zv_lim (zv_cs zv_prog d) mc3_verbHere 0 [some (zv_r a0)] [] h
noncomputable def C4_init (d : Nat) (a0 : Nat) (h : zv_H) := (zv_cs zv_prog d).1 90 [zv_r a0] h
noncomputable def E4_init (d : Nat) (a0 : Nat) (h : zv_H) : zv_O := zv_lim (zv_cs zv_prog d) mc4_init 0 [some (zv_r a0)] [] h
noncomputable def C4_id (d : Nat) (a0 : Int) (a1 : Int) (h : zv_H) := (zv_cs zv_prog d).2.1 91 [zv_i a0, zv_i a1] h
noncomputable def E4_id (d : Nat) (a0 : Int) (a1 : Int) (h : zv_H) : zv_O := zv_lim (zv_cs zv_prog d) mc4_id 0 [some (zv_i a0), some (zv_i a1)] [] h
noncomputable def C4_putter (d : Nat) (a0 : Int) (h : zv_H) := (zv_cs zv_prog d).2.1 92 [zv_i a0] h
noncomputable def E4_putter (d : Nat) (a0 : Int) (h : zv_H) : zv_O := zv_lim (zv_cs zv_prog d) mc4_putter 0 [some (zv_i a0)] [] h
noncomputable def C4_order (d : Nat) (a0 : Int) (h : zv_H) := (zv_cs zv_prog d).2.1 93 [zv_i a0] h
noncomputable def E4_order (d : Nat) (a0 : Int) (h : zv_H) : zv_O := zv_lim (zv_cs zv_prog d) mc4_order 0 [some (zv_i a0)] [] h
noncomputable def C4_isId (d : Nat) (a0 : Int) (h : zv_H) := (zv_cs zv_prog d).2.1 94 [zv_i a0] h
noncomputable def E4_isId (d : Nat) (a0 : Int) (h : zv_H) : zv_O := zv_lim (zv_cs zv_prog d) mc4_isId 0 [some (zv_i a0)] [] h
noncomputable def C4_lay (d : Nat) (a0 : Nat) (a1 : Nat) (h : zv_H) := (zv_cs zv_prog d).1 95 [zv_r a0, zv_r a1] h
noncomputable def E4_lay (d : Nat) (a0 : Nat) (a1 : Nat) (h : zv_H) : zv_O := zv_lim (zv_cs zv_prog d) mc4_lay 0 [some (zv_r a0), some (zv_r a1), none, none] [] h
noncomputable def L4_lay_16 (d : Nat) (a0 : Nat) (a2 : Int) (h : zv_H) : zv_O := zv_lim (zv_cs zv_prog d) mc4_lay 16 [some (zv_r a0), none, some (zv_i a2), none] [] h
noncomputable def L4_lay_77 (d : Nat) (a0 : Nat) (a2 : Int) (a3 : Int) (h : zv_H) : zv_O := zv_lim (zv_cs zv_prog d) mc4_lay 77 [some (zv_r a0), none, some (zv_i a2), some (zv_i a3)] [] h
noncomputable def L4_lay_118 (d : Nat) (a0 : Nat) (h : zv_H) : zv_O := zv_lim (zv_cs zv_prog d) mc4_lay 118 [some (zv_r a0), none, none, none] [] h
noncomputable def C4_walk (d : Nat) (a0 : Nat) (a1 : Nat) (h : zv_H) := (zv_cs zv_prog d).1 96 [zv_r a0, zv_r a1] h
noncomputable def E4_walk (d : Nat) (a0 : Nat) (a1 : Nat) (h : zv_H) : zv_O := zv_lim (zv_cs zv_prog d) mc4_walk 0 [some (zv_r a0), some (zv_r a1), none, none, none, none, none] [] h
noncomputable def L4_walk_28 (d : Nat) (a0 : Nat) (a2 : Int64) (a4 : Int64) (a6 : Nat) (h : zv_H) : zv_O := zv_lim (zv_cs zv_prog d) mc4_walk 28 [some (zv_r a0), none, some (zv_j a2), none, some (zv_j a4), none, some (zv_r a6)] [] h
noncomputable def L4_walk_63 (d : Nat) (a0 : Nat) (a2 : Int64) (a4 : Int64) (a6 : Nat) (h : zv_H) : zv_O := zv_lim (zv_cs zv_prog d) mc4_walk 63 [some (zv_r a0), none, some (zv_j a2), none, some (zv_j a4), none, some (zv_r a6)] [] h
noncomputable def L4_walk_85 (d : Nat) (a0 : Nat) (a2 : Int64) (a4 : Int64) (a6 : Nat) (h : zv_H) : zv_O := zv_lim (zv_cs zv_prog d) mc4_walk 85 [some (zv_r a0), none, some (zv_j a2), none, some (zv_j a4), none, some (zv_r a6)] [] h
noncomputable def C4_link (d : Nat) (a0 : Nat) (a1 : Nat) (h : zv_H) := (zv_cs zv_prog d).1 97 [zv_r a0, zv_r a1] h
noncomputable def E4_link (d : Nat) (a0 : Nat) (a1 : Nat) (h : zv_H) : zv_O := zv_lim (zv_cs zv_prog d) mc4_link 0 [some (zv_r a0), some (zv_r a1), none, none, none, none] [] h
noncomputable def L4_link_31 (d : Nat) (a0 : Nat) (a1 : Nat) (a2 : Int) (a3 : Int) (a4 : Int) (h : zv_H) : zv_O := zv_lim (zv_cs zv_prog d) mc4_link 31 [some (zv_r a0), some (zv_r a1), some (zv_i a2), some (zv_i a3), some (zv_i a4), none] [] h
noncomputable def C4_look (d : Nat) (a0 : Nat) (a1 : Int64) (h : zv_H) := (zv_cs zv_prog d).1 98 [zv_r a0, zv_j a1] h
noncomputable def E4_look (d : Nat) (a0 : Nat) (a1 : Int64) (h : zv_H) : zv_O := zv_lim (zv_cs zv_prog d) mc4_look 0 [some (zv_r a0), some (zv_j a1), none, none, none, none, none] [] h
noncomputable def L4_look_2 (d : Nat) (a0 : Nat) (a1 : Int64) (a3 : Int) (h : zv_H) : zv_O := zv_lim (zv_cs zv_prog d) mc4_look 2 [some (zv_r a0), some (zv_j a1), none, some (zv_i a3), none, none, none] [] h
noncomputable def L4_look_24 (d : Nat) (a0 : Nat) (a1 : Int64) (a3 : Int) (h : zv_H) : zv_O := zv_lim (zv_cs zv_prog d) mc4_look 24 [some (zv_r a0), some (zv_j a1), none, some (zv_i a3), none, none, none] [] h
noncomputable def L4_look_43 (d : Nat) (a0 : Nat) (a1 : Int64) (a3 : Int) (a4 : Nat) (a5 : Int) (h : zv_H) : zv_O := zv_lim (zv_cs zv_prog d) mc4_look 43 [some (zv_r a0), some (zv_j a1), none, some (zv_i a3), some (zv_r a4), some (zv_i a5), none] [] h
noncomputable def L4_look_114 (d : Nat) (a0 : Nat) (a1 : Int64) (a3 : Int) (h : zv_H) : zv_O := zv_lim (zv_cs zv_prog d) mc4_look 114 [some (zv_r a0), some (zv_j a1), none, some (zv_i a3), none, none, none] [] h
noncomputable def L4_look_183 (d : Nat) (a0 : Nat) (a1 : Int64) (a3 : Int) (e0 : Nat) (e1 : Int) (h : zv_H) : zv_O := zv_lim (zv_cs zv_prog d) mc4_look 183 [some (zv_r a0), some (zv_j a1), none, some (zv_i a3), none, none, none] [zv_i e1, zv_r e0] h
noncomputable def L4_look_187 (d : Nat) (a0 : Nat) (a1 : Int64) (a3 : Int) (e0 : Nat) (e1 : Int) (h : zv_H) : zv_O := zv_lim (zv_cs zv_prog d) mc4_look 187 [some (zv_r a0), some (zv_j a1), none, some (zv_i a3), none, none, none] [zv_i e1, zv_r e0] h
noncomputable def L4_look_188 (d : Nat) (a0 : Nat) (a1 : Int64) (a3 : Int) (e0 : Nat) (e1 : Int) (e2 : Int) (h : zv_H) : zv_O := zv_lim (zv_cs zv_prog d) mc4_look 188 [some (zv_r a0), some (zv_j a1), none, some (zv_i a3), none, none, none] [zv_i e2, zv_i e1, zv_r e0] h
noncomputable def C4_numberAt (d : Nat) (a0 : Nat) (a1 : Int) (h : zv_H) := (zv_cs zv_prog d).2.1 99 [zv_r a0, zv_i a1] h
noncomputable def E4_numberAt (d : Nat) (a0 : Nat) (a1 : Int) (h : zv_H) : zv_O := zv_lim (zv_cs zv_prog d) mc4_numberAt 0 [some (zv_r a0), some (zv_i a1)] [] h
noncomputable def C4_idAt (d : Nat) (a0 : Nat) (a1 : Int) (h : zv_H) := (zv_cs zv_prog d).2.1 100 [zv_r a0, zv_i a1] h
noncomputable def E4_idAt (d : Nat) (a0 : Nat) (a1 : Int) (h : zv_H) : zv_O := zv_lim (zv_cs zv_prog d) mc4_idAt 0 [some (zv_r a0), some (zv_i a1)] [] h
noncomputable def C4_seesAt (d : Nat) (a0 : Nat) (a1 : Int) (h : zv_H) := (zv_cs zv_prog d).2.1 101 [zv_r a0, zv_i a1] h
noncomputable def E4_seesAt (d : Nat) (a0 : Nat) (a1 : Int) (h : zv_H) : zv_O := zv_lim (zv_cs zv_prog d) mc4_seesAt 0 [some (zv_r a0), some (zv_i a1)] [] h
noncomputable def C4_placeOf (d : Nat) (a0 : Nat) (a1 : Int) (h : zv_H) := (zv_cs zv_prog d).2.1 102 [zv_r a0, zv_i a1] h
noncomputable def E4_placeOf (d : Nat) (a0 : Nat) (a1 : Int) (h : zv_H) : zv_O := zv_lim (zv_cs zv_prog d) mc4_placeOf 0 [some (zv_r a0), some (zv_i a1), none] [] h
noncomputable def L4_placeOf_2 (d : Nat) (a0 : Nat) (a1 : Int) (a2 : Int) (h : zv_H) : zv_O := zv_lim (zv_cs zv_prog d) mc4_placeOf 2 [some (zv_r a0), some (zv_i a1), some (zv_i a2)] [] h
noncomputable def C4_seenUpTo (d : Nat) (a0 : Nat) (a1 : Int) (h : zv_H) := (zv_cs zv_prog d).2.1 103 [zv_r a0, zv_i a1] h
noncomputable def E4_seenUpTo (d : Nat) (a0 : Nat) (a1 : Int) (h : zv_H) : zv_O := zv_lim (zv_cs zv_prog d) mc4_seenUpTo 0 [some (zv_r a0), some (zv_i a1), none, none, none] [] h
noncomputable def L4_seenUpTo_18 (d : Nat) (a0 : Nat) (a2 : Int) (a3 : Int) (a4 : Int) (h : zv_H) : zv_O := zv_lim (zv_cs zv_prog d) mc4_seenUpTo 18 [some (zv_r a0), none, some (zv_i a2), some (zv_i a3), some (zv_i a4)] [] h
noncomputable def C4_outOfForce (d : Nat) (a0 : Nat) (h : zv_H) := (zv_cs zv_prog d).2.2.1 104 [zv_r a0] h
noncomputable def E4_outOfForce (d : Nat) (a0 : Nat) (h : zv_H) : zv_O := zv_lim (zv_cs zv_prog d) mc4_outOfForce 0 [some (zv_r a0)] [] h
noncomputable def C4_cutsInForce (d : Nat) (a0 : Nat) (a1 : Int) (h : zv_H) := (zv_cs zv_prog d).2.1 105 [zv_r a0, zv_i a1] h
noncomputable def E4_cutsInForce (d : Nat) (a0 : Nat) (a1 : Int) (h : zv_H) : zv_O := zv_lim (zv_cs zv_prog d) mc4_cutsInForce 0 [some (zv_r a0), some (zv_i a1), none, none, none] [] h
noncomputable def L4_cutsInForce_4 (d : Nat) (a0 : Nat) (a1 : Int) (a2 : Int) (a3 : Int) (h : zv_H) : zv_O := zv_lim (zv_cs zv_prog d) mc4_cutsInForce 4 [some (zv_r a0), some (zv_i a1), some (zv_i a2), some (zv_i a3), none] [] h
noncomputable def C4_lastCut (d : Nat) (a0 : Nat) (a1 : Int) (h : zv_H) := (zv_cs zv_prog d).2.1 106 [zv_r a0, zv_i a1] h
noncomputable def E4_lastCut (d : Nat) (a0 : Nat) (a1 : Int) (h : zv_H) : zv_O := zv_lim (zv_cs zv_prog d) mc4_lastCut 0 [some (zv_r a0), some (zv_i a1), none] [] h
noncomputable def L4_lastCut_7 (d : Nat) (a0 : Nat) (a1 : Int) (a2 : Int) (h : zv_H) : zv_O := zv_lim (zv_cs zv_prog d) mc4_lastCut 7 [some (zv_r a0), some (zv_i a1), some (zv_i a2)] [] h
noncomputable def C4_leaningOn (d : Nat) (a0 : Nat) (a1 : Nat) (h : zv_H) := (zv_cs zv_prog d).2.2.1 107 [zv_r a0, zv_r a1] h
noncomputable def E4_leaningOn (d : Nat) (a0 : Nat) (a1 : Nat) (h : zv_H) : zv_O := zv_lim (zv_cs zv_prog d) mc4_leaningOn 0 [some (zv_r a0), some (zv_r a1), none, none, none, none] [] h
noncomputable def L4_leaningOn_8 (d : Nat) (a0 : Nat) (a1 : Nat) (a2 : Int64) (a4 : Int) (h : zv_H) : zv_O := zv_lim (zv_cs zv_prog d) mc4_leaningOn 8 [some (zv_r a0), some (zv_r a1), some (zv_j a2), none, some (zv_i a4), none] [] h
noncomputable def C4_groundOf (d : Nat) (a0 : Nat) (a1 : Nat) (h : zv_H) := (zv_cs zv_prog d).2.2.1 108 [zv_r a0, zv_r a1] h
noncomputable def E4_groundOf (d : Nat) (a0 : Nat) (a1 : Nat) (h : zv_H) : zv_O := zv_lim (zv_cs zv_prog d) mc4_groundOf 0 [some (zv_r a0), some (zv_r a1), none, none, none] [] h
noncomputable def L4_groundOf_8 (d : Nat) (a2 : Int64) (a4 : Nat) (h : zv_H) : zv_O := zv_lim (zv_cs zv_prog d) mc4_groundOf 8 [none, none, some (zv_j a2), none, some (zv_r a4)] [] h
noncomputable def C5_init (d : Nat) (a0 : Nat) (a1 : Int) (h : zv_H) := (zv_cs zv_prog d).1 109 [zv_r a0, zv_i a1] h
noncomputable def E5_init (d : Nat) (a0 : Nat) (a1 : Int) (h : zv_H) : zv_O := zv_lim (zv_cs zv_prog d) mc5_init 0 [some (zv_r a0), some (zv_i a1)] [] h
noncomputable def C5_open (d : Nat) (a0 : Nat) (a1 : Nat) (a2 : Int) (a3 : Int) (a4 : Int) (h : zv_H) := (zv_cs zv_prog d).1 110 [zv_r a0, zv_r a1, zv_i a2, zv_i a3, zv_i a4] h
noncomputable def E5_open (d : Nat) (a0 : Nat) (a1 : Nat) (a2 : Int) (a3 : Int) (a4 : Int) (h : zv_H) : zv_O := zv_lim (zv_cs zv_prog d) mc5_open 0 [some (zv_r a0), some (zv_r a1), some (zv_i a2), some (zv_i a3), some (zv_i a4)] [] h
noncomputable def L5_open_51 (d : Nat) (a0 : Nat) (e0 : Nat) (e1 : Int) (h : zv_H) : zv_O := zv_lim (zv_cs zv_prog d) mc5_open 51 [some (zv_r a0), none, none, none, none] [zv_i e1, zv_r e0] h
noncomputable def C5_bit (d : Nat) (a0 : Nat) (h : zv_H) := (zv_cs zv_prog d).2.2.1 111 [zv_r a0] h
noncomputable def E5_bit (d : Nat) (a0 : Nat) (h : zv_H) : zv_O := zv_lim (zv_cs zv_prog d) mc5_bit 0 [some (zv_r a0)] [] h
noncomputable def C5_edits (d : Nat) (a0 : Nat) (h : zv_H) := (zv_cs zv_prog d).2.1 112 [zv_r a0] h
noncomputable def E5_edits (d : Nat) (a0 : Nat) (h : zv_H) : zv_O := zv_lim (zv_cs zv_prog d) mc5_edits 0 [some (zv_r a0)] [] h
noncomputable def C5_brings (d : Nat) (a0 : Nat) (h : zv_H) := (zv_cs zv_prog d).2.1 113 [zv_r a0] h
noncomputable def E5_brings (d : Nat) (a0 : Nat) (h : zv_H) : zv_O := zv_lim (zv_cs zv_prog d) mc5_brings 0 [some (zv_r a0)] [] h
noncomputable def C5_idAt (d : Nat) (a0 : Nat) (a1 : Int) (h : zv_H) := (zv_cs zv_prog d).2.1 114 [zv_r a0, zv_i a1] h
noncomputable def E5_idAt (d : Nat) (a0 : Nat) (a1 : Int) (h : zv_H) : zv_O := zv_lim (zv_cs zv_prog d) mc5_idAt 0 [some (zv_r a0), some (zv_i a1)] [] h
noncomputable def C5_addId (d : Nat) (a0 : Nat) (a1 : Int) (h : zv_H) := (zv_cs zv_prog d).1 115 [zv_r a0, zv_i a1] h
noncomputable def E5_addId (d : Nat) (a0 : Nat) (a1 : Int) (h : zv_H) : zv_O := zv_lim (zv_cs zv_prog d) mc5_addId 0 [some (zv_r a0), some (zv_i a1)] [] h
noncomputable def C5_tookAt (d : Nat) (a0 : Nat) (a1 : Int) (h : zv_H) := (zv_cs zv_prog d).2.1 116 [zv_r a0, zv_i a1] h
noncomputable def E5_tookAt (d : Nat) (a0 : Nat) (a1 : Int) (h : zv_H) : zv_O := zv_lim (zv_cs zv_prog d) mc5_tookAt 0 [some (zv_r a0), some (zv_i a1)] [] h
noncomputable def C5_tookIt (d : Nat) (a0 : Nat) (a1 : Int) (h : zv_H) := (zv_cs zv_prog d).2.1 117 [zv_r a0, zv_i a1] h
noncomputable def E5_tookIt (d : Nat) (a0 : Nat) (a1 : Int) (h : zv_H) : zv_O := zv_lim (zv_cs zv_prog d) mc5_tookIt 0 [some (zv_r a0), some (zv_i a1), none] [] h
noncomputable def L5_tookIt_2 (d : Nat) (a0 : Nat) (a1 : Int) (a2 : Int) (h : zv_H) : zv_O := zv_lim (zv_cs zv_prog d) mc5_tookIt 2 [some (zv_r a0), some (zv_i a1), some (zv_i a2)] [] h
noncomputable def C6_init (d : Nat) (a0 : Nat) (h : zv_H) := (zv_cs zv_prog d).1 118 [zv_r a0] h
noncomputable def E6_init (d : Nat) (a0 : Nat) (h : zv_H) : zv_O := zv_lim (zv_cs zv_prog d) mc6_init 0 [some (zv_r a0)] [] h
noncomputable def C6_add (d : Nat) (a0 : Nat) (a1 : Nat) (a2 : Int) (h : zv_H) := (zv_cs zv_prog d).1 119 [zv_r a0, zv_r a1, zv_i a2] h
noncomputable def E6_add (d : Nat) (a0 : Nat) (a1 : Nat) (a2 : Int) (h : zv_H) : zv_O := zv_lim (zv_cs zv_prog d) mc6_add 0 [some (zv_r a0), some (zv_r a1), some (zv_i a2), none] [] h
noncomputable def C6_slot (d : Nat) (a0 : Nat) (a1 : Int) (h : zv_H) := (zv_cs zv_prog d).2.1 120 [zv_r a0, zv_i a1] h
noncomputable def E6_slot (d : Nat) (a0 : Nat) (a1 : Int) (h : zv_H) : zv_O := zv_lim (zv_cs zv_prog d) mc6_slot 0 [some (zv_r a0), some (zv_i a1)] [] h
noncomputable def C6_stateAt (d : Nat) (a0 : Nat) (a1 : Int) (h : zv_H) := (zv_cs zv_prog d).2.1 121 [zv_r a0, zv_i a1] h
noncomputable def E6_stateAt (d : Nat) (a0 : Nat) (a1 : Int) (h : zv_H) : zv_O := zv_lim (zv_cs zv_prog d) mc6_stateAt 0 [some (zv_r a0), some (zv_i a1), none] [] h
noncomputable def C6_timeAt (d : Nat) (a0 : Nat) (a1 : Int) (h : zv_H) := (zv_cs zv_prog d).2.1 122 [zv_r a0, zv_i a1] h
noncomputable def E6_timeAt (d : Nat) (a0 : Nat) (a1 : Int) (h : zv_H) : zv_O := zv_lim (zv_cs zv_prog d) mc6_timeAt 0 [some (zv_r a0), some (zv_i a1), none] [] h
noncomputable def C6_forget (d : Nat) (a0 : Nat) (a1 : Int) (h : zv_H) := (zv_cs zv_prog d).1 123 [zv_r a0, zv_i a1] h
noncomputable def E6_forget (d : Nat) (a0 : Nat) (a1 : Int) (h : zv_H) : zv_O := zv_lim (zv_cs zv_prog d) mc6_forget 0 [some (zv_r a0), some (zv_i a1), none] [] h
noncomputable def L6_forget_2 (d : Nat) (a0 : Nat) (a1 : Int) (a2 : Int) (h : zv_H) : zv_O := zv_lim (zv_cs zv_prog d) mc6_forget 2 [some (zv_r a0), some (zv_i a1), some (zv_i a2)] [] h
noncomputable def C6_keep (d : Nat) (a0 : Nat) (h : zv_H) := (zv_cs zv_prog d).1 124 [zv_r a0] h
noncomputable def E6_keep (d : Nat) (a0 : Nat) (h : zv_H) : zv_O := zv_lim (zv_cs zv_prog d) mc6_keep 0 [some (zv_r a0)] [] h
noncomputable def C6_giveBack (d : Nat) (a0 : Nat) (h : zv_H) := (zv_cs zv_prog d).1 125 [zv_r a0] h
noncomputable def E6_giveBack (d : Nat) (a0 : Nat) (h : zv_H) : zv_O := zv_lim (zv_cs zv_prog d) mc6_giveBack 0 [some (zv_r a0)] [] h
noncomputable def C7_init (d : Nat) (a0 : Nat) (h : zv_H) := (zv_cs zv_prog d).1 126 [zv_r a0] h
noncomputable def E7_init (d : Nat) (a0 : Nat) (h : zv_H) : zv_O := zv_lim (zv_cs zv_prog d) mc7_init 0 [some (zv_r a0)] [] h
noncomputable def C7_clear (d : Nat) (a0 : Nat) (h : zv_H) := (zv_cs zv_prog d).1 127 [zv_r a0] h
noncomputable def E7_clear (d : Nat) (a0 : Nat) (h : zv_H) : zv_O := zv_lim (zv_cs zv_prog d) mc7_clear 0 [some (zv_r a0)] [] h
noncomputable def C7_add (d : Nat) (a0 : Nat) (a1 : Int) (h : zv_H) := (zv_cs zv_prog d).1 128 [zv_r a0, zv_i a1] h
noncomputable def E7_add (d : Nat) (a0 : Nat) (a1 : Int) (h : zv_H) : zv_O := zv_lim (zv_cs zv_prog d) mc7_add 0 [some (zv_r a0), some (zv_i a1)] [] h
noncomputable def C7_at (d : Nat) (a0 : Nat) (a1 : Int) (h : zv_H) := (zv_cs zv_prog d).2.1 129 [zv_r a0, zv_i a1] h
noncomputable def E7_at (d : Nat) (a0 : Nat) (a1 : Int) (h : zv_H) : zv_O := zv_lim (zv_cs zv_prog d) mc7_at 0 [some (zv_r a0), some (zv_i a1)] [] h
noncomputable def C7_key (d : Nat) (a0 : Nat) (h : zv_H) := (zv_cs zv_prog d).2.1 130 [zv_r a0] h
noncomputable def E7_key (d : Nat) (a0 : Nat) (h : zv_H) : zv_O := zv_lim (zv_cs zv_prog d) mc7_key 0 [some (zv_r a0), none, none] [] h
noncomputable def L7_key_24 (d : Nat) (a0 : Nat) (a1 : Int) (a2 : Int) (h : zv_H) : zv_O := zv_lim (zv_cs zv_prog d) mc7_key 24 [some (zv_r a0), some (zv_i a1), some (zv_i a2)] [] h
noncomputable def C8_init (d : Nat) (a0 : Nat) (h : zv_H) := (zv_cs zv_prog d).1 131 [zv_r a0] h
noncomputable def E8_init (d : Nat) (a0 : Nat) (h : zv_H) : zv_O := zv_lim (zv_cs zv_prog d) mc8_init 0 [some (zv_r a0)] [] h
noncomputable def C8_refused (d : Nat) (a0 : Nat) (a1 : Int) (h : zv_H) := (zv_cs zv_prog d).2.1 132 [zv_r a0, zv_i a1] h
noncomputable def E8_refused (d : Nat) (a0 : Nat) (a1 : Int) (h : zv_H) : zv_O := zv_lim (zv_cs zv_prog d) mc8_refused 0 [some (zv_r a0), some (zv_i a1)] [] h
noncomputable def C8_given (d : Nat) (a0 : Nat) (a1 : Int) (h : zv_H) := (zv_cs zv_prog d).2.1 133 [zv_r a0, zv_i a1] h
noncomputable def E8_given (d : Nat) (a0 : Nat) (a1 : Int) (h : zv_H) : zv_O := zv_lim (zv_cs zv_prog d) mc8_given 0 [some (zv_r a0), some (zv_i a1)] [] h
noncomputable def C8_answered (d : Nat) (a0 : Nat) (a1 : Int) (h : zv_H) := (zv_cs zv_prog d).2.1 134 [zv_r a0, zv_i a1] h
noncomputable def E8_answered (d : Nat) (a0 : Nat) (a1 : Int) (h : zv_H) : zv_O := zv_lim (zv_cs zv_prog d) mc8_answered 0 [some (zv_r a0), some (zv_i a1)] [] h
noncomputable def C8_within (d : Nat) (a0 : Int) (a1 : Int) (a2 : Int) (h : zv_H) := (zv_cs zv_prog d).2.1 135 [zv_i a0, zv_i a1, zv_i a2] h
noncomputable def E8_within (d : Nat) (a0 : Int) (a1 : Int) (a2 : Int) (h : zv_H) : zv_O := zv_lim (zv_cs zv_prog d) mc8_within 0 [some (zv_i a0), some (zv_i a1), some (zv_i a2)] [] h
noncomputable def C8_status (d : Nat) (a0 : Nat) (h : zv_H) := (zv_cs zv_prog d).2.1 136 [zv_r a0] h
noncomputable def E8_status (d : Nat) (a0 : Nat) (h : zv_H) : zv_O := zv_lim (zv_cs zv_prog d) mc8_status 0 [some (zv_r a0)] [] h
noncomputable def C8_feed (d : Nat) (a0 : Nat) (a1 : Int) (a2 : Int) (a3 : Int) (a4 : Int) (a5 : Int) (h : zv_H) := (zv_cs zv_prog d).2.1 137 [zv_r a0, zv_i a1, zv_i a2, zv_i a3, zv_i a4, zv_i a5] h
noncomputable def E8_feed (d : Nat) (a0 : Nat) (a1 : Int) (a2 : Int) (a3 : Int) (a4 : Int) (a5 : Int) (h : zv_H) : zv_O := zv_lim (zv_cs zv_prog d) mc8_feed 0 [some (zv_r a0), some (zv_i a1), some (zv_i a2), some (zv_i a3), some (zv_i a4), some (zv_i a5)] [] h
noncomputable def C8_feedInt (d : Nat) (a0 : Nat) (a1 : Int) (h : zv_H) := (zv_cs zv_prog d).1 138 [zv_r a0, zv_i a1] h
noncomputable def E8_feedInt (d : Nat) (a0 : Nat) (a1 : Int) (h : zv_H) : zv_O := zv_lim (zv_cs zv_prog d) mc8_feedInt 0 [some (zv_r a0), some (zv_i a1), none] [] h
noncomputable def L8_feedInt_3 (d : Nat) (a0 : Nat) (a1 : Int) (a2 : Int) (h : zv_H) : zv_O := zv_lim (zv_cs zv_prog d) mc8_feedInt 3 [some (zv_r a0), some (zv_i a1), some (zv_i a2)] [] h
noncomputable def C8_fault (d : Nat) (a0 : Nat) (a1 : Int) (h : zv_H) := (zv_cs zv_prog d).2.1 139 [zv_r a0, zv_i a1] h
noncomputable def E8_fault (d : Nat) (a0 : Nat) (a1 : Int) (h : zv_H) : zv_O := zv_lim (zv_cs zv_prog d) mc8_fault 0 [some (zv_r a0), some (zv_i a1)] [] h
noncomputable def C8_type (d : Nat) (a0 : Nat) (a1 : Int) (a2 : Int) (h : zv_H) := (zv_cs zv_prog d).2.1 140 [zv_r a0, zv_i a1, zv_i a2] h
noncomputable def E8_type (d : Nat) (a0 : Nat) (a1 : Int) (a2 : Int) (h : zv_H) : zv_O := zv_lim (zv_cs zv_prog d) mc8_type 0 [some (zv_r a0), some (zv_i a1), some (zv_i a2), none, none] [] h
noncomputable def L8_type_2 (d : Nat) (a0 : Nat) (a1 : Int) (a2 : Int) (a3 : Int) (h : zv_H) : zv_O := zv_lim (zv_cs zv_prog d) mc8_type 2 [some (zv_r a0), some (zv_i a1), some (zv_i a2), some (zv_i a3), none] [] h
noncomputable def L8_type_36 (d : Nat) (a0 : Nat) (a1 : Int) (a2 : Int) (a3 : Int) (h : zv_H) : zv_O := zv_lim (zv_cs zv_prog d) mc8_type 36 [some (zv_r a0), some (zv_i a1), some (zv_i a2), some (zv_i a3), none] [] h
noncomputable def L8_type_46 (d : Nat) (a0 : Nat) (a1 : Int) (a2 : Int) (a3 : Int) (a4 : Int) (h : zv_H) : zv_O := zv_lim (zv_cs zv_prog d) mc8_type 46 [some (zv_r a0), some (zv_i a1), some (zv_i a2), some (zv_i a3), some (zv_i a4)] [] h
noncomputable def C8_typedLetter (d : Nat) (a0 : Int) (a1 : Int) (a2 : Int) (h : zv_H) := (zv_cs zv_prog d).2.1 141 [zv_i a0, zv_i a1, zv_i a2] h
noncomputable def E8_typedLetter (d : Nat) (a0 : Int) (a1 : Int) (a2 : Int) (h : zv_H) : zv_O := zv_lim (zv_cs zv_prog d) mc8_typedLetter 0 [some (zv_i a0), some (zv_i a1), some (zv_i a2), none] [] h
noncomputable def C8_load (d : Nat) (a0 : Nat) (a1 : Int) (h : zv_H) := (zv_cs zv_prog d).2.1 142 [zv_r a0, zv_i a1] h
noncomputable def E8_load (d : Nat) (a0 : Nat) (a1 : Int) (h : zv_H) : zv_O := zv_lim (zv_cs zv_prog d) mc8_load 0 [some (zv_r a0), some (zv_i a1), none] [] h
noncomputable def L8_load_54 (d : Nat) (a0 : Nat) (a1 : Int) (a2 : Int) (h : zv_H) : zv_O := zv_lim (zv_cs zv_prog d) mc8_load 54 [some (zv_r a0), some (zv_i a1), some (zv_i a2)] [] h
noncomputable def L8_load_117 (d : Nat) (a0 : Nat) (h : zv_H) : zv_O := zv_lim (zv_cs zv_prog d) mc8_load 117 [some (zv_r a0), none, none] [] h
noncomputable def C8_done (d : Nat) (a0 : Nat) (a1 : Nat) (h : zv_H) := (zv_cs zv_prog d).2.1 143 [zv_r a0, zv_r a1] h
noncomputable def E8_done (d : Nat) (a0 : Nat) (a1 : Nat) (h : zv_H) : zv_O := zv_lim (zv_cs zv_prog d) mc8_done 0 [some (zv_r a0), some (zv_r a1)] [] h
noncomputable def C8_many (d : Nat) (a0 : Nat) (a1 : Int) (h : zv_H) := (zv_cs zv_prog d).2.1 144 [zv_r a0, zv_i a1] h
noncomputable def E8_many (d : Nat) (a0 : Nat) (a1 : Int) (h : zv_H) : zv_O := zv_lim (zv_cs zv_prog d) mc8_many 0 [some (zv_r a0), some (zv_i a1)] [] h
noncomputable def C8_letter (d : Nat) (a0 : Nat) (a1 : Int) (a2 : Int) (h : zv_H) := (zv_cs zv_prog d).2.1 145 [zv_r a0, zv_i a1, zv_i a2] h
noncomputable def E8_letter (d : Nat) (a0 : Nat) (a1 : Int) (a2 : Int) (h : zv_H) : zv_O := zv_lim (zv_cs zv_prog d) mc8_letter 0 [some (zv_r a0), some (zv_i a1), some (zv_i a2), none] [] h
noncomputable def C8_state (d : Nat) (a0 : Nat) (a1 : Int) (a2 : Int) (h : zv_H) := (zv_cs zv_prog d).2.1 146 [zv_r a0, zv_i a1, zv_i a2] h
noncomputable def E8_state (d : Nat) (a0 : Nat) (a1 : Int) (a2 : Int) (h : zv_H) : zv_O := zv_lim (zv_cs zv_prog d) mc8_state 0 [some (zv_r a0), some (zv_i a1), some (zv_i a2), none] [] h
noncomputable def L8_state_107 (d : Nat) (e0 : Nat) (e1 : Int) (h : zv_H) : zv_O := zv_lim (zv_cs zv_prog d) mc8_state 107 [none, none, none, none] [zv_i e1, zv_r e0] h
noncomputable def L8_state_166 (d : Nat) (e0 : Nat) (e1 : Int) (h : zv_H) : zv_O := zv_lim (zv_cs zv_prog d) mc8_state 166 [none, none, none, none] [zv_i e1, zv_r e0] h
noncomputable def C8_child (d : Nat) (a0 : Nat) (a1 : Int) (a2 : Int) (h : zv_H) := (zv_cs zv_prog d).2.1 147 [zv_r a0, zv_i a1, zv_i a2] h
noncomputable def E8_child (d : Nat) (a0 : Nat) (a1 : Int) (a2 : Int) (h : zv_H) : zv_O := zv_lim (zv_cs zv_prog d) mc8_child 0 [some (zv_r a0), some (zv_i a1), some (zv_i a2), none, none] [] h
noncomputable def C8_force (d : Nat) (a0 : Nat) (a1 : Int) (a2 : Int) (h : zv_H) := (zv_cs zv_prog d).2.1 148 [zv_r a0, zv_i a1, zv_i a2] h
noncomputable def E8_force (d : Nat) (a0 : Nat) (a1 : Int) (a2 : Int) (h : zv_H) : zv_O := zv_lim (zv_cs zv_prog d) mc8_force 0 [some (zv_r a0), some (zv_i a1), some (zv_i a2), none, none, none] [] h
noncomputable def L8_force_28 (d : Nat) (a0 : Nat) (h : zv_H) : zv_O := zv_lim (zv_cs zv_prog d) mc8_force 28 [some (zv_r a0), none, none, none, none, none] [] h
noncomputable def L8_force_92 (d : Nat) (e0 : Nat) (e1 : Int) (h : zv_H) : zv_O := zv_lim (zv_cs zv_prog d) mc8_force 92 [none, none, none, none, none, none] [zv_i e1, zv_r e0] h
noncomputable def C8_blame (d : Nat) (a0 : Nat) (a1 : Int) (a2 : Int) (h : zv_H) := (zv_cs zv_prog d).2.1 149 [zv_r a0, zv_i a1, zv_i a2] h
noncomputable def E8_blame (d : Nat) (a0 : Nat) (a1 : Int) (a2 : Int) (h : zv_H) : zv_O := zv_lim (zv_cs zv_prog d) mc8_blame 0 [some (zv_r a0), some (zv_i a1), some (zv_i a2), none] [] h
noncomputable def L8_blame_13 (d : Nat) (a0 : Nat) (h : zv_H) : zv_O := zv_lim (zv_cs zv_prog d) mc8_blame 13 [some (zv_r a0), none, none, none] [] h
noncomputable def C8_row (d : Nat) (a0 : Nat) (a1 : Int) (a2 : Int) (h : zv_H) := (zv_cs zv_prog d).2.1 150 [zv_r a0, zv_i a1, zv_i a2] h
noncomputable def E8_row (d : Nat) (a0 : Nat) (a1 : Int) (a2 : Int) (h : zv_H) : zv_O := zv_lim (zv_cs zv_prog d) mc8_row 0 [some (zv_r a0), some (zv_i a1), some (zv_i a2), none, none] [] h
noncomputable def L8_row_13 (d : Nat) (a0 : Nat) (h : zv_H) : zv_O := zv_lim (zv_cs zv_prog d) mc8_row 13 [some (zv_r a0), none, none, none, none] [] h
noncomputable def L8_row_114 (d : Nat) (e0 : Nat) (e1 : Int) (h : zv_H) : zv_O := zv_lim (zv_cs zv_prog d) mc8_row 114 [none, none, none, none, none] [zv_i e1, zv_r e0] h
noncomputable def C8_visit (d : Nat) (a0 : Nat) (a1 : Int) (a2 : Int) (h : zv_H) := (zv_cs zv_prog d).2.1 151 [zv_r a0, zv_i a1, zv_i a2] h
noncomputable def E8_visit (d : Nat) (a0 : Nat) (a1 : Int) (a2 : Int) (h : zv_H) : zv_O := zv_lim (zv_cs zv_prog d) mc8_visit 0 [some (zv_r a0), some (zv_i a1), some (zv_i a2)] [] h
noncomputable def L8_visit_19 (d : Nat) (a0 : Nat) (h : zv_H) : zv_O := zv_lim (zv_cs zv_prog d) mc8_visit 19 [some (zv_r a0), none, none] [] h
noncomputable def L8_visit_75 (d : Nat) (e0 : Nat) (e1 : Int) (h : zv_H) : zv_O := zv_lim (zv_cs zv_prog d) mc8_visit 75 [none, none, none] [zv_i e1, zv_r e0] h
noncomputable def C8_named (d : Nat) (a0 : Nat) (h : zv_H) := (zv_cs zv_prog d).2.1 152 [zv_r a0] h
noncomputable def E8_named (d : Nat) (a0 : Nat) (h : zv_H) : zv_O := zv_lim (zv_cs zv_prog d) mc8_named 0 [some (zv_r a0), none, none] [] h
noncomputable def C8_leans (d : Nat) (a0 : Nat) (a1 : Int) (a2 : Int) (h : zv_H) := (zv_cs zv_prog d).2.1 153 [zv_r a0, zv_i a1, zv_i a2] h
noncomputable def E8_leans (d : Nat) (a0 : Nat) (a1 : Int) (a2 : Int) (h : zv_H) : zv_O := zv_lim (zv_cs zv_prog d) mc8_leans 0 [some (zv_r a0), some (zv_i a1), some (zv_i a2), none, none, none, none] [] h
noncomputable def L8_leans_28 (d : Nat) (a0 : Nat) (h : zv_H) : zv_O := zv_lim (zv_cs zv_prog d) mc8_leans 28 [some (zv_r a0), none, none, none, none, none, none] [] h
noncomputable def L8_leans_52 (d : Nat) (a0 : Nat) (a3 : Nat) (a4 : Nat) (e0 : Nat) (h : zv_H) : zv_O := zv_lim (zv_cs zv_prog d) mc8_leans 52 [some (zv_r a0), none, none, some (zv_r a3), some (zv_r a4), none, none] [zv_r e0] h
noncomputable def L8_leans_66 (d : Nat) (a0 : Nat) (a5 : Nat) (e0 : Nat) (h : zv_H) : zv_O := zv_lim (zv_cs zv_prog d) mc8_leans 66 [some (zv_r a0), none, none, none, none, some (zv_r a5), none] [zv_r e0] h
noncomputable def L8_leans_94 (d : Nat) (a0 : Nat) (h : zv_H) : zv_O := zv_lim (zv_cs zv_prog d) mc8_leans 94 [some (zv_r a0), none, none, none, none, none, none] [] h
noncomputable def L8_leans_122 (d : Nat) (e0 : Nat) (e1 : Int) (h : zv_H) : zv_O := zv_lim (zv_cs zv_prog d) mc8_leans 122 [none, none, none, none, none, none, none] [zv_i e1, zv_r e0] h
noncomputable def C8_put (d : Nat) (a0 : Nat) (a1 : Int) (h : zv_H) := (zv_cs zv_prog d).2.1 154 [zv_r a0, zv_i a1] h
noncomputable def E8_put (d : Nat) (a0 : Nat) (a1 : Int) (h : zv_H) : zv_O := zv_lim (zv_cs zv_prog d) mc8_put 0 [some (zv_r a0), some (zv_i a1)] [] h
noncomputable def C8_cut (d : Nat) (a0 : Nat) (a1 : Int) (a2 : Int) (h : zv_H) := (zv_cs zv_prog d).2.1 155 [zv_r a0, zv_i a1, zv_i a2] h
noncomputable def E8_cut (d : Nat) (a0 : Nat) (a1 : Int) (a2 : Int) (h : zv_H) : zv_O := zv_lim (zv_cs zv_prog d) mc8_cut 0 [some (zv_r a0), some (zv_i a1), some (zv_i a2)] [] h
noncomputable def C8_wait (d : Nat) (a0 : Nat) (a1 : Int) (h : zv_H) := (zv_cs zv_prog d).2.1 156 [zv_r a0, zv_i a1] h
noncomputable def E8_wait (d : Nat) (a0 : Nat) (a1 : Int) (h : zv_H) : zv_O := zv_lim (zv_cs zv_prog d) mc8_wait 0 [some (zv_r a0), some (zv_i a1)] [] h
noncomputable def C8_undo (d : Nat) (a0 : Nat) (h : zv_H) := (zv_cs zv_prog d).2.1 157 [zv_r a0] h
noncomputable def E8_undo (d : Nat) (a0 : Nat) (h : zv_H) : zv_O := zv_lim (zv_cs zv_prog d) mc8_undo 0 [some (zv_r a0)] [] h
noncomputable def C8_redo (d : Nat) (a0 : Nat) (h : zv_H) := (zv_cs zv_prog d).2.1 158 [zv_r a0] h
noncomputable def E8_redo (d : Nat) (a0 : Nat) (h : zv_H) : zv_O := zv_lim (zv_cs zv_prog d) mc8_redo 0 [some (zv_r a0)] [] h
noncomputable def C8_go (d : Nat) (a0 : Nat) (a1 : Int) (h : zv_H) := (zv_cs zv_prog d).2.1 159 [zv_r a0, zv_i a1] h
noncomputable def E8_go (d : Nat) (a0 : Nat) (a1 : Int) (h : zv_H) : zv_O := zv_lim (zv_cs zv_prog d) mc8_go 0 [some (zv_r a0), some (zv_i a1)] [] h
noncomputable def C8_name (d : Nat) (a0 : Nat) (h : zv_H) := (zv_cs zv_prog d).2.1 160 [zv_r a0] h
noncomputable def E8_name (d : Nat) (a0 : Nat) (h : zv_H) : zv_O := zv_lim (zv_cs zv_prog d) mc8_name 0 [some (zv_r a0)] [] h
noncomputable def C8_unname (d : Nat) (a0 : Nat) (h : zv_H) := (zv_cs zv_prog d).2.1 161 [zv_r a0] h
noncomputable def E8_unname (d : Nat) (a0 : Nat) (h : zv_H) : zv_O := zv_lim (zv_cs zv_prog d) mc8_unname 0 [some (zv_r a0)] [] h
noncomputable def C8_withdraw (d : Nat) (a0 : Nat) (a1 : Int) (h : zv_H) := (zv_cs zv_prog d).2.1 162 [zv_r a0, zv_i a1] h
noncomputable def E8_withdraw (d : Nat) (a0 : Nat) (a1 : Int) (h : zv_H) : zv_O := zv_lim (zv_cs zv_prog d) mc8_withdraw 0 [some (zv_r a0), some (zv_i a1)] [] h
noncomputable def C8_restore (d : Nat) (a0 : Nat) (a1 : Int) (h : zv_H) := (zv_cs zv_prog d).2.1 163 [zv_r a0, zv_i a1] h
noncomputable def E8_restore (d : Nat) (a0 : Nat) (a1 : Int) (h : zv_H) : zv_O := zv_lim (zv_cs zv_prog d) mc8_restore 0 [some (zv_r a0), some (zv_i a1)] [] h
noncomputable def C8_carry (d : Nat) (a0 : Nat) (a1 : Int) (h : zv_H) := (zv_cs zv_prog d).2.1 164 [zv_r a0, zv_i a1] h
noncomputable def E8_carry (d : Nat) (a0 : Nat) (a1 : Int) (h : zv_H) : zv_O := zv_lim (zv_cs zv_prog d) mc8_carry 0 [some (zv_r a0), some (zv_i a1)] [] h
noncomputable def C8_merge (d : Nat) (a0 : Nat) (a1 : Int) (h : zv_H) := (zv_cs zv_prog d).2.1 165 [zv_r a0, zv_i a1] h
noncomputable def E8_merge (d : Nat) (a0 : Nat) (a1 : Int) (h : zv_H) : zv_O := zv_lim (zv_cs zv_prog d) mc8_merge 0 [some (zv_r a0), some (zv_i a1)] [] h
noncomputable def C8_prune (d : Nat) (a0 : Nat) (a1 : Int) (h : zv_H) := (zv_cs zv_prog d).2.1 166 [zv_r a0, zv_i a1] h
noncomputable def E8_prune (d : Nat) (a0 : Nat) (a1 : Int) (h : zv_H) : zv_O := zv_lim (zv_cs zv_prog d) mc8_prune 0 [some (zv_r a0), some (zv_i a1)] [] h
noncomputable def C8_common (d : Nat) (a0 : Nat) (a1 : Int) (a2 : Int) (h : zv_H) := (zv_cs zv_prog d).2.1 167 [zv_r a0, zv_i a1, zv_i a2] h
noncomputable def E8_common (d : Nat) (a0 : Nat) (a1 : Int) (a2 : Int) (h : zv_H) : zv_O := zv_lim (zv_cs zv_prog d) mc8_common 0 [some (zv_r a0), some (zv_i a1), some (zv_i a2), none, none] [] h
noncomputable def L8_common_28 (d : Nat) (a0 : Nat) (h : zv_H) : zv_O := zv_lim (zv_cs zv_prog d) mc8_common 28 [some (zv_r a0), none, none, none, none] [] h
noncomputable def C8_way (d : Nat) (a0 : Nat) (a1 : Int) (a2 : Int) (a3 : Int) (h : zv_H) := (zv_cs zv_prog d).2.1 168 [zv_r a0, zv_i a1, zv_i a2, zv_i a3] h
noncomputable def E8_way (d : Nat) (a0 : Nat) (a1 : Int) (a2 : Int) (a3 : Int) (h : zv_H) : zv_O := zv_lim (zv_cs zv_prog d) mc8_way 0 [some (zv_r a0), some (zv_i a1), some (zv_i a2), some (zv_i a3), none, none, none] [] h
noncomputable def L8_way_40 (d : Nat) (a0 : Nat) (h : zv_H) : zv_O := zv_lim (zv_cs zv_prog d) mc8_way 40 [some (zv_r a0), none, none, none, none, none, none] [] h
noncomputable def C8_between (d : Nat) (a0 : Nat) (a1 : Int) (a2 : Int) (a3 : Int) (h : zv_H) := (zv_cs zv_prog d).2.1 169 [zv_r a0, zv_i a1, zv_i a2, zv_i a3] h
noncomputable def E8_between (d : Nat) (a0 : Nat) (a1 : Int) (a2 : Int) (a3 : Int) (h : zv_H) : zv_O := zv_lim (zv_cs zv_prog d) mc8_between 0 [some (zv_r a0), some (zv_i a1), some (zv_i a2), some (zv_i a3), none, none] [] h
noncomputable def L8_between_45 (d : Nat) (a0 : Nat) (h : zv_H) : zv_O := zv_lim (zv_cs zv_prog d) mc8_between 45 [some (zv_r a0), none, none, none, none, none] [] h
noncomputable def C8_least (d : Nat) (a0 : Nat) (a1 : Int) (a2 : Int) (h : zv_H) := (zv_cs zv_prog d).2.1 170 [zv_r a0, zv_i a1, zv_i a2] h
noncomputable def E8_least (d : Nat) (a0 : Nat) (a1 : Int) (a2 : Int) (h : zv_H) : zv_O := zv_lim (zv_cs zv_prog d) mc8_least 0 [some (zv_r a0), some (zv_i a1), some (zv_i a2), none, none] [] h
noncomputable def L8_least_28 (d : Nat) (a0 : Nat) (h : zv_H) : zv_O := zv_lim (zv_cs zv_prog d) mc8_least 28 [some (zv_r a0), none, none, none, none] [] h
noncomputable def C8_merges (d : Nat) (a0 : Nat) (a1 : Int) (a2 : Int) (h : zv_H) := (zv_cs zv_prog d).2.1 171 [zv_r a0, zv_i a1, zv_i a2] h
noncomputable def E8_merges (d : Nat) (a0 : Nat) (a1 : Int) (a2 : Int) (h : zv_H) : zv_O := zv_lim (zv_cs zv_prog d) mc8_merges 0 [some (zv_r a0), some (zv_i a1), some (zv_i a2)] [] h
noncomputable def C8_tell (d : Nat) (a0 : Nat) (a1 : Int) (h : zv_H) := (zv_cs zv_prog d).2.1 172 [zv_r a0, zv_i a1] h
noncomputable def E8_tell (d : Nat) (a0 : Nat) (a1 : Int) (h : zv_H) : zv_O := zv_lim (zv_cs zv_prog d) mc8_tell 0 [some (zv_r a0), some (zv_i a1)] [] h
noncomputable def L8_tell_47 (d : Nat) (a0 : Nat) (h : zv_H) : zv_O := zv_lim (zv_cs zv_prog d) mc8_tell 47 [some (zv_r a0), none] [] h
noncomputable def C8_tellDocument (d : Nat) (a0 : Nat) (h : zv_H) := (zv_cs zv_prog d).1 173 [zv_r a0] h
noncomputable def E8_tellDocument (d : Nat) (a0 : Nat) (h : zv_H) : zv_O := zv_lim (zv_cs zv_prog d) mc8_tellDocument 0 [some (zv_r a0), none, none] [] h
noncomputable def L8_tellDocument_10 (d : Nat) (a0 : Nat) (a1 : Nat) (a2 : Int) (h : zv_H) : zv_O := zv_lim (zv_cs zv_prog d) mc8_tellDocument 10 [some (zv_r a0), some (zv_r a1), some (zv_i a2)] [] h
noncomputable def C8_tellLine (d : Nat) (a0 : Nat) (h : zv_H) := (zv_cs zv_prog d).1 174 [zv_r a0] h
noncomputable def E8_tellLine (d : Nat) (a0 : Nat) (h : zv_H) : zv_O := zv_lim (zv_cs zv_prog d) mc8_tellLine 0 [some (zv_r a0), none, none] [] h
noncomputable def L8_tellLine_10 (d : Nat) (a0 : Nat) (a1 : Nat) (a2 : Int) (h : zv_H) : zv_O := zv_lim (zv_cs zv_prog d) mc8_tellLine 10 [some (zv_r a0), some (zv_r a1), some (zv_i a2)] [] h
noncomputable def L8_tellLine_28 (d : Nat) (a0 : Nat) (a1 : Nat) (a2 : Int) (h : zv_H) : zv_O := zv_lim (zv_cs zv_prog d) mc8_tellLine 28 [some (zv_r a0), some (zv_r a1), some (zv_i a2)] [] h
noncomputable def C8_tellNames (d : Nat) (a0 : Nat) (h : zv_H) := (zv_cs zv_prog d).1 175 [zv_r a0] h
noncomputable def E8_tellNames (d : Nat) (a0 : Nat) (h : zv_H) : zv_O := zv_lim (zv_cs zv_prog d) mc8_tellNames 0 [some (zv_r a0), none, none, none] [] h
noncomputable def L8_tellNames_10 (d : Nat) (a0 : Nat) (a1 : Nat) (a2 : Int) (h : zv_H) : zv_O := zv_lim (zv_cs zv_prog d) mc8_tellNames 10 [some (zv_r a0), some (zv_r a1), some (zv_i a2), none] [] h
noncomputable def L8_tellNames_28 (d : Nat) (a0 : Nat) (a1 : Nat) (a2 : Int) (h : zv_H) : zv_O := zv_lim (zv_cs zv_prog d) mc8_tellNames 28 [some (zv_r a0), some (zv_r a1), some (zv_i a2), none] [] h
noncomputable def L8_tellNames_34 (d : Nat) (a0 : Nat) (a1 : Nat) (a2 : Int) (a3 : Int) (h : zv_H) : zv_O := zv_lim (zv_cs zv_prog d) mc8_tellNames 34 [some (zv_r a0), some (zv_r a1), some (zv_i a2), some (zv_i a3)] [] h
noncomputable def C8_tellNumber (d : Nat) (a0 : Nat) (a1 : Int) (h : zv_H) := (zv_cs zv_prog d).1 176 [zv_r a0, zv_i a1] h
noncomputable def E8_tellNumber (d : Nat) (a0 : Nat) (a1 : Int) (h : zv_H) : zv_O := zv_lim (zv_cs zv_prog d) mc8_tellNumber 0 [some (zv_r a0), some (zv_i a1)] [] h
noncomputable def L8_tellNumber_17 (d : Nat) (a0 : Nat) (a1 : Int) (h : zv_H) : zv_O := zv_lim (zv_cs zv_prog d) mc8_tellNumber 17 [some (zv_r a0), some (zv_i a1)] [] h
noncomputable def C8_tellByte (d : Nat) (a0 : Nat) (a1 : Int) (h : zv_H) := (zv_cs zv_prog d).1 177 [zv_r a0, zv_i a1] h
noncomputable def E8_tellByte (d : Nat) (a0 : Nat) (a1 : Int) (h : zv_H) : zv_O := zv_lim (zv_cs zv_prog d) mc8_tellByte 0 [some (zv_r a0), some (zv_i a1)] [] h
noncomputable def C8_out (d : Nat) (a0 : Nat) (a1 : Int) (h : zv_H) := (zv_cs zv_prog d).2.1 178 [zv_r a0, zv_i a1] h
noncomputable def E8_out (d : Nat) (a0 : Nat) (a1 : Int) (h : zv_H) : zv_O := zv_lim (zv_cs zv_prog d) mc8_out 0 [some (zv_r a0), some (zv_i a1)] [] h
noncomputable def L8_out_27 (d : Nat) (a0 : Nat) (h : zv_H) : zv_O := zv_lim (zv_cs zv_prog d) mc8_out 27 [some (zv_r a0), none] [] h
noncomputable def C8_leaning (d : Nat) (a0 : Nat) (a1 : Int) (a2 : Int) (h : zv_H) := (zv_cs zv_prog d).2.1 179 [zv_r a0, zv_i a1, zv_i a2] h
noncomputable def E8_leaning (d : Nat) (a0 : Nat) (a1 : Int) (a2 : Int) (h : zv_H) : zv_O := zv_lim (zv_cs zv_prog d) mc8_leaning 0 [some (zv_r a0), some (zv_i a1), some (zv_i a2), none, none, none, none] [] h
noncomputable def C8_find (d : Nat) (a0 : Nat) (a1 : Int) (h : zv_H) := (zv_cs zv_prog d).2.1 180 [zv_r a0, zv_i a1] h
noncomputable def E8_find (d : Nat) (a0 : Nat) (a1 : Int) (h : zv_H) : zv_O := zv_lim (zv_cs zv_prog d) mc8_find 0 [some (zv_r a0), some (zv_i a1), none] [] h
noncomputable def L8_find_19 (d : Nat) (a0 : Nat) (h : zv_H) : zv_O := zv_lim (zv_cs zv_prog d) mc8_find 19 [some (zv_r a0), none, none] [] h
noncomputable def L8_find_82 (d : Nat) (a0 : Nat) (e0 : Int) (h : zv_H) : zv_O := zv_lim (zv_cs zv_prog d) mc8_find 82 [some (zv_r a0), none, none] [zv_i e0] h
noncomputable def C8_first (d : Nat) (a0 : Nat) (h : zv_H) := (zv_cs zv_prog d).2.1 181 [zv_r a0] h
noncomputable def E8_first (d : Nat) (a0 : Nat) (h : zv_H) : zv_O := zv_lim (zv_cs zv_prog d) mc8_first 0 [some (zv_r a0), none] [] h
noncomputable def C8_twin (d : Nat) (a0 : Nat) (a1 : Int) (h : zv_H) := (zv_cs zv_prog d).2.1 182 [zv_r a0, zv_i a1] h
noncomputable def E8_twin (d : Nat) (a0 : Nat) (a1 : Int) (h : zv_H) : zv_O := zv_lim (zv_cs zv_prog d) mc8_twin 0 [some (zv_r a0), some (zv_i a1), none, none] [] h
noncomputable def C8_back (d : Nat) (a0 : Nat) (a1 : Int) (h : zv_H) := (zv_cs zv_prog d).2.1 183 [zv_r a0, zv_i a1] h
noncomputable def E8_back (d : Nat) (a0 : Nat) (a1 : Int) (h : zv_H) : zv_O := zv_lim (zv_cs zv_prog d) mc8_back 0 [some (zv_r a0), some (zv_i a1), none] [] h
noncomputable def C9_init (d : Nat) (a0 : Nat) (h : zv_H) := (zv_cs zv_prog d).1 184 [zv_r a0] h
noncomputable def E9_init (d : Nat) (a0 : Nat) (h : zv_H) : zv_O := zv_lim (zv_cs zv_prog d) mc9_init 0 [some (zv_r a0)] [] h
noncomputable def C9_status (d : Nat) (a0 : Nat) (h : zv_H) := (zv_cs zv_prog d).2.1 185 [zv_r a0] h
noncomputable def E9_status (d : Nat) (a0 : Nat) (h : zv_H) : zv_O := zv_lim (zv_cs zv_prog d) mc9_status 0 [some (zv_r a0)] [] h
noncomputable def C9_refuse (d : Nat) (a0 : Nat) (a1 : Int) (h : zv_H) := (zv_cs zv_prog d).2.1 186 [zv_r a0, zv_i a1] h
noncomputable def E9_refuse (d : Nat) (a0 : Nat) (a1 : Int) (h : zv_H) : zv_O := zv_lim (zv_cs zv_prog d) mc9_refuse 0 [some (zv_r a0), some (zv_i a1)] [] h
noncomputable def C9_is (d : Nat) (a0 : Nat) (a1 : Int) (h : zv_H) := (zv_cs zv_prog d).2.1 187 [zv_r a0, zv_i a1] h
noncomputable def E9_is (d : Nat) (a0 : Nat) (a1 : Int) (h : zv_H) : zv_O := zv_lim (zv_cs zv_prog d) mc9_is 0 [some (zv_r a0), some (zv_i a1)] [] h
noncomputable def C9_isIn (d : Nat) (a0 : Int) (a1 : Int) (a2 : Int) (h : zv_H) := (zv_cs zv_prog d).2.1 188 [zv_i a0, zv_i a1, zv_i a2] h
noncomputable def E9_isIn (d : Nat) (a0 : Int) (a1 : Int) (a2 : Int) (h : zv_H) : zv_O := zv_lim (zv_cs zv_prog d) mc9_isIn 0 [some (zv_i a0), some (zv_i a1), some (zv_i a2)] [] h
noncomputable def C9_clears (d : Nat) (a0 : Nat) (h : zv_H) := (zv_cs zv_prog d).1 189 [zv_r a0] h
noncomputable def E9_clears (d : Nat) (a0 : Nat) (h : zv_H) : zv_O := zv_lim (zv_cs zv_prog d) mc9_clears 0 [some (zv_r a0), none] [] h
noncomputable def L9_clears_2 (d : Nat) (a0 : Nat) (a1 : Int) (h : zv_H) : zv_O := zv_lim (zv_cs zv_prog d) mc9_clears 2 [some (zv_r a0), some (zv_i a1)] [] h
noncomputable def C9_of (d : Nat) (a0 : Nat) (a1 : Int) (a2 : Int) (h : zv_H) := (zv_cs zv_prog d).2.1 190 [zv_r a0, zv_i a1, zv_i a2] h
noncomputable def E9_of (d : Nat) (a0 : Nat) (a1 : Int) (a2 : Int) (h : zv_H) : zv_O := zv_lim (zv_cs zv_prog d) mc9_of 0 [some (zv_r a0), some (zv_i a1), some (zv_i a2)] [] h
noncomputable def C9_sets (d : Nat) (a0 : Nat) (a1 : Int) (a2 : Int) (a3 : Int) (h : zv_H) := (zv_cs zv_prog d).1 191 [zv_r a0, zv_i a1, zv_i a2, zv_i a3] h
noncomputable def E9_sets (d : Nat) (a0 : Nat) (a1 : Int) (a2 : Int) (a3 : Int) (h : zv_H) : zv_O := zv_lim (zv_cs zv_prog d) mc9_sets 0 [some (zv_r a0), some (zv_i a1), some (zv_i a2), some (zv_i a3)] [] h
noncomputable def C9_isState (d : Nat) (a0 : Nat) (a1 : Int) (h : zv_H) := (zv_cs zv_prog d).2.1 192 [zv_r a0, zv_i a1] h
noncomputable def E9_isState (d : Nat) (a0 : Nat) (a1 : Int) (h : zv_H) : zv_O := zv_lim (zv_cs zv_prog d) mc9_isState 0 [some (zv_r a0), some (zv_i a1)] [] h
noncomputable def C9_isEdit (d : Nat) (a0 : Nat) (a1 : Int) (h : zv_H) := (zv_cs zv_prog d).2.1 193 [zv_r a0, zv_i a1] h
noncomputable def E9_isEdit (d : Nat) (a0 : Nat) (a1 : Int) (h : zv_H) : zv_O := zv_lim (zv_cs zv_prog d) mc9_isEdit 0 [some (zv_r a0), some (zv_i a1)] [] h
noncomputable def C9_here (d : Nat) (a0 : Nat) (h : zv_H) := (zv_cs zv_prog d).2.1 194 [zv_r a0] h
noncomputable def E9_here (d : Nat) (a0 : Nat) (h : zv_H) : zv_O := zv_lim (zv_cs zv_prog d) mc9_here 0 [some (zv_r a0)] [] h
noncomputable def C9_states (d : Nat) (a0 : Nat) (h : zv_H) := (zv_cs zv_prog d).2.1 195 [zv_r a0] h
noncomputable def E9_states (d : Nat) (a0 : Nat) (h : zv_H) : zv_O := zv_lim (zv_cs zv_prog d) mc9_states 0 [some (zv_r a0), none, none] [] h
noncomputable def L9_states_4 (d : Nat) (a0 : Nat) (a1 : Int) (a2 : Int) (h : zv_H) : zv_O := zv_lim (zv_cs zv_prog d) mc9_states 4 [some (zv_r a0), some (zv_i a1), some (zv_i a2)] [] h
noncomputable def C9_names (d : Nat) (a0 : Nat) (a1 : Int) (a2 : Int) (h : zv_H) := (zv_cs zv_prog d).2.1 196 [zv_r a0, zv_i a1, zv_i a2] h
noncomputable def E9_names (d : Nat) (a0 : Nat) (a1 : Int) (a2 : Int) (h : zv_H) : zv_O := zv_lim (zv_cs zv_prog d) mc9_names 0 [some (zv_r a0), some (zv_i a1), some (zv_i a2)] [] h
noncomputable def L9_names_15 (d : Nat) (a2 : Int) (e0 : Nat) (e1 : Int) (e2 : Int) (h : zv_H) : zv_O := zv_lim (zv_cs zv_prog d) mc9_names 15 [none, none, some (zv_i a2)] [zv_i e2, zv_i e1, zv_r e0] h
noncomputable def C9_namesToo (d : Nat) (a0 : Nat) (a1 : Int) (a2 : Int) (h : zv_H) := (zv_cs zv_prog d).1 197 [zv_r a0, zv_i a1, zv_i a2] h
noncomputable def E9_namesToo (d : Nat) (a0 : Nat) (a1 : Int) (a2 : Int) (h : zv_H) : zv_O := zv_lim (zv_cs zv_prog d) mc9_namesToo 0 [some (zv_r a0), some (zv_i a1), some (zv_i a2)] [] h
noncomputable def L9_namesToo_15 (d : Nat) (a0 : Nat) (a1 : Int) (a2 : Int) (e0 : Nat) (e1 : Int) (e2 : Int) (h : zv_H) : zv_O := zv_lim (zv_cs zv_prog d) mc9_namesToo 15 [some (zv_r a0), some (zv_i a1), some (zv_i a2)] [zv_i e2, zv_i e1, zv_r e0] h
noncomputable def L9_namesToo_30 (d : Nat) (a2 : Int) (e0 : Nat) (e1 : Int) (e2 : Int) (e3 : Nat) (e4 : Int) (e5 : Int) (h : zv_H) : zv_O := zv_lim (zv_cs zv_prog d) mc9_namesToo 30 [none, none, some (zv_i a2)] [zv_i e5, zv_i e4, zv_r e3, zv_i e2, zv_i e1, zv_r e0] h
noncomputable def C9_isOfLine (d : Nat) (a0 : Nat) (a1 : Int) (a2 : Int) (h : zv_H) := (zv_cs zv_prog d).2.1 198 [zv_r a0, zv_i a1, zv_i a2] h
noncomputable def E9_isOfLine (d : Nat) (a0 : Nat) (a1 : Int) (a2 : Int) (h : zv_H) : zv_O := zv_lim (zv_cs zv_prog d) mc9_isOfLine 0 [some (zv_r a0), some (zv_i a1), some (zv_i a2), none] [] h
noncomputable def L9_isOfLine_2 (d : Nat) (a0 : Nat) (a1 : Int) (a3 : Int) (h : zv_H) : zv_O := zv_lim (zv_cs zv_prog d) mc9_isOfLine 2 [some (zv_r a0), some (zv_i a1), none, some (zv_i a3)] [] h
noncomputable def C9_depthOf (d : Nat) (a0 : Nat) (a1 : Int) (h : zv_H) := (zv_cs zv_prog d).2.1 199 [zv_r a0, zv_i a1] h
noncomputable def E9_depthOf (d : Nat) (a0 : Nat) (a1 : Int) (h : zv_H) : zv_O := zv_lim (zv_cs zv_prog d) mc9_depthOf 0 [some (zv_r a0), some (zv_i a1), none, none] [] h
noncomputable def L9_depthOf_9 (d : Nat) (a0 : Nat) (a2 : Int) (a3 : Int) (h : zv_H) : zv_O := zv_lim (zv_cs zv_prog d) mc9_depthOf 9 [some (zv_r a0), none, some (zv_i a2), some (zv_i a3)] [] h
noncomputable def C9_rowOf (d : Nat) (a0 : Nat) (a1 : Int) (a2 : Int) (h : zv_H) := (zv_cs zv_prog d).2.1 200 [zv_r a0, zv_i a1, zv_i a2] h
noncomputable def E9_rowOf (d : Nat) (a0 : Nat) (a1 : Int) (a2 : Int) (h : zv_H) : zv_O := zv_lim (zv_cs zv_prog d) mc9_rowOf 0 [some (zv_r a0), some (zv_i a1), some (zv_i a2), none] [] h
noncomputable def L9_rowOf_2 (d : Nat) (a0 : Nat) (a1 : Int) (a2 : Int) (a3 : Int) (h : zv_H) : zv_O := zv_lim (zv_cs zv_prog d) mc9_rowOf 2 [some (zv_r a0), some (zv_i a1), some (zv_i a2), some (zv_i a3)] [] h
noncomputable def C9_letsIn (d : Nat) (a0 : Nat) (a1 : Int) (h : zv_H) := (zv_cs zv_prog d).1 201 [zv_r a0, zv_i a1] h
noncomputable def E9_letsIn (d : Nat) (a0 : Nat) (a1 : Int) (h : zv_H) : zv_O := zv_lim (zv_cs zv_prog d) mc9_letsIn 0 [some (zv_r a0), some (zv_i a1), none, none, none] [] h
noncomputable def L9_letsIn_34 (d : Nat) (a0 : Nat) (a1 : Int) (e0 : Int) (h : zv_H) : zv_O := zv_lim (zv_cs zv_prog d) mc9_letsIn 34 [some (zv_r a0), some (zv_i a1), none, none, none] [zv_i e0] h
noncomputable def L9_letsIn_50 (d : Nat) (a0 : Nat) (a1 : Int) (a2 : Int) (a3 : Int) (a4 : Int) (h : zv_H) : zv_O := zv_lim (zv_cs zv_prog d) mc9_letsIn 50 [some (zv_r a0), some (zv_i a1), some (zv_i a2), some (zv_i a3), some (zv_i a4)] [] h
noncomputable def L9_letsIn_97 (d : Nat) (a0 : Nat) (a1 : Int) (a2 : Int) (a3 : Int) (a4 : Int) (h : zv_H) : zv_O := zv_lim (zv_cs zv_prog d) mc9_letsIn 97 [some (zv_r a0), some (zv_i a1), some (zv_i a2), some (zv_i a3), some (zv_i a4)] [] h
noncomputable def C9_turns (d : Nat) (a0 : Nat) (a1 : Int) (h : zv_H) := (zv_cs zv_prog d).1 202 [zv_r a0, zv_i a1] h
noncomputable def E9_turns (d : Nat) (a0 : Nat) (a1 : Int) (h : zv_H) : zv_O := zv_lim (zv_cs zv_prog d) mc9_turns 0 [some (zv_r a0), some (zv_i a1), none] [] h
noncomputable def L9_turns_2 (d : Nat) (a0 : Nat) (a1 : Int) (a2 : Int) (h : zv_H) : zv_O := zv_lim (zv_cs zv_prog d) mc9_turns 2 [some (zv_r a0), some (zv_i a1), some (zv_i a2)] [] h
noncomputable def C9_sees (d : Nat) (a0 : Nat) (a1 : Int) (h : zv_H) := (zv_cs zv_prog d).1 203 [zv_r a0, zv_i a1] h
noncomputable def E9_sees (d : Nat) (a0 : Nat) (a1 : Int) (h : zv_H) : zv_O := zv_lim (zv_cs zv_prog d) mc9_sees 0 [some (zv_r a0), some (zv_i a1), none, none, none, none] [] h
noncomputable def L9_sees_20 (d : Nat) (a0 : Nat) (a2 : Int) (a3 : Int) (h : zv_H) : zv_O := zv_lim (zv_cs zv_prog d) mc9_sees 20 [some (zv_r a0), none, some (zv_i a2), some (zv_i a3), none, none] [] h
noncomputable def L9_sees_56 (d : Nat) (a0 : Nat) (a3 : Int) (h : zv_H) : zv_O := zv_lim (zv_cs zv_prog d) mc9_sees 56 [some (zv_r a0), none, none, some (zv_i a3), none, none] [] h
noncomputable def L9_sees_93 (d : Nat) (a0 : Nat) (a3 : Int) (h : zv_H) : zv_O := zv_lim (zv_cs zv_prog d) mc9_sees 93 [some (zv_r a0), none, none, some (zv_i a3), none, none] [] h
noncomputable def L9_sees_138 (d : Nat) (a0 : Nat) (a3 : Int) (a4 : Int) (h : zv_H) : zv_O := zv_lim (zv_cs zv_prog d) mc9_sees 138 [some (zv_r a0), none, none, some (zv_i a3), some (zv_i a4), none] [] h
noncomputable def L9_sees_161 (d : Nat) (a0 : Nat) (a3 : Int) (h : zv_H) : zv_O := zv_lim (zv_cs zv_prog d) mc9_sees 161 [some (zv_r a0), none, none, some (zv_i a3), none, none] [] h
noncomputable def L9_sees_194 (d : Nat) (a0 : Nat) (a3 : Int) (h : zv_H) : zv_O := zv_lim (zv_cs zv_prog d) mc9_sees 194 [some (zv_r a0), none, none, some (zv_i a3), none, none] [] h
noncomputable def L9_sees_213 (d : Nat) (a0 : Nat) (a3 : Int) (a4 : Int) (a5 : Int) (h : zv_H) : zv_O := zv_lim (zv_cs zv_prog d) mc9_sees 213 [some (zv_r a0), none, none, some (zv_i a3), some (zv_i a4), some (zv_i a5)] [] h
noncomputable def L9_sees_303 (d : Nat) (a0 : Nat) (a3 : Int) (h : zv_H) : zv_O := zv_lim (zv_cs zv_prog d) mc9_sees 303 [some (zv_r a0), none, none, some (zv_i a3), none, none] [] h
noncomputable def C9_rowPlace (d : Nat) (a0 : Nat) (a1 : Int) (h : zv_H) := (zv_cs zv_prog d).2.1 204 [zv_r a0, zv_i a1] h
noncomputable def E9_rowPlace (d : Nat) (a0 : Nat) (a1 : Int) (h : zv_H) : zv_O := zv_lim (zv_cs zv_prog d) mc9_rowPlace 0 [some (zv_r a0), some (zv_i a1), none, none] [] h
noncomputable def L9_rowPlace_4 (d : Nat) (a0 : Nat) (a2 : Int) (a3 : Int) (h : zv_H) : zv_O := zv_lim (zv_cs zv_prog d) mc9_rowPlace 4 [some (zv_r a0), none, some (zv_i a2), some (zv_i a3)] [] h
noncomputable def C9_letterIn (d : Nat) (a0 : Nat) (a1 : Int) (h : zv_H) := (zv_cs zv_prog d).2.1 205 [zv_r a0, zv_i a1] h
noncomputable def E9_letterIn (d : Nat) (a0 : Nat) (a1 : Int) (h : zv_H) : zv_O := zv_lim (zv_cs zv_prog d) mc9_letterIn 0 [some (zv_r a0), some (zv_i a1)] [] h
noncomputable def C9_lettersOf (d : Nat) (a0 : Nat) (a1 : Int) (h : zv_H) := (zv_cs zv_prog d).2.1 206 [zv_r a0, zv_i a1] h
noncomputable def E9_lettersOf (d : Nat) (a0 : Nat) (a1 : Int) (h : zv_H) : zv_O := zv_lim (zv_cs zv_prog d) mc9_lettersOf 0 [some (zv_r a0), some (zv_i a1)] [] h
noncomputable def C9_copies (d : Nat) (a0 : Nat) (a1 : Int) (a2 : Nat) (h : zv_H) := (zv_cs zv_prog d).2.1 207 [zv_r a0, zv_i a1, zv_r a2] h
noncomputable def E9_copies (d : Nat) (a0 : Nat) (a1 : Int) (a2 : Nat) (h : zv_H) : zv_O := zv_lim (zv_cs zv_prog d) mc9_copies 0 [some (zv_r a0), some (zv_i a1), some (zv_r a2), none, none] [] h
noncomputable def L9_copies_10 (d : Nat) (a0 : Nat) (a2 : Nat) (a3 : Int) (a4 : Int) (h : zv_H) : zv_O := zv_lim (zv_cs zv_prog d) mc9_copies 10 [some (zv_r a0), none, some (zv_r a2), some (zv_i a3), some (zv_i a4)] [] h
noncomputable def C9_visits (d : Nat) (a0 : Nat) (a1 : Int) (h : zv_H) := (zv_cs zv_prog d).1 208 [zv_r a0, zv_i a1] h
noncomputable def E9_visits (d : Nat) (a0 : Nat) (a1 : Int) (h : zv_H) : zv_O := zv_lim (zv_cs zv_prog d) mc9_visits 0 [some (zv_r a0), some (zv_i a1), none] [] h
noncomputable def L9_visits_42 (d : Nat) (a0 : Nat) (a1 : Int) (a2 : Int) (h : zv_H) : zv_O := zv_lim (zv_cs zv_prog d) mc9_visits 42 [some (zv_r a0), some (zv_i a1), some (zv_i a2)] [] h
noncomputable def C9_latestIn (d : Nat) (a0 : Nat) (a1 : Int) (h : zv_H) := (zv_cs zv_prog d).2.1 209 [zv_r a0, zv_i a1] h
noncomputable def E9_latestIn (d : Nat) (a0 : Nat) (a1 : Int) (h : zv_H) : zv_O := zv_lim (zv_cs zv_prog d) mc9_latestIn 0 [some (zv_r a0), some (zv_i a1), none, none] [] h
noncomputable def L9_latestIn_10 (d : Nat) (a0 : Nat) (a1 : Int) (a2 : Int) (a3 : Int) (h : zv_H) : zv_O := zv_lim (zv_cs zv_prog d) mc9_latestIn 10 [some (zv_r a0), some (zv_i a1), some (zv_i a2), some (zv_i a3)] [] h
noncomputable def C9_childOf (d : Nat) (a0 : Nat) (a1 : Int) (a2 : Int) (h : zv_H) := (zv_cs zv_prog d).2.1 210 [zv_r a0, zv_i a1, zv_i a2] h
noncomputable def E9_childOf (d : Nat) (a0 : Nat) (a1 : Int) (a2 : Int) (h : zv_H) : zv_O := zv_lim (zv_cs zv_prog d) mc9_childOf 0 [some (zv_r a0), some (zv_i a1), some (zv_i a2), none, none, none] [] h
noncomputable def L9_childOf_2 (d : Nat) (a0 : Nat) (a1 : Int) (a2 : Int) (a3 : Int) (h : zv_H) : zv_O := zv_lim (zv_cs zv_prog d) mc9_childOf 2 [some (zv_r a0), some (zv_i a1), some (zv_i a2), some (zv_i a3), none, none] [] h
noncomputable def L9_childOf_35 (d : Nat) (a0 : Nat) (a1 : Int) (a2 : Int) (a3 : Int) (a4 : Int) (a5 : Int) (h : zv_H) : zv_O := zv_lim (zv_cs zv_prog d) mc9_childOf 35 [some (zv_r a0), some (zv_i a1), some (zv_i a2), some (zv_i a3), some (zv_i a4), some (zv_i a5)] [] h
noncomputable def C9_childrenOf (d : Nat) (a0 : Nat) (a1 : Int) (h : zv_H) := (zv_cs zv_prog d).2.1 211 [zv_r a0, zv_i a1] h
noncomputable def E9_childrenOf (d : Nat) (a0 : Nat) (a1 : Int) (h : zv_H) : zv_O := zv_lim (zv_cs zv_prog d) mc9_childrenOf 0 [some (zv_r a0), some (zv_i a1), none, none] [] h
noncomputable def L9_childrenOf_4 (d : Nat) (a0 : Nat) (a1 : Int) (a2 : Int) (a3 : Int) (h : zv_H) : zv_O := zv_lim (zv_cs zv_prog d) mc9_childrenOf 4 [some (zv_r a0), some (zv_i a1), some (zv_i a2), some (zv_i a3)] [] h
noncomputable def C9_freeState (d : Nat) (a0 : Nat) (h : zv_H) := (zv_cs zv_prog d).2.1 212 [zv_r a0] h
noncomputable def E9_freeState (d : Nat) (a0 : Nat) (h : zv_H) : zv_O := zv_lim (zv_cs zv_prog d) mc9_freeState 0 [some (zv_r a0), none] [] h
noncomputable def L9_freeState_2 (d : Nat) (a0 : Nat) (a1 : Int) (h : zv_H) : zv_O := zv_lim (zv_cs zv_prog d) mc9_freeState 2 [some (zv_r a0), some (zv_i a1)] [] h
noncomputable def C9_isNear (d : Nat) (a0 : Nat) (a1 : Int) (a2 : Int) (a3 : Int) (a4 : Int) (h : zv_H) := (zv_cs zv_prog d).2.1 213 [zv_r a0, zv_i a1, zv_i a2, zv_i a3, zv_i a4] h
noncomputable def E9_isNear (d : Nat) (a0 : Nat) (a1 : Int) (a2 : Int) (a3 : Int) (a4 : Int) (h : zv_H) : zv_O := zv_lim (zv_cs zv_prog d) mc9_isNear 0 [some (zv_r a0), some (zv_i a1), some (zv_i a2), some (zv_i a3), some (zv_i a4), none, none, none] [] h
noncomputable def L9_isNear_15 (d : Nat) (a0 : Nat) (a1 : Int) (a2 : Int) (a3 : Int) (a4 : Int) (e0 : Int) (h : zv_H) : zv_O := zv_lim (zv_cs zv_prog d) mc9_isNear 15 [some (zv_r a0), some (zv_i a1), some (zv_i a2), some (zv_i a3), some (zv_i a4), none, none, none] [zv_i e0] h
noncomputable def C9_compares (d : Nat) (a0 : Int) (a1 : Int) (a2 : Int) (h : zv_H) := (zv_cs zv_prog d).2.1 214 [zv_i a0, zv_i a1, zv_i a2] h
noncomputable def E9_compares (d : Nat) (a0 : Int) (a1 : Int) (a2 : Int) (h : zv_H) : zv_O := zv_lim (zv_cs zv_prog d) mc9_compares 0 [some (zv_i a0), some (zv_i a1), some (zv_i a2)] [] h
noncomputable def C9_holds (d : Nat) (a0 : Nat) (h : zv_H) := (zv_cs zv_prog d).2.1 215 [zv_r a0] h
noncomputable def E9_holds (d : Nat) (a0 : Nat) (h : zv_H) : zv_O := zv_lim (zv_cs zv_prog d) mc9_holds 0 [some (zv_r a0), none, none, none] [] h
noncomputable def L9_holds_60 (d : Nat) (a0 : Nat) (a1 : Int) (a2 : Int) (h : zv_H) : zv_O := zv_lim (zv_cs zv_prog d) mc9_holds 60 [some (zv_r a0), some (zv_i a1), some (zv_i a2), none] [] h
noncomputable def C9_joins (d : Nat) (a0 : Nat) (a1 : Int) (a2 : Int) (a3 : Int) (h : zv_H) := (zv_cs zv_prog d).2.1 216 [zv_r a0, zv_i a1, zv_i a2, zv_i a3] h
noncomputable def E9_joins (d : Nat) (a0 : Nat) (a1 : Int) (a2 : Int) (a3 : Int) (h : zv_H) : zv_O := zv_lim (zv_cs zv_prog d) mc9_joins 0 [some (zv_r a0), some (zv_i a1), some (zv_i a2), some (zv_i a3), none] [] h
noncomputable def L9_joins_92 (d : Nat) (a0 : Nat) (a1 : Int) (a2 : Int) (a3 : Int) (a4 : Int) (e0 : Nat) (e1 : Int) (e2 : Int) (h : zv_H) : zv_O := zv_lim (zv_cs zv_prog d) mc9_joins 92 [some (zv_r a0), some (zv_i a1), some (zv_i a2), some (zv_i a3), some (zv_i a4)] [zv_i e2, zv_i e1, zv_r e0] h
noncomputable def L9_joins_115 (d : Nat) (a0 : Nat) (a3 : Int) (e0 : Nat) (e1 : Int) (e2 : Int) (h : zv_H) : zv_O := zv_lim (zv_cs zv_prog d) mc9_joins 115 [some (zv_r a0), none, none, some (zv_i a3), none] [zv_i e2, zv_i e1, zv_r e0] h
noncomputable def C9_begins (d : Nat) (a0 : Nat) (a1 : Int) (a2 : Int) (a3 : Int) (a4 : Int) (a5 : Int) (h : zv_H) := (zv_cs zv_prog d).1 217 [zv_r a0, zv_i a1, zv_i a2, zv_i a3, zv_i a4, zv_i a5] h
noncomputable def E9_begins (d : Nat) (a0 : Nat) (a1 : Int) (a2 : Int) (a3 : Int) (a4 : Int) (a5 : Int) (h : zv_H) : zv_O := zv_lim (zv_cs zv_prog d) mc9_begins 0 [some (zv_r a0), some (zv_i a1), some (zv_i a2), some (zv_i a3), some (zv_i a4), some (zv_i a5), none] [] h
noncomputable def L9_begins_3 (d : Nat) (a0 : Nat) (a1 : Int) (a2 : Int) (a3 : Int) (a4 : Int) (a5 : Int) (a6 : Int) (h : zv_H) : zv_O := zv_lim (zv_cs zv_prog d) mc9_begins 3 [some (zv_r a0), some (zv_i a1), some (zv_i a2), some (zv_i a3), some (zv_i a4), some (zv_i a5), some (zv_i a6)] [] h
noncomputable def L9_begins_98 (d : Nat) (a0 : Nat) (a1 : Int) (e0 : Nat) (e1 : Int) (e2 : Int) (e3 : Int) (h : zv_H) : zv_O := zv_lim (zv_cs zv_prog d) mc9_begins 98 [some (zv_r a0), some (zv_i a1), none, none, none, none, none] [zv_i e3, zv_i e2, zv_i e1, zv_r e0] h
noncomputable def C9_packed (d : Nat) (a0 : Nat) (a1 : Int) (h : zv_H) := (zv_cs zv_prog d).2.1 218 [zv_r a0, zv_i a1] h
noncomputable def E9_packed (d : Nat) (a0 : Nat) (a1 : Int) (h : zv_H) : zv_O := zv_lim (zv_cs zv_prog d) mc9_packed 0 [some (zv_r a0), some (zv_i a1), none, none] [] h
noncomputable def L9_packed_4 (d : Nat) (a0 : Nat) (a1 : Int) (a2 : Int) (a3 : Int) (h : zv_H) : zv_O := zv_lim (zv_cs zv_prog d) mc9_packed 4 [some (zv_r a0), some (zv_i a1), some (zv_i a2), some (zv_i a3)] [] h
noncomputable def C9_nameAt (d : Nat) (a0 : Nat) (a1 : Int) (h : zv_H) := (zv_cs zv_prog d).2.1 219 [zv_r a0, zv_i a1] h
noncomputable def E9_nameAt (d : Nat) (a0 : Nat) (a1 : Int) (h : zv_H) : zv_O := zv_lim (zv_cs zv_prog d) mc9_nameAt 0 [some (zv_r a0), some (zv_i a1), none] [] h
noncomputable def L9_nameAt_2 (d : Nat) (a0 : Nat) (a1 : Int) (a2 : Int) (h : zv_H) : zv_O := zv_lim (zv_cs zv_prog d) mc9_nameAt 2 [some (zv_r a0), some (zv_i a1), some (zv_i a2)] [] h
noncomputable def C9_type (d : Nat) (a0 : Nat) (a1 : Int) (a2 : Int) (h : zv_H) := (zv_cs zv_prog d).2.1 220 [zv_r a0, zv_i a1, zv_i a2] h
noncomputable def E9_type (d : Nat) (a0 : Nat) (a1 : Int) (a2 : Int) (h : zv_H) : zv_O := zv_lim (zv_cs zv_prog d) mc9_type 0 [some (zv_r a0), some (zv_i a1), some (zv_i a2), none, none, none, none] [] h
noncomputable def L9_type_13 (d : Nat) (a0 : Nat) (a1 : Int) (a2 : Int) (a3 : Int) (a4 : Int) (a5 : Int) (h : zv_H) : zv_O := zv_lim (zv_cs zv_prog d) mc9_type 13 [some (zv_r a0), some (zv_i a1), some (zv_i a2), some (zv_i a3), some (zv_i a4), some (zv_i a5), none] [] h
noncomputable def L9_type_37 (d : Nat) (a0 : Nat) (a1 : Int) (a2 : Int) (a3 : Int) (a5 : Int) (e0 : Int) (h : zv_H) : zv_O := zv_lim (zv_cs zv_prog d) mc9_type 37 [some (zv_r a0), some (zv_i a1), some (zv_i a2), some (zv_i a3), none, some (zv_i a5), none] [zv_i e0] h
noncomputable def L9_type_69 (d : Nat) (a0 : Nat) (a1 : Int) (a2 : Int) (a3 : Int) (a5 : Int) (a6 : Int) (e0 : Int) (h : zv_H) : zv_O := zv_lim (zv_cs zv_prog d) mc9_type 69 [some (zv_r a0), some (zv_i a1), some (zv_i a2), some (zv_i a3), none, some (zv_i a5), some (zv_i a6)] [zv_i e0] h
noncomputable def L9_type_103 (d : Nat) (a0 : Nat) (a3 : Int) (a5 : Int) (h : zv_H) : zv_O := zv_lim (zv_cs zv_prog d) mc9_type 103 [some (zv_r a0), none, none, some (zv_i a3), none, some (zv_i a5), none] [] h
noncomputable def C9_hand (d : Nat) (a0 : Nat) (h : zv_H) := (zv_cs zv_prog d).1 221 [zv_r a0] h
noncomputable def E9_hand (d : Nat) (a0 : Nat) (h : zv_H) : zv_O := zv_lim (zv_cs zv_prog d) mc9_hand 0 [some (zv_r a0), none] [] h
noncomputable def L9_hand_2 (d : Nat) (a0 : Nat) (a1 : Int) (h : zv_H) : zv_O := zv_lim (zv_cs zv_prog d) mc9_hand 2 [some (zv_r a0), some (zv_i a1)] [] h
noncomputable def C9_putNow (d : Nat) (a0 : Nat) (a1 : Int) (h : zv_H) := (zv_cs zv_prog d).2.1 222 [zv_r a0, zv_i a1] h
noncomputable def E9_putNow (d : Nat) (a0 : Nat) (a1 : Int) (h : zv_H) : zv_O := zv_lim (zv_cs zv_prog d) mc9_putNow 0 [some (zv_r a0), some (zv_i a1), none, none, none, none] [] h
noncomputable def L9_putNow_25 (d : Nat) (a0 : Nat) (h : zv_H) : zv_O := zv_lim (zv_cs zv_prog d) mc9_putNow 25 [some (zv_r a0), none, none, none, none, none] [] h
noncomputable def L9_putNow_84 (d : Nat) (a0 : Nat) (a1 : Int) (a3 : Int) (e0 : Int) (h : zv_H) : zv_O := zv_lim (zv_cs zv_prog d) mc9_putNow 84 [some (zv_r a0), some (zv_i a1), none, some (zv_i a3), none, none] [zv_i e0] h
noncomputable def L9_putNow_110 (d : Nat) (a0 : Nat) (a3 : Int) (a4 : Int) (a5 : Int) (h : zv_H) : zv_O := zv_lim (zv_cs zv_prog d) mc9_putNow 110 [some (zv_r a0), none, none, some (zv_i a3), some (zv_i a4), some (zv_i a5)] [] h
noncomputable def L9_putNow_175 (d : Nat) (a0 : Nat) (a3 : Int) (h : zv_H) : zv_O := zv_lim (zv_cs zv_prog d) mc9_putNow 175 [some (zv_r a0), none, none, some (zv_i a3), none, none] [] h
noncomputable def C9_cutNow (d : Nat) (a0 : Nat) (a1 : Int) (a2 : Int) (h : zv_H) := (zv_cs zv_prog d).2.1 223 [zv_r a0, zv_i a1, zv_i a2] h
noncomputable def E9_cutNow (d : Nat) (a0 : Nat) (a1 : Int) (a2 : Int) (h : zv_H) : zv_O := zv_lim (zv_cs zv_prog d) mc9_cutNow 0 [some (zv_r a0), some (zv_i a1), some (zv_i a2), none, none, none] [] h
noncomputable def L9_cutNow_14 (d : Nat) (a0 : Nat) (h : zv_H) : zv_O := zv_lim (zv_cs zv_prog d) mc9_cutNow 14 [some (zv_r a0), none, none, none, none, none] [] h
noncomputable def L9_cutNow_78 (d : Nat) (a0 : Nat) (a1 : Int) (a2 : Int) (a3 : Int) (a4 : Int) (h : zv_H) : zv_O := zv_lim (zv_cs zv_prog d) mc9_cutNow 78 [some (zv_r a0), some (zv_i a1), some (zv_i a2), some (zv_i a3), some (zv_i a4), none] [] h
noncomputable def C9_plain (d : Nat) (a0 : Nat) (h : zv_H) := (zv_cs zv_prog d).1 224 [zv_r a0] h
noncomputable def E9_plain (d : Nat) (a0 : Nat) (h : zv_H) : zv_O := zv_lim (zv_cs zv_prog d) mc9_plain 0 [some (zv_r a0), none] [] h
noncomputable def L9_plain_2 (d : Nat) (a0 : Nat) (a1 : Int) (h : zv_H) : zv_O := zv_lim (zv_cs zv_prog d) mc9_plain 2 [some (zv_r a0), some (zv_i a1)] [] h
noncomputable def C9_carries (d : Nat) (a0 : Nat) (a1 : Int) (h : zv_H) := (zv_cs zv_prog d).2.1 225 [zv_r a0, zv_i a1] h
noncomputable def E9_carries (d : Nat) (a0 : Nat) (a1 : Int) (h : zv_H) : zv_O := zv_lim (zv_cs zv_prog d) mc9_carries 0 [some (zv_r a0), some (zv_i a1), none, none, none] [] h
noncomputable def L9_carries_74 (d : Nat) (a0 : Nat) (a1 : Int) (a2 : Int) (a3 : Int) (a4 : Int) (h : zv_H) : zv_O := zv_lim (zv_cs zv_prog d) mc9_carries 74 [some (zv_r a0), some (zv_i a1), some (zv_i a2), some (zv_i a3), some (zv_i a4)] [] h
noncomputable def L9_carries_104 (d : Nat) (a0 : Nat) (a1 : Int) (a2 : Int) (h : zv_H) : zv_O := zv_lim (zv_cs zv_prog d) mc9_carries 104 [some (zv_r a0), some (zv_i a1), some (zv_i a2), none, none] [] h
noncomputable def L9_carries_116 (d : Nat) (a0 : Nat) (a1 : Int) (a2 : Int) (a3 : Int) (h : zv_H) : zv_O := zv_lim (zv_cs zv_prog d) mc9_carries 116 [some (zv_r a0), some (zv_i a1), some (zv_i a2), some (zv_i a3), none] [] h
noncomputable def C9_isTaken (d : Nat) (a0 : Nat) (a1 : Int) (a2 : Int) (h : zv_H) := (zv_cs zv_prog d).2.1 226 [zv_r a0, zv_i a1, zv_i a2] h
noncomputable def E9_isTaken (d : Nat) (a0 : Nat) (a1 : Int) (a2 : Int) (h : zv_H) : zv_O := zv_lim (zv_cs zv_prog d) mc9_isTaken 0 [some (zv_r a0), some (zv_i a1), some (zv_i a2), none] [] h
noncomputable def L9_isTaken_2 (d : Nat) (a0 : Nat) (a1 : Int) (a2 : Int) (a3 : Int) (h : zv_H) : zv_O := zv_lim (zv_cs zv_prog d) mc9_isTaken 2 [some (zv_r a0), some (zv_i a1), some (zv_i a2), some (zv_i a3)] [] h
noncomputable def C9_carriesCut (d : Nat) (a0 : Nat) (a1 : Int) (h : zv_H) := (zv_cs zv_prog d).2.1 227 [zv_r a0, zv_i a1] h
noncomputable def E9_carriesCut (d : Nat) (a0 : Nat) (a1 : Int) (h : zv_H) : zv_O := zv_lim (zv_cs zv_prog d) mc9_carriesCut 0 [some (zv_r a0), some (zv_i a1), none, none, none, none] [] h
noncomputable def L9_carriesCut_18 (d : Nat) (a0 : Nat) (a1 : Int) (a2 : Int) (a3 : Int) (a4 : Int) (a5 : Int) (h : zv_H) : zv_O := zv_lim (zv_cs zv_prog d) mc9_carriesCut 18 [some (zv_r a0), some (zv_i a1), some (zv_i a2), some (zv_i a3), some (zv_i a4), some (zv_i a5)] [] h
noncomputable def L9_carriesCut_69 (d : Nat) (a0 : Nat) (a1 : Int) (a2 : Int) (a3 : Int) (a4 : Int) (a5 : Int) (h : zv_H) : zv_O := zv_lim (zv_cs zv_prog d) mc9_carriesCut 69 [some (zv_r a0), some (zv_i a1), some (zv_i a2), some (zv_i a3), some (zv_i a4), some (zv_i a5)] [] h
noncomputable def C9_carryNow (d : Nat) (a0 : Nat) (a1 : Int) (h : zv_H) := (zv_cs zv_prog d).2.1 228 [zv_r a0, zv_i a1] h
noncomputable def E9_carryNow (d : Nat) (a0 : Nat) (a1 : Int) (h : zv_H) : zv_O := zv_lim (zv_cs zv_prog d) mc9_carryNow 0 [some (zv_r a0), some (zv_i a1)] [] h
noncomputable def L9_carryNow_34 (d : Nat) (a0 : Nat) (h : zv_H) : zv_O := zv_lim (zv_cs zv_prog d) mc9_carryNow 34 [some (zv_r a0), none] [] h
noncomputable def C9_mergeNow (d : Nat) (a0 : Nat) (a1 : Int) (h : zv_H) := (zv_cs zv_prog d).2.1 229 [zv_r a0, zv_i a1] h
noncomputable def E9_mergeNow (d : Nat) (a0 : Nat) (a1 : Int) (h : zv_H) : zv_O := zv_lim (zv_cs zv_prog d) mc9_mergeNow 0 [some (zv_r a0), some (zv_i a1), none, none, none, none] [] h
noncomputable def L9_mergeNow_44 (d : Nat) (a0 : Nat) (a2 : Int) (a3 : Int) (h : zv_H) : zv_O := zv_lim (zv_cs zv_prog d) mc9_mergeNow 44 [some (zv_r a0), none, some (zv_i a2), some (zv_i a3), none, none] [] h
noncomputable def L9_mergeNow_136 (d : Nat) (a0 : Nat) (a2 : Int) (a3 : Int) (a4 : Int) (h : zv_H) : zv_O := zv_lim (zv_cs zv_prog d) mc9_mergeNow 136 [some (zv_r a0), none, some (zv_i a2), some (zv_i a3), some (zv_i a4), none] [] h
noncomputable def L9_mergeNow_187 (d : Nat) (a0 : Nat) (a2 : Int) (a3 : Int) (a4 : Int) (a5 : Int) (h : zv_H) : zv_O := zv_lim (zv_cs zv_prog d) mc9_mergeNow 187 [some (zv_r a0), none, some (zv_i a2), some (zv_i a3), some (zv_i a4), some (zv_i a5)] [] h
noncomputable def L9_mergeNow_198 (d : Nat) (a0 : Nat) (a2 : Int) (a4 : Int) (a5 : Int) (e0 : Int) (e1 : Int) (h : zv_H) : zv_O := zv_lim (zv_cs zv_prog d) mc9_mergeNow 198 [some (zv_r a0), none, some (zv_i a2), none, some (zv_i a4), some (zv_i a5)] [zv_i e1, zv_i e0] h
noncomputable def C9_undoNow (d : Nat) (a0 : Nat) (h : zv_H) := (zv_cs zv_prog d).2.1 230 [zv_r a0] h
noncomputable def E9_undoNow (d : Nat) (a0 : Nat) (h : zv_H) : zv_O := zv_lim (zv_cs zv_prog d) mc9_undoNow 0 [some (zv_r a0)] [] h
noncomputable def C9_redoNow (d : Nat) (a0 : Nat) (h : zv_H) := (zv_cs zv_prog d).2.1 231 [zv_r a0] h
noncomputable def E9_redoNow (d : Nat) (a0 : Nat) (h : zv_H) : zv_O := zv_lim (zv_cs zv_prog d) mc9_redoNow 0 [some (zv_r a0), none, none, none] [] h
noncomputable def L9_redoNow_35 (d : Nat) (a0 : Nat) (a1 : Int) (a2 : Int) (a3 : Int) (h : zv_H) : zv_O := zv_lim (zv_cs zv_prog d) mc9_redoNow 35 [some (zv_r a0), some (zv_i a1), some (zv_i a2), some (zv_i a3)] [] h
noncomputable def L9_redoNow_62 (d : Nat) (a0 : Nat) (a1 : Int) (h : zv_H) : zv_O := zv_lim (zv_cs zv_prog d) mc9_redoNow 62 [some (zv_r a0), some (zv_i a1), none, none] [] h
noncomputable def C9_commonOf (d : Nat) (a0 : Nat) (a1 : Int) (a2 : Int) (h : zv_H) := (zv_cs zv_prog d).2.1 232 [zv_r a0, zv_i a1, zv_i a2] h
noncomputable def E9_commonOf (d : Nat) (a0 : Nat) (a1 : Int) (a2 : Int) (h : zv_H) : zv_O := zv_lim (zv_cs zv_prog d) mc9_commonOf 0 [some (zv_r a0), some (zv_i a1), some (zv_i a2), none] [] h
noncomputable def L9_commonOf_2 (d : Nat) (a0 : Nat) (a2 : Int) (a3 : Int) (h : zv_H) : zv_O := zv_lim (zv_cs zv_prog d) mc9_commonOf 2 [some (zv_r a0), none, some (zv_i a2), some (zv_i a3)] [] h
noncomputable def C9_wayMany (d : Nat) (a0 : Nat) (a1 : Int) (a2 : Int) (h : zv_H) := (zv_cs zv_prog d).2.1 233 [zv_r a0, zv_i a1, zv_i a2] h
noncomputable def E9_wayMany (d : Nat) (a0 : Nat) (a1 : Int) (a2 : Int) (h : zv_H) : zv_O := zv_lim (zv_cs zv_prog d) mc9_wayMany 0 [some (zv_r a0), some (zv_i a1), some (zv_i a2)] [] h
noncomputable def C9_goNow (d : Nat) (a0 : Nat) (a1 : Int) (h : zv_H) := (zv_cs zv_prog d).2.1 234 [zv_r a0, zv_i a1] h
noncomputable def E9_goNow (d : Nat) (a0 : Nat) (a1 : Int) (h : zv_H) : zv_O := zv_lim (zv_cs zv_prog d) mc9_goNow 0 [some (zv_r a0), some (zv_i a1), none] [] h
noncomputable def C9_nameNow (d : Nat) (a0 : Nat) (h : zv_H) := (zv_cs zv_prog d).2.1 235 [zv_r a0] h
noncomputable def E9_nameNow (d : Nat) (a0 : Nat) (h : zv_H) : zv_O := zv_lim (zv_cs zv_prog d) mc9_nameNow 0 [some (zv_r a0), none, none] [] h
noncomputable def L9_nameNow_58 (d : Nat) (a0 : Nat) (a1 : Int) (a2 : Int) (h : zv_H) : zv_O := zv_lim (zv_cs zv_prog d) mc9_nameNow 58 [some (zv_r a0), some (zv_i a1), some (zv_i a2)] [] h
noncomputable def L9_nameNow_89 (d : Nat) (a0 : Nat) (a1 : Int) (a2 : Int) (h : zv_H) : zv_O := zv_lim (zv_cs zv_prog d) mc9_nameNow 89 [some (zv_r a0), some (zv_i a1), some (zv_i a2)] [] h
noncomputable def L9_nameNow_110 (d : Nat) (a0 : Nat) (a1 : Int) (a2 : Int) (h : zv_H) : zv_O := zv_lim (zv_cs zv_prog d) mc9_nameNow 110 [some (zv_r a0), some (zv_i a1), some (zv_i a2)] [] h
noncomputable def C9_leansOn (d : Nat) (a0 : Nat) (a1 : Int) (a2 : Int) (h : zv_H) := (zv_cs zv_prog d).2.1 236 [zv_r a0, zv_i a1, zv_i a2] h
noncomputable def E9_leansOn (d : Nat) (a0 : Nat) (a1 : Int) (a2 : Int) (h : zv_H) : zv_O := zv_lim (zv_cs zv_prog d) mc9_leansOn 0 [some (zv_r a0), some (zv_i a1), some (zv_i a2), none] [] h
noncomputable def L9_leansOn_28 (d : Nat) (a0 : Nat) (a1 : Int) (a2 : Int) (a3 : Int) (h : zv_H) : zv_O := zv_lim (zv_cs zv_prog d) mc9_leansOn 28 [some (zv_r a0), some (zv_i a1), some (zv_i a2), some (zv_i a3)] [] h
noncomputable def C9_marks (d : Nat) (a0 : Nat) (a1 : Int) (a2 : Int) (h : zv_H) := (zv_cs zv_prog d).1 237 [zv_r a0, zv_i a1, zv_i a2] h
noncomputable def E9_marks (d : Nat) (a0 : Nat) (a1 : Int) (a2 : Int) (h : zv_H) : zv_O := zv_lim (zv_cs zv_prog d) mc9_marks 0 [some (zv_r a0), some (zv_i a1), some (zv_i a2), none, none, none, none] [] h
noncomputable def L9_marks_10 (d : Nat) (a0 : Nat) (a1 : Int) (a2 : Int) (a3 : Int) (h : zv_H) : zv_O := zv_lim (zv_cs zv_prog d) mc9_marks 10 [some (zv_r a0), some (zv_i a1), some (zv_i a2), some (zv_i a3), none, none, none] [] h
noncomputable def L9_marks_40 (d : Nat) (a0 : Nat) (a2 : Int) (a3 : Int) (h : zv_H) : zv_O := zv_lim (zv_cs zv_prog d) mc9_marks 40 [some (zv_r a0), none, some (zv_i a2), some (zv_i a3), none, none, none] [] h
noncomputable def L9_marks_72 (d : Nat) (a0 : Nat) (a2 : Int) (a3 : Int) (a4 : Int) (a5 : Int) (h : zv_H) : zv_O := zv_lim (zv_cs zv_prog d) mc9_marks 72 [some (zv_r a0), none, some (zv_i a2), some (zv_i a3), some (zv_i a4), some (zv_i a5), none] [] h
noncomputable def C9_triesNames (d : Nat) (a0 : Nat) (a1 : Int) (h : zv_H) := (zv_cs zv_prog d).2.1 238 [zv_r a0, zv_i a1] h
noncomputable def E9_triesNames (d : Nat) (a0 : Nat) (a1 : Int) (h : zv_H) : zv_O := zv_lim (zv_cs zv_prog d) mc9_triesNames 0 [some (zv_r a0), some (zv_i a1), none, none] [] h
noncomputable def L9_triesNames_22 (d : Nat) (a0 : Nat) (a1 : Int) (a2 : Int) (a3 : Int) (h : zv_H) : zv_O := zv_lim (zv_cs zv_prog d) mc9_triesNames 22 [some (zv_r a0), some (zv_i a1), some (zv_i a2), some (zv_i a3)] [] h
noncomputable def L9_triesNames_65 (d : Nat) (a0 : Nat) (a1 : Int) (a2 : Int) (a3 : Int) (e0 : Int) (e1 : Int) (h : zv_H) : zv_O := zv_lim (zv_cs zv_prog d) mc9_triesNames 65 [some (zv_r a0), some (zv_i a1), some (zv_i a2), some (zv_i a3)] [zv_i e1, zv_i e0] h
noncomputable def C9_turnNow (d : Nat) (a0 : Nat) (a1 : Int) (a2 : Int) (h : zv_H) := (zv_cs zv_prog d).2.1 239 [zv_r a0, zv_i a1, zv_i a2] h
noncomputable def E9_turnNow (d : Nat) (a0 : Nat) (a1 : Int) (a2 : Int) (h : zv_H) : zv_O := zv_lim (zv_cs zv_prog d) mc9_turnNow 0 [some (zv_r a0), some (zv_i a1), some (zv_i a2), none, none] [] h
noncomputable def L9_turnNow_34 (d : Nat) (a0 : Nat) (h : zv_H) : zv_O := zv_lim (zv_cs zv_prog d) mc9_turnNow 34 [some (zv_r a0), none, none, none, none] [] h
noncomputable def L9_turnNow_65 (d : Nat) (a0 : Nat) (a1 : Int) (a2 : Int) (e0 : Int) (e1 : Int) (h : zv_H) : zv_O := zv_lim (zv_cs zv_prog d) mc9_turnNow 65 [some (zv_r a0), some (zv_i a1), some (zv_i a2), none, none] [zv_i e1, zv_i e0] h
noncomputable def L9_turnNow_101 (d : Nat) (a0 : Nat) (a2 : Int) (e0 : Nat) (e1 : Int) (e2 : Int) (h : zv_H) : zv_O := zv_lim (zv_cs zv_prog d) mc9_turnNow 101 [some (zv_r a0), none, some (zv_i a2), none, none] [zv_i e2, zv_i e1, zv_r e0] h
noncomputable def C9_lays (d : Nat) (a0 : Nat) (a1 : Int) (h : zv_H) := (zv_cs zv_prog d).1 240 [zv_r a0, zv_i a1] h
noncomputable def E9_lays (d : Nat) (a0 : Nat) (a1 : Int) (h : zv_H) : zv_O := zv_lim (zv_cs zv_prog d) mc9_lays 0 [some (zv_r a0), some (zv_i a1), none] [] h
noncomputable def L9_lays_3 (d : Nat) (a0 : Nat) (a1 : Int) (a2 : Int) (h : zv_H) : zv_O := zv_lim (zv_cs zv_prog d) mc9_lays 3 [some (zv_r a0), some (zv_i a1), some (zv_i a2)] [] h
noncomputable def C9_feed (d : Nat) (a0 : Nat) (a1 : Int) (a2 : Int) (a3 : Int) (a4 : Int) (a5 : Int) (h : zv_H) := (zv_cs zv_prog d).2.1 241 [zv_r a0, zv_i a1, zv_i a2, zv_i a3, zv_i a4, zv_i a5] h
noncomputable def E9_feed (d : Nat) (a0 : Nat) (a1 : Int) (a2 : Int) (a3 : Int) (a4 : Int) (a5 : Int) (h : zv_H) : zv_O := zv_lim (zv_cs zv_prog d) mc9_feed 0 [some (zv_r a0), some (zv_i a1), some (zv_i a2), some (zv_i a3), some (zv_i a4), some (zv_i a5)] [] h
noncomputable def C9_isOf (d : Nat) (a0 : Nat) (a1 : Int) (a2 : Int) (a3 : Int) (h : zv_H) := (zv_cs zv_prog d).2.1 242 [zv_r a0, zv_i a1, zv_i a2, zv_i a3] h
noncomputable def E9_isOf (d : Nat) (a0 : Nat) (a1 : Int) (a2 : Int) (a3 : Int) (h : zv_H) : zv_O := zv_lim (zv_cs zv_prog d) mc9_isOf 0 [some (zv_r a0), some (zv_i a1), some (zv_i a2), some (zv_i a3)] [] h
noncomputable def C9_reads (d : Nat) (a0 : Nat) (h : zv_H) := (zv_cs zv_prog d).1 243 [zv_r a0] h
noncomputable def E9_reads (d : Nat) (a0 : Nat) (h : zv_H) : zv_O := zv_lim (zv_cs zv_prog d) mc9_reads 0 [some (zv_r a0)] [] h
noncomputable def L9_reads_8 (d : Nat) (a0 : Nat) (h : zv_H) : zv_O := zv_lim (zv_cs zv_prog d) mc9_reads 8 [some (zv_r a0)] [] h
noncomputable def L9_reads_60 (d : Nat) (a0 : Nat) (h : zv_H) : zv_O := zv_lim (zv_cs zv_prog d) mc9_reads 60 [some (zv_r a0)] [] h
noncomputable def L9_reads_110 (d : Nat) (a0 : Nat) (e0 : Nat) (e1 : Int) (h : zv_H) : zv_O := zv_lim (zv_cs zv_prog d) mc9_reads 110 [some (zv_r a0)] [zv_i e1, zv_r e0] h
noncomputable def L9_reads_146 (d : Nat) (a0 : Nat) (h : zv_H) : zv_O := zv_lim (zv_cs zv_prog d) mc9_reads 146 [some (zv_r a0)] [] h
noncomputable def L9_reads_250 (d : Nat) (a0 : Nat) (h : zv_H) : zv_O := zv_lim (zv_cs zv_prog d) mc9_reads 250 [some (zv_r a0)] [] h
noncomputable def C9_must (d : Nat) (a0 : Nat) (a1 : Int) (a2 : Int) (h : zv_H) := (zv_cs zv_prog d).1 244 [zv_r a0, zv_i a1, zv_i a2] h
noncomputable def E9_must (d : Nat) (a0 : Nat) (a1 : Int) (a2 : Int) (h : zv_H) : zv_O := zv_lim (zv_cs zv_prog d) mc9_must 0 [some (zv_r a0), some (zv_i a1), some (zv_i a2)] [] h
noncomputable def C9_which (d : Nat) (a0 : Nat) (a1 : Nat) (h : zv_H) := (zv_cs zv_prog d).2.1 245 [zv_r a0, zv_r a1] h
noncomputable def E9_which (d : Nat) (a0 : Nat) (a1 : Nat) (h : zv_H) : zv_O := zv_lim (zv_cs zv_prog d) mc9_which 0 [some (zv_r a0), some (zv_r a1), none] [] h
noncomputable def L9_which_2 (d : Nat) (a0 : Nat) (a1 : Nat) (a2 : Int) (h : zv_H) : zv_O := zv_lim (zv_cs zv_prog d) mc9_which 2 [some (zv_r a0), some (zv_r a1), some (zv_i a2)] [] h
noncomputable def C9_isSign (d : Nat) (a0 : Nat) (a1 : Int) (h : zv_H) := (zv_cs zv_prog d).2.1 246 [zv_r a0, zv_i a1] h
noncomputable def E9_isSign (d : Nat) (a0 : Nat) (a1 : Int) (h : zv_H) : zv_O := zv_lim (zv_cs zv_prog d) mc9_isSign 0 [some (zv_r a0), some (zv_i a1)] [] h
noncomputable def C9_takes (d : Nat) (a0 : Nat) (a1 : Int) (h : zv_H) := (zv_cs zv_prog d).1 247 [zv_r a0, zv_i a1] h
noncomputable def E9_takes (d : Nat) (a0 : Nat) (a1 : Int) (h : zv_H) : zv_O := zv_lim (zv_cs zv_prog d) mc9_takes 0 [some (zv_r a0), some (zv_i a1)] [] h
noncomputable def C9_takesNumber (d : Nat) (a0 : Nat) (h : zv_H) := (zv_cs zv_prog d).2.1 248 [zv_r a0] h
noncomputable def E9_takesNumber (d : Nat) (a0 : Nat) (h : zv_H) : zv_O := zv_lim (zv_cs zv_prog d) mc9_takesNumber 0 [some (zv_r a0), none] [] h
noncomputable def L9_takesNumber_14 (d : Nat) (a0 : Nat) (e0 : Nat) (e1 : Int) (h : zv_H) : zv_O := zv_lim (zv_cs zv_prog d) mc9_takesNumber 14 [some (zv_r a0), none] [zv_i e1, zv_r e0] h
noncomputable def C9_takesWord (d : Nat) (a0 : Nat) (a1 : Int) (h : zv_H) := (zv_cs zv_prog d).1 249 [zv_r a0, zv_i a1] h
noncomputable def E9_takesWord (d : Nat) (a0 : Nat) (a1 : Int) (h : zv_H) : zv_O := zv_lim (zv_cs zv_prog d) mc9_takesWord 0 [some (zv_r a0), some (zv_i a1), none] [] h
noncomputable def L9_takesWord_14 (d : Nat) (a0 : Nat) (a1 : Int) (e0 : Nat) (e1 : Int) (h : zv_H) : zv_O := zv_lim (zv_cs zv_prog d) mc9_takesWord 14 [some (zv_r a0), some (zv_i a1), none] [zv_i e1, zv_r e0] h
noncomputable def L9_takesWord_37 (d : Nat) (a0 : Nat) (e0 : Nat) (e1 : Int) (h : zv_H) : zv_O := zv_lim (zv_cs zv_prog d) mc9_takesWord 37 [some (zv_r a0), none, none] [zv_i e1, zv_r e0] h
noncomputable def L9_takesWord_64 (d : Nat) (a0 : Nat) (a2 : Int) (h : zv_H) : zv_O := zv_lim (zv_cs zv_prog d) mc9_takesWord 64 [some (zv_r a0), none, some (zv_i a2)] [] h
noncomputable def C9_emits (d : Nat) (a0 : Nat) (a1 : Int) (h : zv_H) := (zv_cs zv_prog d).1 250 [zv_r a0, zv_i a1] h
noncomputable def E9_emits (d : Nat) (a0 : Nat) (a1 : Int) (h : zv_H) : zv_O := zv_lim (zv_cs zv_prog d) mc9_emits 0 [some (zv_r a0), some (zv_i a1)] [] h
noncomputable def C9_test (d : Nat) (a0 : Nat) (h : zv_H) := (zv_cs zv_prog d).1 251 [zv_r a0] h
noncomputable def E9_test (d : Nat) (a0 : Nat) (h : zv_H) : zv_O := zv_lim (zv_cs zv_prog d) mc9_test 0 [some (zv_r a0)] [] h
noncomputable def L9_test_4 (d : Nat) (a0 : Nat) (h : zv_H) : zv_O := zv_lim (zv_cs zv_prog d) mc9_test 4 [some (zv_r a0)] [] h
noncomputable def C9_side (d : Nat) (a0 : Nat) (h : zv_H) := (zv_cs zv_prog d).1 252 [zv_r a0] h
noncomputable def E9_side (d : Nat) (a0 : Nat) (h : zv_H) : zv_O := zv_lim (zv_cs zv_prog d) mc9_side 0 [some (zv_r a0)] [] h
noncomputable def L9_side_4 (d : Nat) (a0 : Nat) (h : zv_H) : zv_O := zv_lim (zv_cs zv_prog d) mc9_side 4 [some (zv_r a0)] [] h
noncomputable def C9_fact (d : Nat) (a0 : Nat) (h : zv_H) := (zv_cs zv_prog d).1 253 [zv_r a0] h
noncomputable def E9_fact (d : Nat) (a0 : Nat) (h : zv_H) : zv_O := zv_lim (zv_cs zv_prog d) mc9_fact 0 [some (zv_r a0), none, none, none, none] [] h
noncomputable def L9_fact_17 (d : Nat) (a0 : Nat) (e0 : Int) (h : zv_H) : zv_O := zv_lim (zv_cs zv_prog d) mc9_fact 17 [some (zv_r a0), none, none, none, none] [zv_i e0] h
noncomputable def L9_fact_38 (d : Nat) (a0 : Nat) (a1 : Int) (h : zv_H) : zv_O := zv_lim (zv_cs zv_prog d) mc9_fact 38 [some (zv_r a0), some (zv_i a1), none, none, none] [] h
noncomputable def L9_fact_53 (d : Nat) (a0 : Nat) (a1 : Int) (e0 : Nat) (e1 : Int) (h : zv_H) : zv_O := zv_lim (zv_cs zv_prog d) mc9_fact 53 [some (zv_r a0), some (zv_i a1), none, none, none] [zv_i e1, zv_r e0] h
noncomputable def L9_fact_117 (d : Nat) (a0 : Nat) (h : zv_H) : zv_O := zv_lim (zv_cs zv_prog d) mc9_fact 117 [some (zv_r a0), none, none, none, none] [] h
noncomputable def L9_fact_136 (d : Nat) (a0 : Nat) (a2 : Int) (e0 : Nat) (e1 : Int) (h : zv_H) : zv_O := zv_lim (zv_cs zv_prog d) mc9_fact 136 [some (zv_r a0), none, some (zv_i a2), none, none] [zv_i e1, zv_r e0] h
noncomputable def L9_fact_192 (d : Nat) (a0 : Nat) (a2 : Int) (e0 : Int) (h : zv_H) : zv_O := zv_lim (zv_cs zv_prog d) mc9_fact 192 [some (zv_r a0), none, some (zv_i a2), none, none] [zv_i e0] h
noncomputable def L9_fact_203 (d : Nat) (a0 : Nat) (a2 : Int) (a3 : Int) (e0 : Nat) (e1 : Int) (h : zv_H) : zv_O := zv_lim (zv_cs zv_prog d) mc9_fact 203 [some (zv_r a0), none, some (zv_i a2), some (zv_i a3), none] [zv_i e1, zv_r e0] h
noncomputable def L9_fact_218 (d : Nat) (a0 : Nat) (a2 : Int) (a3 : Int) (h : zv_H) : zv_O := zv_lim (zv_cs zv_prog d) mc9_fact 218 [some (zv_r a0), none, some (zv_i a2), some (zv_i a3), none] [] h
noncomputable def C9_readsLine (d : Nat) (a0 : Nat) (h : zv_H) := (zv_cs zv_prog d).1 254 [zv_r a0] h
noncomputable def E9_readsLine (d : Nat) (a0 : Nat) (h : zv_H) : zv_O := zv_lim (zv_cs zv_prog d) mc9_readsLine 0 [some (zv_r a0), none] [] h
noncomputable def L9_readsLine_19 (d : Nat) (a0 : Nat) (a1 : Int) (e0 : Nat) (e1 : Int) (h : zv_H) : zv_O := zv_lim (zv_cs zv_prog d) mc9_readsLine 19 [some (zv_r a0), some (zv_i a1)] [zv_i e1, zv_r e0] h
noncomputable def L9_readsLine_61 (d : Nat) (a0 : Nat) (a1 : Int) (h : zv_H) : zv_O := zv_lim (zv_cs zv_prog d) mc9_readsLine 61 [some (zv_r a0), some (zv_i a1)] [] h
noncomputable def L9_readsLine_69 (d : Nat) (a0 : Nat) (a1 : Int) (h : zv_H) : zv_O := zv_lim (zv_cs zv_prog d) mc9_readsLine 69 [some (zv_r a0), some (zv_i a1)] [] h
noncomputable def L9_readsLine_82 (d : Nat) (a0 : Nat) (a1 : Int) (h : zv_H) : zv_O := zv_lim (zv_cs zv_prog d) mc9_readsLine 82 [some (zv_r a0), some (zv_i a1)] [] h
noncomputable def L9_readsLine_92 (d : Nat) (a0 : Nat) (a1 : Int) (h : zv_H) : zv_O := zv_lim (zv_cs zv_prog d) mc9_readsLine 92 [some (zv_r a0), some (zv_i a1)] [] h
noncomputable def L9_readsLine_104 (d : Nat) (a0 : Nat) (a1 : Int) (h : zv_H) : zv_O := zv_lim (zv_cs zv_prog d) mc9_readsLine 104 [some (zv_r a0), some (zv_i a1)] [] h
noncomputable def L9_readsLine_131 (d : Nat) (a0 : Nat) (a1 : Int) (e0 : Nat) (h : zv_H) : zv_O := zv_lim (zv_cs zv_prog d) mc9_readsLine 131 [some (zv_r a0), some (zv_i a1)] [zv_r e0] h
noncomputable def L9_readsLine_132 (d : Nat) (a0 : Nat) (a1 : Int) (e0 : Nat) (e1 : Int) (h : zv_H) : zv_O := zv_lim (zv_cs zv_prog d) mc9_readsLine 132 [some (zv_r a0), some (zv_i a1)] [zv_i e1, zv_r e0] h
noncomputable def L9_readsLine_158 (d : Nat) (a0 : Nat) (e0 : Nat) (e1 : Int) (h : zv_H) : zv_O := zv_lim (zv_cs zv_prog d) mc9_readsLine 158 [some (zv_r a0), none] [zv_i e1, zv_r e0] h
noncomputable def C9_does (d : Nat) (a0 : Nat) (a1 : Int) (h : zv_H) := (zv_cs zv_prog d).2.1 255 [zv_r a0, zv_i a1] h
noncomputable def E9_does (d : Nat) (a0 : Nat) (a1 : Int) (h : zv_H) : zv_O := zv_lim (zv_cs zv_prog d) mc9_does 0 [some (zv_r a0), some (zv_i a1)] [] h
noncomputable def C9_load (d : Nat) (a0 : Nat) (a1 : Int) (h : zv_H) := (zv_cs zv_prog d).2.1 256 [zv_r a0, zv_i a1] h
noncomputable def E9_load (d : Nat) (a0 : Nat) (a1 : Int) (h : zv_H) : zv_O := zv_lim (zv_cs zv_prog d) mc9_load 0 [some (zv_r a0), some (zv_i a1), none] [] h
noncomputable def L9_load_18 (d : Nat) (a0 : Nat) (a1 : Int) (e0 : Nat) (e1 : Int) (h : zv_H) : zv_O := zv_lim (zv_cs zv_prog d) mc9_load 18 [some (zv_r a0), some (zv_i a1), none] [zv_i e1, zv_r e0] h
noncomputable def L9_load_48 (d : Nat) (a0 : Nat) (a2 : Int) (h : zv_H) : zv_O := zv_lim (zv_cs zv_prog d) mc9_load 48 [some (zv_r a0), none, some (zv_i a2)] [] h
noncomputable def L9_load_104 (d : Nat) (a0 : Nat) (a2 : Int) (h : zv_H) : zv_O := zv_lim (zv_cs zv_prog d) mc9_load 104 [some (zv_r a0), none, some (zv_i a2)] [] h
noncomputable def L9_load_140 (d : Nat) (a0 : Nat) (h : zv_H) : zv_O := zv_lim (zv_cs zv_prog d) mc9_load 140 [some (zv_r a0), none, none] [] h
noncomputable def L9_load_156 (d : Nat) (a0 : Nat) (h : zv_H) : zv_O := zv_lim (zv_cs zv_prog d) mc9_load 156 [some (zv_r a0), none, none] [] h
noncomputable def L9_load_182 (d : Nat) (a0 : Nat) (h : zv_H) : zv_O := zv_lim (zv_cs zv_prog d) mc9_load 182 [some (zv_r a0), none, none] [] h
noncomputable def L9_load_203 (d : Nat) (a0 : Nat) (h : zv_H) : zv_O := zv_lim (zv_cs zv_prog d) mc9_load 203 [some (zv_r a0), none, none] [] h
noncomputable def L9_load_232 (d : Nat) (a0 : Nat) (e0 : Nat) (e1 : Int) (h : zv_H) : zv_O := zv_lim (zv_cs zv_prog d) mc9_load 232 [some (zv_r a0), none, none] [zv_i e1, zv_r e0] h
noncomputable def L9_load_254 (d : Nat) (a0 : Nat) (a2 : Int) (h : zv_H) : zv_O := zv_lim (zv_cs zv_prog d) mc9_load 254 [some (zv_r a0), none, some (zv_i a2)] [] h
noncomputable def C9_fault (d : Nat) (a0 : Nat) (a1 : Int) (h : zv_H) := (zv_cs zv_prog d).2.1 257 [zv_r a0, zv_i a1] h
noncomputable def E9_fault (d : Nat) (a0 : Nat) (a1 : Int) (h : zv_H) : zv_O := zv_lim (zv_cs zv_prog d) mc9_fault 0 [some (zv_r a0), some (zv_i a1)] [] h
noncomputable def C9_leaves (d : Nat) (a0 : Nat) (h : zv_H) := (zv_cs zv_prog d).2.1 258 [zv_r a0] h
noncomputable def E9_leaves (d : Nat) (a0 : Nat) (h : zv_H) : zv_O := zv_lim (zv_cs zv_prog d) mc9_leaves 0 [some (zv_r a0), none, none] [] h
noncomputable def L9_leaves_4 (d : Nat) (a0 : Nat) (a1 : Int) (a2 : Int) (h : zv_H) : zv_O := zv_lim (zv_cs zv_prog d) mc9_leaves 4 [some (zv_r a0), some (zv_i a1), some (zv_i a2)] [] h
noncomputable def C9_groups (d : Nat) (a0 : Nat) (h : zv_H) := (zv_cs zv_prog d).2.1 259 [zv_r a0] h
noncomputable def E9_groups (d : Nat) (a0 : Nat) (h : zv_H) : zv_O := zv_lim (zv_cs zv_prog d) mc9_groups 0 [some (zv_r a0), none, none] [] h
noncomputable def L9_groups_7 (d : Nat) (a0 : Nat) (a1 : Int) (a2 : Int) (h : zv_H) : zv_O := zv_lim (zv_cs zv_prog d) mc9_groups 7 [some (zv_r a0), some (zv_i a1), some (zv_i a2)] [] h
noncomputable def L9_groups_28 (d : Nat) (a0 : Nat) (a2 : Int) (e0 : Int) (e1 : Int) (h : zv_H) : zv_O := zv_lim (zv_cs zv_prog d) mc9_groups 28 [some (zv_r a0), none, some (zv_i a2)] [zv_i e1, zv_i e0] h
noncomputable def C9_gone (d : Nat) (a0 : Nat) (h : zv_H) := (zv_cs zv_prog d).2.1 260 [zv_r a0] h
noncomputable def E9_gone (d : Nat) (a0 : Nat) (h : zv_H) : zv_O := zv_lim (zv_cs zv_prog d) mc9_gone 0 [some (zv_r a0), none, none] [] h
noncomputable def L9_gone_12 (d : Nat) (a0 : Nat) (a1 : Int) (a2 : Int) (h : zv_H) : zv_O := zv_lim (zv_cs zv_prog d) mc9_gone 12 [some (zv_r a0), some (zv_i a1), some (zv_i a2)] [] h
noncomputable def C9_many (d : Nat) (a0 : Nat) (a1 : Int) (h : zv_H) := (zv_cs zv_prog d).2.1 261 [zv_r a0, zv_i a1] h
noncomputable def E9_many (d : Nat) (a0 : Nat) (a1 : Int) (h : zv_H) : zv_O := zv_lim (zv_cs zv_prog d) mc9_many 0 [some (zv_r a0), some (zv_i a1)] [] h
noncomputable def L9_many_16 (d : Nat) (a0 : Nat) (a1 : Int) (e0 : Nat) (e1 : Int) (h : zv_H) : zv_O := zv_lim (zv_cs zv_prog d) mc9_many 16 [some (zv_r a0), some (zv_i a1)] [zv_i e1, zv_r e0] h
noncomputable def C9_letter (d : Nat) (a0 : Nat) (a1 : Int) (a2 : Int) (h : zv_H) := (zv_cs zv_prog d).2.1 262 [zv_r a0, zv_i a1, zv_i a2] h
noncomputable def E9_letter (d : Nat) (a0 : Nat) (a1 : Int) (a2 : Int) (h : zv_H) : zv_O := zv_lim (zv_cs zv_prog d) mc9_letter 0 [some (zv_r a0), some (zv_i a1), some (zv_i a2)] [] h
noncomputable def L9_letter_22 (d : Nat) (a0 : Nat) (a1 : Int) (a2 : Int) (e0 : Nat) (e1 : Int) (h : zv_H) : zv_O := zv_lim (zv_cs zv_prog d) mc9_letter 22 [some (zv_r a0), some (zv_i a1), some (zv_i a2)] [zv_i e1, zv_r e0] h
noncomputable def C9_namesOf (d : Nat) (a0 : Nat) (a1 : Int) (h : zv_H) := (zv_cs zv_prog d).2.1 263 [zv_r a0, zv_i a1] h
noncomputable def E9_namesOf (d : Nat) (a0 : Nat) (a1 : Int) (h : zv_H) : zv_O := zv_lim (zv_cs zv_prog d) mc9_namesOf 0 [some (zv_r a0), some (zv_i a1), none, none] [] h
noncomputable def L9_namesOf_4 (d : Nat) (a0 : Nat) (a1 : Int) (a2 : Int) (a3 : Int) (h : zv_H) : zv_O := zv_lim (zv_cs zv_prog d) mc9_namesOf 4 [some (zv_r a0), some (zv_i a1), some (zv_i a2), some (zv_i a3)] [] h
noncomputable def C9_state (d : Nat) (a0 : Nat) (a1 : Int) (a2 : Int) (h : zv_H) := (zv_cs zv_prog d).2.1 264 [zv_r a0, zv_i a1, zv_i a2] h
noncomputable def E9_state (d : Nat) (a0 : Nat) (a1 : Int) (a2 : Int) (h : zv_H) : zv_O := zv_lim (zv_cs zv_prog d) mc9_state 0 [some (zv_r a0), some (zv_i a1), some (zv_i a2)] [] h
noncomputable def L9_state_28 (d : Nat) (a0 : Nat) (a1 : Int) (a2 : Int) (e0 : Nat) (e1 : Int) (h : zv_H) : zv_O := zv_lim (zv_cs zv_prog d) mc9_state 28 [some (zv_r a0), some (zv_i a1), some (zv_i a2)] [zv_i e1, zv_r e0] h
noncomputable def C9_child (d : Nat) (a0 : Nat) (a1 : Int) (a2 : Int) (h : zv_H) := (zv_cs zv_prog d).2.1 265 [zv_r a0, zv_i a1, zv_i a2] h
noncomputable def E9_child (d : Nat) (a0 : Nat) (a1 : Int) (a2 : Int) (h : zv_H) : zv_O := zv_lim (zv_cs zv_prog d) mc9_child 0 [some (zv_r a0), some (zv_i a1), some (zv_i a2), none] [] h
noncomputable def L9_child_22 (d : Nat) (a0 : Nat) (a1 : Int) (a2 : Int) (e0 : Nat) (e1 : Int) (h : zv_H) : zv_O := zv_lim (zv_cs zv_prog d) mc9_child 22 [some (zv_r a0), some (zv_i a1), some (zv_i a2), none] [zv_i e1, zv_r e0] h
noncomputable def L9_child_46 (d : Nat) (a0 : Nat) (e0 : Int) (h : zv_H) : zv_O := zv_lim (zv_cs zv_prog d) mc9_child 46 [some (zv_r a0), none, none, none] [zv_i e0] h
noncomputable def C9_force (d : Nat) (a0 : Nat) (a1 : Int) (a2 : Int) (h : zv_H) := (zv_cs zv_prog d).2.1 266 [zv_r a0, zv_i a1, zv_i a2] h
noncomputable def E9_force (d : Nat) (a0 : Nat) (a1 : Int) (a2 : Int) (h : zv_H) : zv_O := zv_lim (zv_cs zv_prog d) mc9_force 0 [some (zv_r a0), some (zv_i a1), some (zv_i a2)] [] h
noncomputable def L9_force_17 (d : Nat) (a0 : Nat) (a1 : Int) (a2 : Int) (e0 : Nat) (h : zv_H) : zv_O := zv_lim (zv_cs zv_prog d) mc9_force 17 [some (zv_r a0), some (zv_i a1), some (zv_i a2)] [zv_r e0] h
noncomputable def L9_force_38 (d : Nat) (a0 : Nat) (a1 : Int) (a2 : Int) (e0 : Nat) (h : zv_H) : zv_O := zv_lim (zv_cs zv_prog d) mc9_force 38 [some (zv_r a0), some (zv_i a1), some (zv_i a2)] [zv_r e0] h
noncomputable def L9_force_43 (d : Nat) (a0 : Nat) (a1 : Int) (a2 : Int) (e0 : Nat) (e1 : Int) (h : zv_H) : zv_O := zv_lim (zv_cs zv_prog d) mc9_force 43 [some (zv_r a0), some (zv_i a1), some (zv_i a2)] [zv_i e1, zv_r e0] h
noncomputable def C9_blame (d : Nat) (a0 : Nat) (a1 : Int) (a2 : Int) (h : zv_H) := (zv_cs zv_prog d).2.1 267 [zv_r a0, zv_i a1, zv_i a2] h
noncomputable def E9_blame (d : Nat) (a0 : Nat) (a1 : Int) (a2 : Int) (h : zv_H) : zv_O := zv_lim (zv_cs zv_prog d) mc9_blame 0 [some (zv_r a0), some (zv_i a1), some (zv_i a2), none] [] h
noncomputable def L9_blame_18 (d : Nat) (a0 : Nat) (a1 : Int) (a2 : Int) (e0 : Nat) (h : zv_H) : zv_O := zv_lim (zv_cs zv_prog d) mc9_blame 18 [some (zv_r a0), some (zv_i a1), some (zv_i a2), none] [zv_r e0] h
noncomputable def L9_blame_19 (d : Nat) (a0 : Nat) (a1 : Int) (a2 : Int) (e0 : Nat) (e1 : Int) (h : zv_H) : zv_O := zv_lim (zv_cs zv_prog d) mc9_blame 19 [some (zv_r a0), some (zv_i a1), some (zv_i a2), none] [zv_i e1, zv_r e0] h
noncomputable def C9_cutsOf (d : Nat) (a0 : Nat) (a1 : Int) (a2 : Int) (a3 : Int) (h : zv_H) := (zv_cs zv_prog d).2.1 268 [zv_r a0, zv_i a1, zv_i a2, zv_i a3] h
noncomputable def E9_cutsOf (d : Nat) (a0 : Nat) (a1 : Int) (a2 : Int) (a3 : Int) (h : zv_H) : zv_O := zv_lim (zv_cs zv_prog d) mc9_cutsOf 0 [some (zv_r a0), some (zv_i a1), some (zv_i a2), some (zv_i a3), none, none, none, none] [] h
noncomputable def L9_cutsOf_14 (d : Nat) (a0 : Nat) (a1 : Int) (a2 : Int) (a3 : Int) (a4 : Int) (a5 : Int) (h : zv_H) : zv_O := zv_lim (zv_cs zv_prog d) mc9_cutsOf 14 [some (zv_r a0), some (zv_i a1), some (zv_i a2), some (zv_i a3), some (zv_i a4), some (zv_i a5), none, none] [] h
noncomputable def L9_cutsOf_49 (d : Nat) (a0 : Nat) (a1 : Int) (a2 : Int) (a3 : Int) (a4 : Int) (a5 : Int) (a6 : Int) (a7 : Int) (h : zv_H) : zv_O := zv_lim (zv_cs zv_prog d) mc9_cutsOf 49 [some (zv_r a0), some (zv_i a1), some (zv_i a2), some (zv_i a3), some (zv_i a4), some (zv_i a5), some (zv_i a6), some (zv_i a7)] [] h
noncomputable def C9_row (d : Nat) (a0 : Nat) (a1 : Int) (a2 : Int) (h : zv_H) := (zv_cs zv_prog d).2.1 269 [zv_r a0, zv_i a1, zv_i a2] h
noncomputable def E9_row (d : Nat) (a0 : Nat) (a1 : Int) (a2 : Int) (h : zv_H) : zv_O := zv_lim (zv_cs zv_prog d) mc9_row 0 [some (zv_r a0), some (zv_i a1), some (zv_i a2)] [] h
noncomputable def L9_row_18 (d : Nat) (a0 : Nat) (a1 : Int) (a2 : Int) (e0 : Nat) (h : zv_H) : zv_O := zv_lim (zv_cs zv_prog d) mc9_row 18 [some (zv_r a0), some (zv_i a1), some (zv_i a2)] [zv_r e0] h
noncomputable def L9_row_19 (d : Nat) (a0 : Nat) (a1 : Int) (a2 : Int) (e0 : Nat) (e1 : Int) (h : zv_H) : zv_O := zv_lim (zv_cs zv_prog d) mc9_row 19 [some (zv_r a0), some (zv_i a1), some (zv_i a2)] [zv_i e1, zv_r e0] h
noncomputable def L9_row_120 (d : Nat) (e0 : Nat) (e1 : Int) (e2 : Int) (e3 : Int) (h : zv_H) : zv_O := zv_lim (zv_cs zv_prog d) mc9_row 120 [none, none, none] [zv_i e3, zv_i e2, zv_i e1, zv_r e0] h
noncomputable def C9_visit (d : Nat) (a0 : Nat) (a1 : Int) (a2 : Int) (h : zv_H) := (zv_cs zv_prog d).2.1 270 [zv_r a0, zv_i a1, zv_i a2] h
noncomputable def E9_visit (d : Nat) (a0 : Nat) (a1 : Int) (a2 : Int) (h : zv_H) : zv_O := zv_lim (zv_cs zv_prog d) mc9_visit 0 [some (zv_r a0), some (zv_i a1), some (zv_i a2)] [] h
noncomputable def L9_visit_20 (d : Nat) (a0 : Nat) (a1 : Int) (a2 : Int) (e0 : Nat) (h : zv_H) : zv_O := zv_lim (zv_cs zv_prog d) mc9_visit 20 [some (zv_r a0), some (zv_i a1), some (zv_i a2)] [zv_r e0] h
noncomputable def L9_visit_39 (d : Nat) (a0 : Nat) (a1 : Int) (a2 : Int) (e0 : Nat) (e1 : Int) (h : zv_H) : zv_O := zv_lim (zv_cs zv_prog d) mc9_visit 39 [some (zv_r a0), some (zv_i a1), some (zv_i a2)] [zv_i e1, zv_r e0] h
noncomputable def C9_named (d : Nat) (a0 : Nat) (h : zv_H) := (zv_cs zv_prog d).2.1 271 [zv_r a0] h
noncomputable def E9_named (d : Nat) (a0 : Nat) (h : zv_H) : zv_O := zv_lim (zv_cs zv_prog d) mc9_named 0 [some (zv_r a0), none] [] h
noncomputable def L9_named_19 (d : Nat) (a0 : Nat) (e0 : Nat) (e1 : Int) (h : zv_H) : zv_O := zv_lim (zv_cs zv_prog d) mc9_named 19 [some (zv_r a0), none] [zv_i e1, zv_r e0] h
noncomputable def C9_leans (d : Nat) (a0 : Nat) (a1 : Int) (a2 : Int) (h : zv_H) := (zv_cs zv_prog d).2.1 272 [zv_r a0, zv_i a1, zv_i a2] h
noncomputable def E9_leans (d : Nat) (a0 : Nat) (a1 : Int) (a2 : Int) (h : zv_H) : zv_O := zv_lim (zv_cs zv_prog d) mc9_leans 0 [some (zv_r a0), some (zv_i a1), some (zv_i a2)] [] h
noncomputable def L9_leans_17 (d : Nat) (a0 : Nat) (a1 : Int) (a2 : Int) (e0 : Nat) (h : zv_H) : zv_O := zv_lim (zv_cs zv_prog d) mc9_leans 17 [some (zv_r a0), some (zv_i a1), some (zv_i a2)] [zv_r e0] h
noncomputable def L9_leans_42 (d : Nat) (a0 : Nat) (a1 : Int) (a2 : Int) (e0 : Nat) (h : zv_H) : zv_O := zv_lim (zv_cs zv_prog d) mc9_leans 42 [some (zv_r a0), some (zv_i a1), some (zv_i a2)] [zv_r e0] h
noncomputable def L9_leans_47 (d : Nat) (a0 : Nat) (a1 : Int) (a2 : Int) (e0 : Nat) (e1 : Int) (h : zv_H) : zv_O := zv_lim (zv_cs zv_prog d) mc9_leans 47 [some (zv_r a0), some (zv_i a1), some (zv_i a2)] [zv_i e1, zv_r e0] h
noncomputable def C9_put (d : Nat) (a0 : Nat) (a1 : Int) (h : zv_H) := (zv_cs zv_prog d).2.1 273 [zv_r a0, zv_i a1] h
noncomputable def E9_put (d : Nat) (a0 : Nat) (a1 : Int) (h : zv_H) : zv_O := zv_lim (zv_cs zv_prog d) mc9_put 0 [some (zv_r a0), some (zv_i a1)] [] h
noncomputable def C9_cut (d : Nat) (a0 : Nat) (a1 : Int) (a2 : Int) (h : zv_H) := (zv_cs zv_prog d).2.1 274 [zv_r a0, zv_i a1, zv_i a2] h
noncomputable def E9_cut (d : Nat) (a0 : Nat) (a1 : Int) (a2 : Int) (h : zv_H) : zv_O := zv_lim (zv_cs zv_prog d) mc9_cut 0 [some (zv_r a0), some (zv_i a1), some (zv_i a2)] [] h
noncomputable def C9_wait (d : Nat) (a0 : Nat) (a1 : Int) (h : zv_H) := (zv_cs zv_prog d).2.1 275 [zv_r a0, zv_i a1] h
noncomputable def E9_wait (d : Nat) (a0 : Nat) (a1 : Int) (h : zv_H) : zv_O := zv_lim (zv_cs zv_prog d) mc9_wait 0 [some (zv_r a0), some (zv_i a1)] [] h
noncomputable def L9_wait_17 (d : Nat) (a0 : Nat) (a1 : Int) (e0 : Nat) (e1 : Int) (h : zv_H) : zv_O := zv_lim (zv_cs zv_prog d) mc9_wait 17 [some (zv_r a0), some (zv_i a1)] [zv_i e1, zv_r e0] h
noncomputable def C9_undo (d : Nat) (a0 : Nat) (h : zv_H) := (zv_cs zv_prog d).2.1 276 [zv_r a0] h
noncomputable def E9_undo (d : Nat) (a0 : Nat) (h : zv_H) : zv_O := zv_lim (zv_cs zv_prog d) mc9_undo 0 [some (zv_r a0)] [] h
noncomputable def C9_redo (d : Nat) (a0 : Nat) (h : zv_H) := (zv_cs zv_prog d).2.1 277 [zv_r a0] h
noncomputable def E9_redo (d : Nat) (a0 : Nat) (h : zv_H) : zv_O := zv_lim (zv_cs zv_prog d) mc9_redo 0 [some (zv_r a0)] [] h
noncomputable def C9_go (d : Nat) (a0 : Nat) (a1 : Int) (h : zv_H) := (zv_cs zv_prog d).2.1 278 [zv_r a0, zv_i a1] h
noncomputable def E9_go (d : Nat) (a0 : Nat) (a1 : Int) (h : zv_H) : zv_O := zv_lim (zv_cs zv_prog d) mc9_go 0 [some (zv_r a0), some (zv_i a1)] [] h
noncomputable def C9_name (d : Nat) (a0 : Nat) (h : zv_H) := (zv_cs zv_prog d).2.1 279 [zv_r a0] h
noncomputable def E9_name (d : Nat) (a0 : Nat) (h : zv_H) : zv_O := zv_lim (zv_cs zv_prog d) mc9_name 0 [some (zv_r a0)] [] h
noncomputable def C9_unname (d : Nat) (a0 : Nat) (h : zv_H) := (zv_cs zv_prog d).2.1 280 [zv_r a0] h
noncomputable def E9_unname (d : Nat) (a0 : Nat) (h : zv_H) : zv_O := zv_lim (zv_cs zv_prog d) mc9_unname 0 [some (zv_r a0), none, none] [] h
noncomputable def L9_unname_19 (d : Nat) (a0 : Nat) (e0 : Nat) (e1 : Int) (h : zv_H) : zv_O := zv_lim (zv_cs zv_prog d) mc9_unname 19 [some (zv_r a0), none, none] [zv_i e1, zv_r e0] h
noncomputable def L9_unname_67 (d : Nat) (a0 : Nat) (a2 : Int) (h : zv_H) : zv_O := zv_lim (zv_cs zv_prog d) mc9_unname 67 [some (zv_r a0), none, some (zv_i a2)] [] h
noncomputable def C9_withdraw (d : Nat) (a0 : Nat) (a1 : Int) (h : zv_H) := (zv_cs zv_prog d).2.1 281 [zv_r a0, zv_i a1] h
noncomputable def E9_withdraw (d : Nat) (a0 : Nat) (a1 : Int) (h : zv_H) : zv_O := zv_lim (zv_cs zv_prog d) mc9_withdraw 0 [some (zv_r a0), some (zv_i a1)] [] h
noncomputable def C9_restore (d : Nat) (a0 : Nat) (a1 : Int) (h : zv_H) := (zv_cs zv_prog d).2.1 282 [zv_r a0, zv_i a1] h
noncomputable def E9_restore (d : Nat) (a0 : Nat) (a1 : Int) (h : zv_H) : zv_O := zv_lim (zv_cs zv_prog d) mc9_restore 0 [some (zv_r a0), some (zv_i a1)] [] h
noncomputable def C9_firstOut (d : Nat) (a0 : Nat) (h : zv_H) := (zv_cs zv_prog d).2.1 283 [zv_r a0] h
noncomputable def E9_firstOut (d : Nat) (a0 : Nat) (h : zv_H) : zv_O := zv_lim (zv_cs zv_prog d) mc9_firstOut 0 [some (zv_r a0), none, none] [] h
noncomputable def L9_firstOut_4 (d : Nat) (a0 : Nat) (a1 : Int) (a2 : Int) (h : zv_H) : zv_O := zv_lim (zv_cs zv_prog d) mc9_firstOut 4 [some (zv_r a0), some (zv_i a1), some (zv_i a2)] [] h
noncomputable def C9_carry (d : Nat) (a0 : Nat) (a1 : Int) (h : zv_H) := (zv_cs zv_prog d).2.1 284 [zv_r a0, zv_i a1] h
noncomputable def E9_carry (d : Nat) (a0 : Nat) (a1 : Int) (h : zv_H) : zv_O := zv_lim (zv_cs zv_prog d) mc9_carry 0 [some (zv_r a0), some (zv_i a1)] [] h
noncomputable def C9_merge (d : Nat) (a0 : Nat) (a1 : Int) (h : zv_H) := (zv_cs zv_prog d).2.1 285 [zv_r a0, zv_i a1] h
noncomputable def E9_merge (d : Nat) (a0 : Nat) (a1 : Int) (h : zv_H) : zv_O := zv_lim (zv_cs zv_prog d) mc9_merge 0 [some (zv_r a0), some (zv_i a1)] [] h
noncomputable def C9_prune (d : Nat) (a0 : Nat) (a1 : Int) (h : zv_H) := (zv_cs zv_prog d).2.1 286 [zv_r a0, zv_i a1] h
noncomputable def E9_prune (d : Nat) (a0 : Nat) (a1 : Int) (h : zv_H) : zv_O := zv_lim (zv_cs zv_prog d) mc9_prune 0 [some (zv_r a0), some (zv_i a1)] [] h
noncomputable def C9_pruneNow (d : Nat) (a0 : Nat) (a1 : Int) (h : zv_H) := (zv_cs zv_prog d).2.1 287 [zv_r a0, zv_i a1] h
noncomputable def E9_pruneNow (d : Nat) (a0 : Nat) (a1 : Int) (h : zv_H) : zv_O := zv_lim (zv_cs zv_prog d) mc9_pruneNow 0 [some (zv_r a0), some (zv_i a1), none, none, none] [] h
noncomputable def L9_pruneNow_23 (d : Nat) (a0 : Nat) (a1 : Int) (a2 : Int) (a3 : Int) (h : zv_H) : zv_O := zv_lim (zv_cs zv_prog d) mc9_pruneNow 23 [some (zv_r a0), some (zv_i a1), some (zv_i a2), some (zv_i a3), none] [] h
noncomputable def L9_pruneNow_45 (d : Nat) (a0 : Nat) (a1 : Int) (a2 : Int) (a3 : Int) (a4 : Int) (h : zv_H) : zv_O := zv_lim (zv_cs zv_prog d) mc9_pruneNow 45 [some (zv_r a0), some (zv_i a1), some (zv_i a2), some (zv_i a3), some (zv_i a4)] [] h
noncomputable def C9_common (d : Nat) (a0 : Nat) (a1 : Int) (a2 : Int) (h : zv_H) := (zv_cs zv_prog d).2.1 288 [zv_r a0, zv_i a1, zv_i a2] h
noncomputable def E9_common (d : Nat) (a0 : Nat) (a1 : Int) (a2 : Int) (h : zv_H) : zv_O := zv_lim (zv_cs zv_prog d) mc9_common 0 [some (zv_r a0), some (zv_i a1), some (zv_i a2)] [] h
noncomputable def L9_common_21 (d : Nat) (a0 : Nat) (a1 : Int) (a2 : Int) (e0 : Nat) (h : zv_H) : zv_O := zv_lim (zv_cs zv_prog d) mc9_common 21 [some (zv_r a0), some (zv_i a1), some (zv_i a2)] [zv_r e0] h
noncomputable def L9_common_22 (d : Nat) (a0 : Nat) (a1 : Int) (a2 : Int) (e0 : Nat) (e1 : Int) (h : zv_H) : zv_O := zv_lim (zv_cs zv_prog d) mc9_common 22 [some (zv_r a0), some (zv_i a1), some (zv_i a2)] [zv_i e1, zv_r e0] h
noncomputable def C9_way (d : Nat) (a0 : Nat) (a1 : Int) (a2 : Int) (a3 : Int) (h : zv_H) := (zv_cs zv_prog d).2.1 289 [zv_r a0, zv_i a1, zv_i a2, zv_i a3] h
noncomputable def E9_way (d : Nat) (a0 : Nat) (a1 : Int) (a2 : Int) (a3 : Int) (h : zv_H) : zv_O := zv_lim (zv_cs zv_prog d) mc9_way 0 [some (zv_r a0), some (zv_i a1), some (zv_i a2), some (zv_i a3), none, none, none, none] [] h
noncomputable def L9_way_25 (d : Nat) (a0 : Nat) (a1 : Int) (a2 : Int) (a3 : Int) (e0 : Nat) (h : zv_H) : zv_O := zv_lim (zv_cs zv_prog d) mc9_way 25 [some (zv_r a0), some (zv_i a1), some (zv_i a2), some (zv_i a3), none, none, none, none] [zv_r e0] h
noncomputable def L9_way_30 (d : Nat) (a0 : Nat) (a1 : Int) (a2 : Int) (a3 : Int) (e0 : Nat) (e1 : Int) (h : zv_H) : zv_O := zv_lim (zv_cs zv_prog d) mc9_way 30 [some (zv_r a0), some (zv_i a1), some (zv_i a2), some (zv_i a3), none, none, none, none] [zv_i e1, zv_r e0] h
noncomputable def L9_way_87 (d : Nat) (a0 : Nat) (a3 : Int) (a4 : Int) (a5 : Int) (e0 : Int) (h : zv_H) : zv_O := zv_lim (zv_cs zv_prog d) mc9_way 87 [some (zv_r a0), none, none, some (zv_i a3), some (zv_i a4), some (zv_i a5), none, none] [zv_i e0] h
noncomputable def L9_way_105 (d : Nat) (a0 : Nat) (a6 : Int) (a7 : Int) (h : zv_H) : zv_O := zv_lim (zv_cs zv_prog d) mc9_way 105 [some (zv_r a0), none, none, none, none, none, some (zv_i a6), some (zv_i a7)] [] h
noncomputable def C9_keysOf (d : Nat) (a0 : Nat) (a1 : Int) (h : zv_H) := (zv_cs zv_prog d).2.1 290 [zv_r a0, zv_i a1] h
noncomputable def E9_keysOf (d : Nat) (a0 : Nat) (a1 : Int) (h : zv_H) : zv_O := zv_lim (zv_cs zv_prog d) mc9_keysOf 0 [some (zv_r a0), some (zv_i a1), none, none] [] h
noncomputable def L9_keysOf_9 (d : Nat) (a0 : Nat) (a2 : Int) (a3 : Int) (h : zv_H) : zv_O := zv_lim (zv_cs zv_prog d) mc9_keysOf 9 [some (zv_r a0), none, some (zv_i a2), some (zv_i a3)] [] h
noncomputable def C9_keptOf (d : Nat) (a0 : Nat) (a1 : Int) (a2 : Int) (h : zv_H) := (zv_cs zv_prog d).2.1 291 [zv_r a0, zv_i a1, zv_i a2] h
noncomputable def E9_keptOf (d : Nat) (a0 : Nat) (a1 : Int) (a2 : Int) (h : zv_H) : zv_O := zv_lim (zv_cs zv_prog d) mc9_keptOf 0 [some (zv_r a0), some (zv_i a1), some (zv_i a2), none, none, none, none] [] h
noncomputable def L9_keptOf_17 (d : Nat) (a0 : Nat) (a3 : Int) (a4 : Int) (a5 : Int) (h : zv_H) : zv_O := zv_lim (zv_cs zv_prog d) mc9_keptOf 17 [some (zv_r a0), none, none, some (zv_i a3), some (zv_i a4), some (zv_i a5), none] [] h
noncomputable def L9_keptOf_42 (d : Nat) (a0 : Nat) (a3 : Int) (a4 : Int) (a5 : Int) (a6 : Int) (h : zv_H) : zv_O := zv_lim (zv_cs zv_prog d) mc9_keptOf 42 [some (zv_r a0), none, none, some (zv_i a3), some (zv_i a4), some (zv_i a5), some (zv_i a6)] [] h
noncomputable def C9_differ (d : Nat) (a0 : Nat) (a1 : Int) (a2 : Int) (h : zv_H) := (zv_cs zv_prog d).2.1 292 [zv_r a0, zv_i a1, zv_i a2] h
noncomputable def E9_differ (d : Nat) (a0 : Nat) (a1 : Int) (a2 : Int) (h : zv_H) : zv_O := zv_lim (zv_cs zv_prog d) mc9_differ 0 [some (zv_r a0), some (zv_i a1), some (zv_i a2), none, none, none] [] h
noncomputable def L9_differ_24 (d : Nat) (a0 : Nat) (a3 : Int) (a4 : Int) (a5 : Int) (h : zv_H) : zv_O := zv_lim (zv_cs zv_prog d) mc9_differ 24 [some (zv_r a0), none, none, some (zv_i a3), some (zv_i a4), some (zv_i a5)] [] h
noncomputable def L9_differ_60 (d : Nat) (a3 : Int) (a4 : Int) (a5 : Int) (h : zv_H) : zv_O := zv_lim (zv_cs zv_prog d) mc9_differ 60 [none, none, none, some (zv_i a3), some (zv_i a4), some (zv_i a5)] [] h
noncomputable def C9_between (d : Nat) (a0 : Nat) (a1 : Int) (a2 : Int) (a3 : Int) (h : zv_H) := (zv_cs zv_prog d).2.1 293 [zv_r a0, zv_i a1, zv_i a2, zv_i a3] h
noncomputable def E9_between (d : Nat) (a0 : Nat) (a1 : Int) (a2 : Int) (a3 : Int) (h : zv_H) : zv_O := zv_lim (zv_cs zv_prog d) mc9_between 0 [some (zv_r a0), some (zv_i a1), some (zv_i a2), some (zv_i a3), none] [] h
noncomputable def L9_between_30 (d : Nat) (a0 : Nat) (a1 : Int) (a2 : Int) (a3 : Int) (e0 : Nat) (h : zv_H) : zv_O := zv_lim (zv_cs zv_prog d) mc9_between 30 [some (zv_r a0), some (zv_i a1), some (zv_i a2), some (zv_i a3), none] [zv_r e0] h
noncomputable def L9_between_35 (d : Nat) (a0 : Nat) (a1 : Int) (a2 : Int) (a3 : Int) (e0 : Nat) (e1 : Int) (h : zv_H) : zv_O := zv_lim (zv_cs zv_prog d) mc9_between 35 [some (zv_r a0), some (zv_i a1), some (zv_i a2), some (zv_i a3), none] [zv_i e1, zv_r e0] h
noncomputable def C9_least (d : Nat) (a0 : Nat) (a1 : Int) (a2 : Int) (h : zv_H) := (zv_cs zv_prog d).2.1 294 [zv_r a0, zv_i a1, zv_i a2] h
noncomputable def E9_least (d : Nat) (a0 : Nat) (a1 : Int) (a2 : Int) (h : zv_H) : zv_O := zv_lim (zv_cs zv_prog d) mc9_least 0 [some (zv_r a0), some (zv_i a1), some (zv_i a2), none, none, none, none, none, none, none, none] [] h
noncomputable def L9_least_21 (d : Nat) (a0 : Nat) (a1 : Int) (a2 : Int) (e0 : Nat) (h : zv_H) : zv_O := zv_lim (zv_cs zv_prog d) mc9_least 21 [some (zv_r a0), some (zv_i a1), some (zv_i a2), none, none, none, none, none, none, none, none] [zv_r e0] h
noncomputable def L9_least_22 (d : Nat) (a0 : Nat) (a1 : Int) (a2 : Int) (e0 : Nat) (e1 : Int) (h : zv_H) : zv_O := zv_lim (zv_cs zv_prog d) mc9_least 22 [some (zv_r a0), some (zv_i a1), some (zv_i a2), none, none, none, none, none, none, none, none] [zv_i e1, zv_r e0] h
noncomputable def L9_least_58 (d : Nat) (a0 : Nat) (a3 : Int) (a4 : Int) (a5 : Int) (a6 : Int) (h : zv_H) : zv_O := zv_lim (zv_cs zv_prog d) mc9_least 58 [some (zv_r a0), none, none, some (zv_i a3), some (zv_i a4), some (zv_i a5), some (zv_i a6), none, none, none, none] [] h
noncomputable def L9_least_67 (d : Nat) (a0 : Nat) (a3 : Int) (a4 : Int) (a5 : Int) (a6 : Int) (a7 : Int) (h : zv_H) : zv_O := zv_lim (zv_cs zv_prog d) mc9_least 67 [some (zv_r a0), none, none, some (zv_i a3), some (zv_i a4), some (zv_i a5), some (zv_i a6), some (zv_i a7), none, none, none] [] h
noncomputable def C9_merges (d : Nat) (a0 : Nat) (a1 : Int) (a2 : Int) (h : zv_H) := (zv_cs zv_prog d).2.1 295 [zv_r a0, zv_i a1, zv_i a2] h
noncomputable def E9_merges (d : Nat) (a0 : Nat) (a1 : Int) (a2 : Int) (h : zv_H) : zv_O := zv_lim (zv_cs zv_prog d) mc9_merges 0 [some (zv_r a0), some (zv_i a1), some (zv_i a2), none, none] [] h
noncomputable def L9_merges_15 (d : Nat) (a0 : Nat) (a1 : Int) (a2 : Int) (e0 : Nat) (e1 : Int) (h : zv_H) : zv_O := zv_lim (zv_cs zv_prog d) mc9_merges 15 [some (zv_r a0), some (zv_i a1), some (zv_i a2), none, none] [zv_i e1, zv_r e0] h
noncomputable def L9_merges_25 (d : Nat) (a0 : Nat) (a1 : Int) (a2 : Int) (a3 : Int) (h : zv_H) : zv_O := zv_lim (zv_cs zv_prog d) mc9_merges 25 [some (zv_r a0), some (zv_i a1), some (zv_i a2), some (zv_i a3), none] [] h
noncomputable def L9_merges_94 (d : Nat) (a0 : Nat) (a3 : Int) (a4 : Int) (h : zv_H) : zv_O := zv_lim (zv_cs zv_prog d) mc9_merges 94 [some (zv_r a0), none, none, some (zv_i a3), some (zv_i a4)] [] h
noncomputable def C9_tells (d : Nat) (a0 : Nat) (a1 : Int) (h : zv_H) := (zv_cs zv_prog d).1 296 [zv_r a0, zv_i a1] h
noncomputable def E9_tells (d : Nat) (a0 : Nat) (a1 : Int) (h : zv_H) : zv_O := zv_lim (zv_cs zv_prog d) mc9_tells 0 [some (zv_r a0), some (zv_i a1)] [] h
noncomputable def C9_tellsNumber (d : Nat) (a0 : Nat) (a1 : Int) (h : zv_H) := (zv_cs zv_prog d).1 297 [zv_r a0, zv_i a1] h
noncomputable def E9_tellsNumber (d : Nat) (a0 : Nat) (a1 : Int) (h : zv_H) : zv_O := zv_lim (zv_cs zv_prog d) mc9_tellsNumber 0 [some (zv_r a0), some (zv_i a1)] [] h
noncomputable def L9_tellsNumber_17 (d : Nat) (a0 : Nat) (a1 : Int) (h : zv_H) : zv_O := zv_lim (zv_cs zv_prog d) mc9_tellsNumber 17 [some (zv_r a0), some (zv_i a1)] [] h
noncomputable def C9_tellsNames (d : Nat) (a0 : Nat) (h : zv_H) := (zv_cs zv_prog d).1 298 [zv_r a0] h
noncomputable def E9_tellsNames (d : Nat) (a0 : Nat) (h : zv_H) : zv_O := zv_lim (zv_cs zv_prog d) mc9_tellsNames 0 [some (zv_r a0), none, none, none] [] h
noncomputable def L9_tellsNames_2 (d : Nat) (a0 : Nat) (a1 : Int) (h : zv_H) : zv_O := zv_lim (zv_cs zv_prog d) mc9_tellsNames 2 [some (zv_r a0), some (zv_i a1), none, none] [] h
noncomputable def L9_tellsNames_38 (d : Nat) (a0 : Nat) (a1 : Int) (a2 : Int) (a3 : Int) (h : zv_H) : zv_O := zv_lim (zv_cs zv_prog d) mc9_tellsNames 38 [some (zv_r a0), some (zv_i a1), some (zv_i a2), some (zv_i a3)] [] h
noncomputable def C9_tell (d : Nat) (a0 : Nat) (a1 : Int) (h : zv_H) := (zv_cs zv_prog d).2.1 299 [zv_r a0, zv_i a1] h
noncomputable def E9_tell (d : Nat) (a0 : Nat) (a1 : Int) (h : zv_H) : zv_O := zv_lim (zv_cs zv_prog d) mc9_tell 0 [some (zv_r a0), some (zv_i a1), none] [] h
noncomputable def L9_tell_15 (d : Nat) (a0 : Nat) (a1 : Int) (e0 : Nat) (e1 : Int) (h : zv_H) : zv_O := zv_lim (zv_cs zv_prog d) mc9_tell 15 [some (zv_r a0), some (zv_i a1), none] [zv_i e1, zv_r e0] h
noncomputable def L9_tell_38 (d : Nat) (a0 : Nat) (a1 : Int) (a2 : Int) (h : zv_H) : zv_O := zv_lim (zv_cs zv_prog d) mc9_tell 38 [some (zv_r a0), some (zv_i a1), some (zv_i a2)] [] h
noncomputable def L9_tell_79 (d : Nat) (a0 : Nat) (a1 : Int) (a2 : Int) (h : zv_H) : zv_O := zv_lim (zv_cs zv_prog d) mc9_tell 79 [some (zv_r a0), some (zv_i a1), some (zv_i a2)] [] h
noncomputable def L9_tell_102 (d : Nat) (a0 : Nat) (a1 : Int) (a2 : Int) (h : zv_H) : zv_O := zv_lim (zv_cs zv_prog d) mc9_tell 102 [some (zv_r a0), some (zv_i a1), some (zv_i a2)] [] h
noncomputable def L9_tell_118 (d : Nat) (a0 : Nat) (a1 : Int) (h : zv_H) : zv_O := zv_lim (zv_cs zv_prog d) mc9_tell 118 [some (zv_r a0), some (zv_i a1), none] [] h
noncomputable def C9_out (d : Nat) (a0 : Nat) (a1 : Int) (h : zv_H) := (zv_cs zv_prog d).2.1 300 [zv_r a0, zv_i a1] h
noncomputable def E9_out (d : Nat) (a0 : Nat) (a1 : Int) (h : zv_H) : zv_O := zv_lim (zv_cs zv_prog d) mc9_out 0 [some (zv_r a0), some (zv_i a1)] [] h
noncomputable def L9_out_22 (d : Nat) (a0 : Nat) (a1 : Int) (e0 : Nat) (e1 : Int) (h : zv_H) : zv_O := zv_lim (zv_cs zv_prog d) mc9_out 22 [some (zv_r a0), some (zv_i a1)] [zv_i e1, zv_r e0] h
noncomputable def C9_leaning (d : Nat) (a0 : Nat) (a1 : Int) (a2 : Int) (h : zv_H) := (zv_cs zv_prog d).2.1 301 [zv_r a0, zv_i a1, zv_i a2] h
noncomputable def E9_leaning (d : Nat) (a0 : Nat) (a1 : Int) (a2 : Int) (h : zv_H) : zv_O := zv_lim (zv_cs zv_prog d) mc9_leaning 0 [some (zv_r a0), some (zv_i a1), some (zv_i a2), none, none] [] h
noncomputable def L9_leaning_46 (d : Nat) (a0 : Nat) (a1 : Int) (a2 : Int) (e0 : Nat) (h : zv_H) : zv_O := zv_lim (zv_cs zv_prog d) mc9_leaning 46 [some (zv_r a0), some (zv_i a1), some (zv_i a2), none, none] [zv_r e0] h
noncomputable def L9_leaning_52 (d : Nat) (a0 : Nat) (a1 : Int) (a2 : Int) (e0 : Nat) (e1 : Int) (h : zv_H) : zv_O := zv_lim (zv_cs zv_prog d) mc9_leaning 52 [some (zv_r a0), some (zv_i a1), some (zv_i a2), none, none] [zv_i e1, zv_r e0] h
noncomputable def L9_leaning_89 (d : Nat) (a0 : Nat) (a2 : Int) (a3 : Int) (a4 : Int) (h : zv_H) : zv_O := zv_lim (zv_cs zv_prog d) mc9_leaning 89 [some (zv_r a0), none, some (zv_i a2), some (zv_i a3), some (zv_i a4)] [] h
noncomputable def L9_leaning_154 (d : Nat) (a0 : Nat) (a2 : Int) (a3 : Int) (a4 : Int) (h : zv_H) : zv_O := zv_lim (zv_cs zv_prog d) mc9_leaning 154 [some (zv_r a0), none, some (zv_i a2), some (zv_i a3), some (zv_i a4)] [] h
noncomputable def C9_placeIn (d : Nat) (a0 : Nat) (a1 : Int) (h : zv_H) := (zv_cs zv_prog d).2.1 302 [zv_r a0, zv_i a1] h
noncomputable def E9_placeIn (d : Nat) (a0 : Nat) (a1 : Int) (h : zv_H) : zv_O := zv_lim (zv_cs zv_prog d) mc9_placeIn 0 [some (zv_r a0), some (zv_i a1), none, none, none, none] [] h
noncomputable def L9_placeIn_12 (d : Nat) (a0 : Nat) (a2 : Int) (a3 : Int) (h : zv_H) : zv_O := zv_lim (zv_cs zv_prog d) mc9_placeIn 12 [some (zv_r a0), none, some (zv_i a2), some (zv_i a3), none, none] [] h
noncomputable def L9_placeIn_28 (d : Nat) (a0 : Nat) (a2 : Int) (a3 : Int) (a4 : Int) (a5 : Int) (h : zv_H) : zv_O := zv_lim (zv_cs zv_prog d) mc9_placeIn 28 [some (zv_r a0), none, some (zv_i a2), some (zv_i a3), some (zv_i a4), some (zv_i a5)] [] h
noncomputable def L9_placeIn_74 (d : Nat) (a0 : Nat) (a2 : Int) (a3 : Int) (a4 : Int) (h : zv_H) : zv_O := zv_lim (zv_cs zv_prog d) mc9_placeIn 74 [some (zv_r a0), none, some (zv_i a2), some (zv_i a3), some (zv_i a4), none] [] h
noncomputable def C9_find (d : Nat) (a0 : Nat) (a1 : Int) (h : zv_H) := (zv_cs zv_prog d).2.1 303 [zv_r a0, zv_i a1] h
noncomputable def E9_find (d : Nat) (a0 : Nat) (a1 : Int) (h : zv_H) : zv_O := zv_lim (zv_cs zv_prog d) mc9_find 0 [some (zv_r a0), some (zv_i a1), none, none, none] [] h
noncomputable def L9_find_21 (d : Nat) (a0 : Nat) (a1 : Int) (e0 : Nat) (h : zv_H) : zv_O := zv_lim (zv_cs zv_prog d) mc9_find 21 [some (zv_r a0), some (zv_i a1), none, none, none] [zv_r e0] h
noncomputable def L9_find_22 (d : Nat) (a0 : Nat) (a1 : Int) (e0 : Nat) (e1 : Int) (h : zv_H) : zv_O := zv_lim (zv_cs zv_prog d) mc9_find 22 [some (zv_r a0), some (zv_i a1), none, none, none] [zv_i e1, zv_r e0] h
noncomputable def L9_find_38 (d : Nat) (a0 : Nat) (a1 : Int) (a2 : Int) (a3 : Int) (a4 : Int) (h : zv_H) : zv_O := zv_lim (zv_cs zv_prog d) mc9_find 38 [some (zv_r a0), some (zv_i a1), some (zv_i a2), some (zv_i a3), some (zv_i a4)] [] h
noncomputable def L9_find_81 (d : Nat) (a0 : Nat) (a1 : Int) (a2 : Int) (a3 : Int) (h : zv_H) : zv_O := zv_lim (zv_cs zv_prog d) mc9_find 81 [some (zv_r a0), some (zv_i a1), some (zv_i a2), some (zv_i a3), none] [] h
noncomputable def L9_find_107 (d : Nat) (a0 : Nat) (e0 : Int) (h : zv_H) : zv_O := zv_lim (zv_cs zv_prog d) mc9_find 107 [some (zv_r a0), none, none, none, none] [zv_i e0] h
noncomputable def C9_first (d : Nat) (a0 : Nat) (h : zv_H) := (zv_cs zv_prog d).2.1 304 [zv_r a0] h
noncomputable def E9_first (d : Nat) (a0 : Nat) (h : zv_H) : zv_O := zv_lim (zv_cs zv_prog d) mc9_first 0 [some (zv_r a0), none] [] h
noncomputable def C9_twin (d : Nat) (a0 : Nat) (a1 : Int) (h : zv_H) := (zv_cs zv_prog d).2.1 305 [zv_r a0, zv_i a1] h
noncomputable def E9_twin (d : Nat) (a0 : Nat) (a1 : Int) (h : zv_H) : zv_O := zv_lim (zv_cs zv_prog d) mc9_twin 0 [some (zv_r a0), some (zv_i a1), none] [] h
noncomputable def L9_twin_14 (d : Nat) (a0 : Nat) (a1 : Int) (e0 : Nat) (e1 : Int) (h : zv_H) : zv_O := zv_lim (zv_cs zv_prog d) mc9_twin 14 [some (zv_r a0), some (zv_i a1), none] [zv_i e1, zv_r e0] h
noncomputable def L9_twin_24 (d : Nat) (a0 : Nat) (a1 : Int) (a2 : Int) (h : zv_H) : zv_O := zv_lim (zv_cs zv_prog d) mc9_twin 24 [some (zv_r a0), some (zv_i a1), some (zv_i a2)] [] h
noncomputable def C9_back (d : Nat) (a0 : Nat) (a1 : Int) (h : zv_H) := (zv_cs zv_prog d).2.1 306 [zv_r a0, zv_i a1] h
noncomputable def E9_back (d : Nat) (a0 : Nat) (a1 : Int) (h : zv_H) : zv_O := zv_lim (zv_cs zv_prog d) mc9_back 0 [some (zv_r a0), some (zv_i a1), none, none] [] h
noncomputable def L9_back_16 (d : Nat) (a0 : Nat) (a1 : Int) (e0 : Nat) (e1 : Int) (h : zv_H) : zv_O := zv_lim (zv_cs zv_prog d) mc9_back 16 [some (zv_r a0), some (zv_i a1), none, none] [zv_i e1, zv_r e0] h
noncomputable def L9_back_31 (d : Nat) (a0 : Nat) (a1 : Int) (a2 : Int) (a3 : Int) (h : zv_H) : zv_O := zv_lim (zv_cs zv_prog d) mc9_back 31 [some (zv_r a0), some (zv_i a1), some (zv_i a2), some (zv_i a3)] [] h
noncomputable def C12_bitCount (d : Nat) (a0 : Int64) (h : zv_H) := (zv_cs zv_prog d).2.1 307 [zv_j a0] h
noncomputable def E12_bitCount (d : Nat) (a0 : Int64) (h : zv_H) : zv_O := zv_lim (zv_cs zv_prog d) mc12_bitCount 0 [some (zv_j a0), none] [] h
noncomputable def C13_coder (d : Nat) (a0 : Nat) (h : zv_H) := (zv_cs zv_prog d).2.1 308 [zv_r a0] h
noncomputable def E13_coder (d : Nat) (a0 : Nat) (h : zv_H) : zv_O := zv_lim (zv_cs zv_prog d) mc13_coder 0 [some (zv_r a0)] [] h
noncomputable def C13_isLatin1 (d : Nat) (a0 : Nat) (h : zv_H) := (zv_cs zv_prog d).2.1 309 [zv_r a0] h
noncomputable def E13_isLatin1 (d : Nat) (a0 : Nat) (h : zv_H) : zv_O := zv_lim (zv_cs zv_prog d) mc13_isLatin1 0 [some (zv_r a0)] [] h
noncomputable def C13_length (d : Nat) (a0 : Nat) (h : zv_H) := (zv_cs zv_prog d).2.1 310 [zv_r a0] h
noncomputable def E13_length (d : Nat) (a0 : Nat) (h : zv_H) : zv_O := zv_lim (zv_cs zv_prog d) mc13_length 0 [some (zv_r a0)] [] h
noncomputable def C14_charAt (d : Nat) (a0 : Nat) (a1 : Int) (h : zv_H) := (zv_cs zv_prog d).2.1 311 [zv_r a0, zv_i a1] h
noncomputable def E14_charAt (d : Nat) (a0 : Nat) (a1 : Int) (h : zv_H) : zv_O := zv_lim (zv_cs zv_prog d) mc14_charAt 0 [some (zv_r a0), some (zv_i a1)] [] h
noncomputable def C13_charAt (d : Nat) (a0 : Nat) (a1 : Int) (h : zv_H) := (zv_cs zv_prog d).2.1 312 [zv_r a0, zv_i a1] h
noncomputable def E13_charAt (d : Nat) (a0 : Nat) (a1 : Int) (h : zv_H) : zv_O := zv_lim (zv_cs zv_prog d) mc13_charAt 0 [some (zv_r a0), some (zv_i a1)] [] h
noncomputable def C14_canEncode (d : Nat) (a0 : Int) (h : zv_H) := (zv_cs zv_prog d).2.1 313 [zv_i a0] h
noncomputable def E14_canEncode (d : Nat) (a0 : Int) (h : zv_H) : zv_O := zv_lim (zv_cs zv_prog d) mc14_canEncode 0 [some (zv_i a0)] [] h
noncomputable def C14_indexOfChar (d : Nat) (a0 : Nat) (a1 : Int) (a2 : Int) (a3 : Int) (h : zv_H) := (zv_cs zv_prog d).2.1 314 [zv_r a0, zv_i a1, zv_i a2, zv_i a3] h
noncomputable def E14_indexOfChar (d : Nat) (a0 : Nat) (a1 : Int) (a2 : Int) (a3 : Int) (h : zv_H) : zv_O := zv_lim (zv_cs zv_prog d) mc14_indexOfChar 0 [some (zv_r a0), some (zv_i a1), some (zv_i a2), some (zv_i a3), none, none] [] h
noncomputable def L14_indexOfChar_7 (d : Nat) (a0 : Nat) (a3 : Int) (a4 : Int) (a5 : Int) (h : zv_H) : zv_O := zv_lim (zv_cs zv_prog d) mc14_indexOfChar 7 [some (zv_r a0), none, none, some (zv_i a3), some (zv_i a4), some (zv_i a5)] [] h
noncomputable def C14_indexOf (d : Nat) (a0 : Nat) (a1 : Int) (a2 : Int) (a3 : Int) (h : zv_H) := (zv_cs zv_prog d).2.1 315 [zv_r a0, zv_i a1, zv_i a2, zv_i a3] h
noncomputable def E14_indexOf (d : Nat) (a0 : Nat) (a1 : Int) (a2 : Int) (a3 : Int) (h : zv_H) : zv_O := zv_lim (zv_cs zv_prog d) mc14_indexOf 0 [some (zv_r a0), some (zv_i a1), some (zv_i a2), some (zv_i a3)] [] h
noncomputable def C13_indexOf2 (d : Nat) (a0 : Nat) (a1 : Int) (a2 : Int) (h : zv_H) := (zv_cs zv_prog d).2.1 316 [zv_r a0, zv_i a1, zv_i a2] h
noncomputable def E13_indexOf2 (d : Nat) (a0 : Nat) (a1 : Int) (a2 : Int) (h : zv_H) : zv_O := zv_lim (zv_cs zv_prog d) mc13_indexOf2 0 [some (zv_r a0), some (zv_i a1), some (zv_i a2)] [] h
noncomputable def C13_indexOf (d : Nat) (a0 : Nat) (a1 : Int) (h : zv_H) := (zv_cs zv_prog d).2.1 317 [zv_r a0, zv_i a1] h
noncomputable def E13_indexOf (d : Nat) (a0 : Nat) (a1 : Int) (h : zv_H) : zv_O := zv_lim (zv_cs zv_prog d) mc13_indexOf 0 [some (zv_r a0), some (zv_i a1)] [] h
noncomputable def EL_law (d : Nat) (a0 : Nat) (h : zv_H) : zv_O := zv_lim (zv_cs zv_prog d) mcL_law 0 [some (zv_r a0), none, none, none] [] h
noncomputable def LL_law_18 (d : Nat) (a0 : Nat) (a1 : Nat) (a2 : Nat) (a3 : Int) (h : zv_H) : zv_O := zv_lim (zv_cs zv_prog d) mcL_law 18 [some (zv_r a0), some (zv_r a1), some (zv_r a2), some (zv_i a3)] [] h
end
/-! 40b.seg -/
section
/-! a stretch again, each instruction found behind the one before it (the list is looked through from its start at jumps alone) -/
def zy_from : List (Nat × Instr) → Nat → List (Nat × Instr)
  | [], _ => []
  | a :: l, n => bif Nat.beq a.1 n then a :: l else zy_from l n
def zy_srt : Nat → List (Nat × Instr) → Bool
  | _, [] => true
  | k, a :: l => Nat.ble k a.1 && zy_srt (a.1 + 1) l
def zy_at (l sf : List (Nat × Instr)) (n : Nat) : List (Nat × Instr) := match sf with
  | [] => zy_from l n
  | a :: t => bif Nat.beq a.1 n then a :: t else zy_from l n
def zy_stp (c : zv_C) (M : zv_M) (K : List (Nat × Instr) → zv_G) (pc : Nat) (l : List (Nat × Instr)) (ls : zv_Ls) (st : List zv_V) (h : zv_H) : zv_O := match l with
  | [] => none
  | a :: t => match zv_op a.2 ls st with
    | some q => K t (pc + zv_len a.2) q.1 q.2 h
    | none => zv_hp c M (K t) pc ls st h a.2
def zy_seg (c : zv_C) (M : zv_M) (kt : zv_G) : Nat → List (Nat × Instr) → zv_G
  | 0, _, pc, ls, st, h => kt pc ls st h
  | n + 1, sf, pc, ls, st, h => zy_stp c M (fun t pc ls st h => match zv_lk M.2.2.1 pc with
    | some b => kt pc (zv_msk b ls) st h
    | none => zy_seg c M kt n t pc ls st h) pc (zy_at M.2.1 sf pc) ls st h
theorem zy_lk_from : ∀ (l : List (Nat × Instr)) (n : Nat), (zy_from l n = [] ∧ zv_lk l n = none) ∨ ∃ a t pre, zy_from l n = a :: t ∧ a.1 = n ∧ l = pre ++ a :: t ∧ zv_lk l n = some a.2
  | [], _ => Or.inl ⟨rfl, rfl⟩
  | a :: l, n => by
    unfold zy_from zv_lk
    cases hb : Nat.beq a.1 n with
    | true => exact Or.inr ⟨a, l, [], rfl, Nat.eq_of_beq_eq_true hb, rfl, rfl⟩
    | false =>
      rcases zy_lk_from l n with h | ⟨b, t, pre, h1, h2, h3, h4⟩
      · exact Or.inl h
      · exact Or.inr ⟨b, t, a :: pre, h1, h2, by rw [h3]; rfl, h4⟩
theorem zy_srt_lk : ∀ (pre : List (Nat × Instr)) (k : Nat) (a : Nat × Instr) (t : List (Nat × Instr)), zy_srt k (pre ++ a :: t) = true → k ≤ a.1 ∧ zv_lk (pre ++ a :: t) a.1 = some a.2
  | [], k, a, t, h => by
    have h1 : Nat.ble k a.1 = true := by
      have h : (Nat.ble k a.1 && zy_srt (a.1 + 1) t) = true := h
      cases hb : Nat.ble k a.1 with
      | true => rfl
      | false => rw [hb] at h; cases h
    refine ⟨Nat.le_of_ble_eq_true h1, ?_⟩
    show (bif Nat.beq a.1 a.1 then some a.2 else zv_lk t a.1) = some a.2
    rw [Nat.beq_refl]
    rfl
  | b :: pre, k, a, t, h => by
    have h : (Nat.ble k b.1 && zy_srt (b.1 + 1) (pre ++ a :: t)) = true := h
    rw [Bool.and_eq_true] at h
    obtain ⟨h1, h2⟩ := h
    obtain ⟨h3, h4⟩ := zy_srt_lk pre _ a t h2
    have h5 := Nat.le_of_ble_eq_true h1
    refine ⟨by omega, ?_⟩
    show (bif Nat.beq b.1 a.1 then some b.2 else zv_lk (pre ++ a :: t) a.1) = some a.2
    have hb : Nat.beq b.1 a.1 = false := by
      cases hb : Nat.beq b.1 a.1 with
      | true => exact absurd (Nat.eq_of_beq_eq_true hb) (by omega)
      | false => rfl
    rw [hb]
    exact h4
theorem zy_at_eq {l sf : List (Nat × Instr)} (hs : zy_srt 0 l = true) (hf : ∃ pre, l = pre ++ sf) (n : Nat) : (zy_at l sf n = [] ∧ zv_lk l n = none) ∨ ∃ a t, zy_at l sf n = a :: t ∧ (∃ pre, l = pre ++ t) ∧ zv_lk l n = some a.2 := by
  have hF : (zy_from l n = [] ∧ zv_lk l n = none) ∨ ∃ a t, zy_from l n = a :: t ∧ (∃ pre, l = pre ++ t) ∧ zv_lk l n = some a.2 := by
    rcases zy_lk_from l n with h | ⟨b, t, pre, h1, h2, h3, h4⟩
    · exact Or.inl h
    · exact Or.inr ⟨b, t, h1, ⟨pre ++ [b], by rw [h3, List.append_assoc]; rfl⟩, h4⟩
  cases sf with
  | nil => exact hF
  | cons a t =>
    unfold zy_at
    dsimp only
    cases hb : Nat.beq a.1 n with
    | false => exact hF
    | true =>
      obtain ⟨pre, hp⟩ := hf
      have e := Nat.eq_of_beq_eq_true hb
      subst e
      refine Or.inr ⟨a, t, rfl, ⟨pre ++ [a], by rw [hp, List.append_assoc]; rfl⟩, ?_⟩
      rw [hp] at hs ⊢
      exact (zy_srt_lk pre 0 a t hs).2
theorem zy_stp_eq {c : zv_C} {M : zv_M} {pc : Nat} {a : Nat × Instr} {t : List (Nat × Instr)} {ls : zv_Ls} {st : List zv_V} {h : zv_H} (G : zv_G) (K : List (Nat × Instr) → zv_G) (hK : K t = G) (h3 : zv_lk M.2.1 pc = some a.2) : zv_stp c M G pc ls st h = zy_stp c M K pc (a :: t) ls st h := by
  subst hK
  unfold zv_stp zy_stp
  rw [h3]
  rfl
theorem zy_seg_eq {c : zv_C} {M : zv_M} {kt : zv_G} (hs : zy_srt 0 M.2.1 = true) : ∀ (n : Nat) (sf : List (Nat × Instr)), (∃ pre, M.2.1 = pre ++ sf) → ∀ pc ls st h, zv_seg c M kt n pc ls st h = zy_seg c M kt n sf pc ls st h
  | 0, _, _, _, _, _, _ => rfl
  | n + 1, sf, hf, pc, ls, st, h => by
    show zv_stp c M _ pc ls st h = zy_stp c M _ pc (zy_at M.2.1 sf pc) ls st h
    rcases zy_at_eq hs hf pc with ⟨h1, h2⟩ | ⟨a, t, h1, h2, h3⟩
    · rw [h1]
      unfold zv_stp
      rw [h2]
      rfl
    · rw [h1]
      refine zy_stp_eq _ _ ?_ h3
      funext pc ls st h
      cases zv_lk M.2.2.1 pc with
      | none => exact (zy_seg_eq hs n t h2 _ _ _ _).symm
      | some b => rfl
theorem zy_lim_eq {c : zv_C} {M : zv_M} (hs : zy_srt 0 M.2.1 = true) (pc : Nat) (ls : zv_Ls) (st : List zv_V) (h : zv_H) : zv_lim c M pc ls st h = zy_seg c M (zv_lim c M) 400 [] pc ls st h :=
  (zv_lim_eq c M pc ls st h).trans (zy_seg_eq hs 400 [] ⟨M.2.1, (List.append_nil _).symm⟩ pc ls st h)
end
/-! 41.eqsJ -/
section
theorem zyS12_bitCount : zy_srt 0 mc12_bitCount.2.1 = true := by decide +kernel
set_option maxRecDepth 100000 in
theorem qE12_bitCount (d : Nat) (a0 : Int64) (h : zv_H) : E12_bitCount d a0 h =
  (some (some (zv_i (zv_and (zv_l2i ((((((((a0 - ((zv_lushr a0 (1 : Int)) &&& (6148914691236517205 : Int64))) &&& (3689348814741910323 : Int64)) + ((zv_lushr (a0 - ((zv_lushr a0 (1 : Int)) &&& (6148914691236517205 : Int64))) (2 : Int)) &&& (3689348814741910323 : Int64))) + (zv_lushr (((a0 - ((zv_lushr a0 (1 : Int)) &&& (6148914691236517205 : Int64))) &&& (3689348814741910323 : Int64)) + ((zv_lushr (a0 - ((zv_lushr a0 (1 : Int)) &&& (6148914691236517205 : Int64))) (2 : Int)) &&& (3689348814741910323 : Int64))) (4 : Int))) &&& (1085102592571150095 : Int64)) + (zv_lushr (((((a0 - ((zv_lushr a0 (1 : Int)) &&& (6148914691236517205 : Int64))) &&& (3689348814741910323 : Int64)) + ((zv_lushr (a0 - ((zv_lushr a0 (1 : Int)) &&& (6148914691236517205 : Int64))) (2 : Int)) &&& (3689348814741910323 : Int64))) + (zv_lushr (((a0 - ((zv_lushr a0 (1 : Int)) &&& (6148914691236517205 : Int64))) &&& (3689348814741910323 : Int64)) + ((zv_lushr (a0 - ((zv_lushr a0 (1 : Int)) &&& (6148914691236517205 : Int64))) (2 : Int)) &&& (3689348814741910323 : Int64))) (4 : Int))) &&& (1085102592571150095 : Int64)) (8 : Int))) + (zv_lushr ((((((a0 - ((zv_lushr a0 (1 : Int)) &&& (6148914691236517205 : Int64))) &&& (3689348814741910323 : Int64)) + ((zv_lushr (a0 - ((zv_lushr a0 (1 : Int)) &&& (6148914691236517205 : Int64))) (2 : Int)) &&& (3689348814741910323 : Int64))) + (zv_lushr (((a0 - ((zv_lushr a0 (1 : Int)) &&& (6148914691236517205 : Int64))) &&& (3689348814741910323 : Int64)) + ((zv_lushr (a0 - ((zv_lushr a0 (1 : Int)) &&& (6148914691236517205 : Int64))) (2 : Int)) &&& (3689348814741910323 : Int64))) (4 : Int))) &&& (1085102592571150095 : Int64)) + (zv_lushr (((((a0 - ((zv_lushr a0 (1 : Int)) &&& (6148914691236517205 : Int64))) &&& (3689348814741910323 : Int64)) + ((zv_lushr (a0 - ((zv_lushr a0 (1 : Int)) &&& (6148914691236517205 : Int64))) (2 : Int)) &&& (3689348814741910323 : Int64))) + (zv_lushr (((a0 - ((zv_lushr a0 (1 : Int)) &&& (6148914691236517205 : Int64))) &&& (3689348814741910323 : Int64)) + ((zv_lushr (a0 - ((zv_lushr a0 (1 : Int)) &&& (6148914691236517205 : Int64))) (2 : Int)) &&& (3689348814741910323 : Int64))) (4 : Int))) &&& (1085102592571150095 : Int64)) (8 : Int))) (16 : Int))) + (zv_lushr (((((((a0 - ((zv_lushr a0 (1 : Int)) &&& (6148914691236517205 : Int64))) &&& (3689348814741910323 : Int64)) + ((zv_lushr (a0 - ((zv_lushr a0 (1 : Int)) &&& (6148914691236517205 : Int64))) (2 : Int)) &&& (3689348814741910323 : Int64))) + (zv_lushr (((a0 - ((zv_lushr a0 (1 : Int)) &&& (6148914691236517205 : Int64))) &&& (3689348814741910323 : Int64)) + ((zv_lushr (a0 - ((zv_lushr a0 (1 : Int)) &&& (6148914691236517205 : Int64))) (2 : Int)) &&& (3689348814741910323 : Int64))) (4 : Int))) &&& (1085102592571150095 : Int64)) + (zv_lushr (((((a0 - ((zv_lushr a0 (1 : Int)) &&& (6148914691236517205 : Int64))) &&& (3689348814741910323 : Int64)) + ((zv_lushr (a0 - ((zv_lushr a0 (1 : Int)) &&& (6148914691236517205 : Int64))) (2 : Int)) &&& (3689348814741910323 : Int64))) + (zv_lushr (((a0 - ((zv_lushr a0 (1 : Int)) &&& (6148914691236517205 : Int64))) &&& (3689348814741910323 : Int64)) + ((zv_lushr (a0 - ((zv_lushr a0 (1 : Int)) &&& (6148914691236517205 : Int64))) (2 : Int)) &&& (3689348814741910323 : Int64))) (4 : Int))) &&& (1085102592571150095 : Int64)) (8 : Int))) + (zv_lushr ((((((a0 - ((zv_lushr a0 (1 : Int)) &&& (6148914691236517205 : Int64))) &&& (3689348814741910323 : Int64)) + ((zv_lushr (a0 - ((zv_lushr a0 (1 : Int)) &&& (6148914691236517205 : Int64))) (2 : Int)) &&& (3689348814741910323 : Int64))) + (zv_lushr (((a0 - ((zv_lushr a0 (1 : Int)) &&& (6148914691236517205 : Int64))) &&& (3689348814741910323 : Int64)) + ((zv_lushr (a0 - ((zv_lushr a0 (1 : Int)) &&& (6148914691236517205 : Int64))) (2 : Int)) &&& (3689348814741910323 : Int64))) (4 : Int))) &&& (1085102592571150095 : Int64)) + (zv_lushr (((((a0 - ((zv_lushr a0 (1 : Int)) &&& (6148914691236517205 : Int64))) &&& (3689348814741910323 : Int64)) + ((zv_lushr (a0 - ((zv_lushr a0 (1 : Int)) &&& (6148914691236517205 : Int64))) (2 : Int)) &&& (3689348814741910323 : Int64))) + (zv_lushr (((a0 - ((zv_lushr a0 (1 : Int)) &&& (6148914691236517205 : Int64))) &&& (3689348814741910323 : Int64)) + ((zv_lushr (a0 - ((zv_lushr a0 (1 : Int)) &&& (6148914691236517205 : Int64))) (2 : Int)) &&& (3689348814741910323 : Int64))) (4 : Int))) &&& (1085102592571150095 : Int64)) (8 : Int))) (16 : Int))) (32 : Int)))) (127 : Int))), h)) := by
  refine (zy_lim_eq zyS12_bitCount _ _ _ _).trans ?_
  rfl
theorem zyS13_coder : zy_srt 0 mc13_coder.2.1 = true := by decide +kernel
set_option maxRecDepth 100000 in
theorem qE13_coder (d : Nat) (a0 : Nat) (h : zv_H) : E13_coder d a0 h =
  ((zv_tC a0).bind fun v1 =>
  (if -128 ≤ v1 ∧ v1 ≤ 127 then some (some (zv_i v1), h) else none)) := by
  refine (zy_lim_eq zyS13_coder _ _ _ _).trans ?_
  rfl
theorem zyS13_isLatin1 : zy_srt 0 mc13_isLatin1.2.1 = true := by decide +kernel
set_option maxRecDepth 100000 in
theorem qE13_isLatin1 (d : Nat) (a0 : Nat) (h : zv_H) : E13_isLatin1 d a0 h =
  ((zv_tC a0).bind fun v1 =>
  (if v1 = 0 then
    (some (some (zv_i (1 : Int)), h))
  else
    (some (some (zv_i (0 : Int)), h)))) := by
  refine (zy_lim_eq zyS13_isLatin1 _ _ _ _).trans ?_
  rfl
theorem zyS13_length : zy_srt 0 mc13_length.2.1 = true := by decide +kernel
set_option maxRecDepth 100000 in
theorem qE13_length (d : Nat) (a0 : Nat) (h : zv_H) : E13_length d a0 h =
  ((zv_tV a0).bind fun v1 =>
  ((zv_al h v1).bind fun v2 =>
  ((C13_coder d a0 h).bind fun q3 =>
  (some (some (zv_i (zv_shr v2 q3.1)), q3.2))))) := by
  refine (zy_lim_eq zyS13_length _ _ _ _).trans ?_
  rfl
theorem zyS14_charAt : zy_srt 0 mc14_charAt.2.1 = true := by decide +kernel
set_option maxRecDepth 100000 in
theorem qE14_charAt (d : Nat) (a0 : Nat) (a1 : Int) (h : zv_H) : E14_charAt d a0 a1 h =
  ((zv_al h a0).bind fun v1 =>
  ((CJ_chk d a1 v1 h).bind fun g2 =>
  ((zv_aB g2 a0 a1).bind fun v3 =>
  (if 0 ≤ (zv_i2c (zv_and v3 (255 : Int))) ∧ (zv_i2c (zv_and v3 (255 : Int))) ≤ 65535 then some (some (zv_i (zv_i2c (zv_and v3 (255 : Int)))), g2) else none)))) := by
  refine (zy_lim_eq zyS14_charAt _ _ _ _).trans ?_
  rfl
theorem zyS13_charAt : zy_srt 0 mc13_charAt.2.1 = true := by decide +kernel
set_option maxRecDepth 100000 in
theorem qE13_charAt (d : Nat) (a0 : Nat) (a1 : Int) (h : zv_H) : E13_charAt d a0 a1 h =
  ((C13_isLatin1 d a0 h).bind fun q1 =>
  (if q1.1 = 0 then
    ((zv_tV a0).bind fun v2 =>
    none)
  else
    ((zv_tV a0).bind fun v3 =>
    ((C14_charAt d v3 a1 q1.2).bind fun q4 =>
    (if 0 ≤ q4.1 ∧ q4.1 ≤ 65535 then some (some (zv_i q4.1), q4.2) else none))))) := by
  refine (zy_lim_eq zyS13_charAt _ _ _ _).trans ?_
  rfl
theorem zyS14_canEncode : zy_srt 0 mc14_canEncode.2.1 = true := by decide +kernel
set_option maxRecDepth 100000 in
theorem qE14_canEncode (d : Nat) (a0 : Int) (h : zv_H) : E14_canEncode d a0 h =
  (if a0 < 0 then
    (some (some (zv_i (0 : Int)), h))
  else
    (if a0 ≤ (255 : Int) then
      (some (some (zv_i (1 : Int)), h))
    else
      (some (some (zv_i (0 : Int)), h)))) := by
  refine (zy_lim_eq zyS14_canEncode _ _ _ _).trans ?_
  rfl
theorem zyS14_indexOfChar : zy_srt 0 mc14_indexOfChar.2.1 = true := by decide +kernel
set_option maxRecDepth 100000 in
theorem qE14_indexOfChar (d : Nat) (a0 : Nat) (a1 : Int) (a2 : Int) (a3 : Int) (h : zv_H) : E14_indexOfChar d a0 a1 a2 a3 h =
  L14_indexOfChar_7 d a0 a3 (zv_i2b a1) a2 h := by
  refine (zy_lim_eq zyS14_indexOfChar _ _ _ _).trans ?_
  rfl
set_option maxRecDepth 100000 in
theorem qL14_indexOfChar_7 (d : Nat) (a0 : Nat) (a3 : Int) (a4 : Int) (a5 : Int) (h : zv_H) : L14_indexOfChar_7 d a0 a3 a4 a5 h =
  (if a5 < a3 then
    ((zv_aB h a0 a5).bind fun v1 =>
    (if v1 = a4 then
      (some (some (zv_i a5), h))
    else
      L14_indexOfChar_7 d a0 a3 a4 (zv_w (a5 + 1)) h))
  else
    (some (some (zv_i (-1 : Int)), h))) := by
  refine (zy_lim_eq zyS14_indexOfChar _ _ _ _).trans ?_
  rfl
theorem zyS14_indexOf : zy_srt 0 mc14_indexOf.2.1 = true := by decide +kernel
set_option maxRecDepth 100000 in
theorem qE14_indexOf (d : Nat) (a0 : Nat) (a1 : Int) (a2 : Int) (a3 : Int) (h : zv_H) : E14_indexOf d a0 a1 a2 a3 h =
  ((C14_canEncode d a1 h).bind fun q1 =>
  (if q1.1 = 0 then
    (some (some (zv_i (-1 : Int)), q1.2))
  else
    ((zv_al q1.2 a0).bind fun v2 =>
    (if (max a2 (0 : Int)) < (min a3 v2) then
      ((C14_indexOfChar d a0 a1 (max a2 (0 : Int)) (min a3 v2) q1.2).bind fun q3 =>
      (some (some (zv_i q3.1), q3.2)))
    else
      (some (some (zv_i (-1 : Int)), q1.2)))))) := by
  refine (zy_lim_eq zyS14_indexOf _ _ _ _).trans ?_
  rfl
theorem zyS13_indexOf2 : zy_srt 0 mc13_indexOf2.2.1 = true := by decide +kernel
set_option maxRecDepth 100000 in
theorem qE13_indexOf2 (d : Nat) (a0 : Nat) (a1 : Int) (a2 : Int) (h : zv_H) : E13_indexOf2 d a0 a1 a2 h =
  ((C13_isLatin1 d a0 h).bind fun q1 =>
  (if q1.1 = 0 then
    ((zv_tV a0).bind fun v2 =>
    ((C13_length d a0 q1.2).bind fun q3 =>
    none))
  else
    ((zv_tV a0).bind fun v4 =>
    ((C13_length d a0 q1.2).bind fun q5 =>
    ((C14_indexOf d v4 a1 a2 q5.1 q5.2).bind fun q6 =>
    (some (some (zv_i q6.1), q6.2))))))) := by
  refine (zy_lim_eq zyS13_indexOf2 _ _ _ _).trans ?_
  rfl
theorem zyS13_indexOf : zy_srt 0 mc13_indexOf.2.1 = true := by decide +kernel
set_option maxRecDepth 100000 in
theorem qE13_indexOf (d : Nat) (a0 : Nat) (a1 : Int) (h : zv_H) : E13_indexOf d a0 a1 h =
  ((C13_indexOf2 d a0 a1 (0 : Int) h).bind fun q1 =>
  (some (some (zv_i q1.1), q1.2))) := by
  refine (zy_lim_eq zyS13_indexOf _ _ _ _).trans ?_
  rfl
end
