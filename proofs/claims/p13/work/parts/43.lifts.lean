/-! 43.lifts -/
section
theorem lC0_init {d : Nat} {a0 : Nat} {h h1 : zv_H} (hr : zv_ob h a0 0) (e : E0_init d a0 h = some (none, h1)) : C0_init (d + 1) a0 h = some h1 := congrArg zv_pjV (zv_sem_of (c := zv_cs zv_prog d) (id := 0) (m := (some 0, mc0_init)) (as := [zv_r a0]) (h := h) rfl rfl hr rfl e)
theorem lC0_begin {d : Nat} {a0 : Nat} {h h1 : zv_H} (hr : zv_ob h a0 0) (e : E0_begin d a0 h = some (none, h1)) : C0_begin (d + 1) a0 h = some h1 := congrArg zv_pjV (zv_sem_of (c := zv_cs zv_prog d) (id := 1) (m := (some 0, mc0_begin)) (as := [zv_r a0]) (h := h) rfl rfl hr rfl e)
theorem lC0_startWith {d : Nat} {a0 : Nat} {a1 : Nat} {h h1 : zv_H} (hr : zv_ob h a0 0) (e : E0_startWith d a0 a1 h = some (none, h1)) : C0_startWith (d + 1) a0 a1 h = some h1 := congrArg zv_pjV (zv_sem_of (c := zv_cs zv_prog d) (id := 2) (m := (some 0, mc0_startWith)) (as := [zv_r a0, zv_r a1]) (h := h) rfl rfl hr rfl e)
theorem lC0_at {d : Nat} {a0 : Nat} {a1 : Int} {h h1 : zv_H} {r : Nat} (hr : zv_ob h a0 0) (e : E0_at d a0 a1 h = some (some (zv_r r), h1)) : C0_at (d + 1) a0 a1 h = some (r, h1) := congrArg zv_pjR (zv_sem_of (c := zv_cs zv_prog d) (id := 3) (m := (some 0, mc0_at)) (as := [zv_r a0, zv_i a1]) (h := h) rfl rfl hr rfl e)
theorem lC0_glyph {d : Nat} {a0 : Nat} {a1 : Int} {h h1 : zv_H} {r : Int} (hr : zv_ob h a0 0) (e : E0_glyph d a0 a1 h = some (some (zv_i r), h1)) : C0_glyph (d + 1) a0 a1 h = some (r, h1) := congrArg zv_pjI (zv_sem_of (c := zv_cs zv_prog d) (id := 4) (m := (some 0, mc0_glyph)) (as := [zv_r a0, zv_i a1]) (h := h) rfl rfl hr rfl e)
theorem lC0_setGlyph {d : Nat} {a0 : Nat} {a1 : Int} {a2 : Int} {h h1 : zv_H} (hr : zv_ob h a0 0) (e : E0_setGlyph d a0 a1 a2 h = some (none, h1)) : C0_setGlyph (d + 1) a0 a1 a2 h = some h1 := congrArg zv_pjV (zv_sem_of (c := zv_cs zv_prog d) (id := 5) (m := (some 0, mc0_setGlyph)) (as := [zv_r a0, zv_i a1, zv_i a2]) (h := h) rfl rfl hr rfl e)
theorem lC0_letterAt {d : Nat} {a0 : Nat} {a1 : Nat} {a2 : Int} {h h1 : zv_H} {r : Int} (hr : zv_ob h a0 0) (e : E0_letterAt d a0 a1 a2 h = some (some (zv_i r), h1)) : C0_letterAt (d + 1) a0 a1 a2 h = some (r, h1) := congrArg zv_pjI (zv_sem_of (c := zv_cs zv_prog d) (id := 6) (m := (some 0, mc0_letterAt)) (as := [zv_r a0, zv_r a1, zv_i a2]) (h := h) rfl rfl hr rfl e)
theorem lC0_rowOfHere {d : Nat} {a0 : Nat} {h h1 : zv_H} {r : Nat} (hr : zv_ob h a0 0) (e : E0_rowOfHere d a0 h = some (some (zv_r r), h1)) : C0_rowOfHere (d + 1) a0 h = some (r, h1) := congrArg zv_pjR (zv_sem_of (c := zv_cs zv_prog d) (id := 7) (m := (some 0, mc0_rowOfHere)) (as := [zv_r a0]) (h := h) rfl rfl hr rfl e)
theorem lC0_leaves {d : Nat} {a0 : Nat} {h h1 : zv_H} {r : Int} (hr : zv_ob h a0 0) (e : E0_leaves d a0 h = some (some (zv_i r), h1)) : C0_leaves (d + 1) a0 h = some (r, h1) := congrArg zv_pjI (zv_sem_of (c := zv_cs zv_prog d) (id := 8) (m := (some 0, mc0_leaves)) (as := [zv_r a0]) (h := h) rfl rfl hr rfl e)
theorem lC0_groups {d : Nat} {a0 : Nat} {h h1 : zv_H} {r : Int} (hr : zv_ob h a0 0) (e : E0_groups d a0 h = some (some (zv_i r), h1)) : C0_groups (d + 1) a0 h = some (r, h1) := congrArg zv_pjI (zv_sem_of (c := zv_cs zv_prog d) (id := 9) (m := (some 0, mc0_groups)) (as := [zv_r a0]) (h := h) rfl rfl hr rfl e)
theorem lC0_childOf {d : Nat} {a0 : Nat} {a1 : Nat} {a2 : Int} {h h1 : zv_H} {r : Nat} (hr : zv_ob h a0 0) (e : E0_childOf d a0 a1 a2 h = some (some (zv_r r), h1)) : C0_childOf (d + 1) a0 a1 a2 h = some (r, h1) := congrArg zv_pjR (zv_sem_of (c := zv_cs zv_prog d) (id := 10) (m := (some 0, mc0_childOf)) (as := [zv_r a0, zv_r a1, zv_i a2]) (h := h) rfl rfl hr rfl e)
theorem lC0_findNewest {d : Nat} {a0 : Nat} {h h1 : zv_H} (hr : zv_ob h a0 0) (e : E0_findNewest d a0 h = some (none, h1)) : C0_findNewest (d + 1) a0 h = some h1 := congrArg zv_pjV (zv_sem_of (c := zv_cs zv_prog d) (id := 11) (m := (some 0, mc0_findNewest)) (as := [zv_r a0]) (h := h) rfl rfl hr rfl e)
theorem lC0_newestChild {d : Nat} {a0 : Nat} {a1 : Nat} {a2 : Int} {h h1 : zv_H} {r : Nat} (hr : zv_ob h a0 0) (e : E0_newestChild d a0 a1 a2 h = some (some (zv_r r), h1)) : C0_newestChild (d + 1) a0 a1 a2 h = some (r, h1) := congrArg zv_pjR (zv_sem_of (c := zv_cs zv_prog d) (id := 12) (m := (some 0, mc0_newestChild)) (as := [zv_r a0, zv_r a1, zv_i a2]) (h := h) rfl rfl hr rfl e)
theorem lC0_onLine {d : Nat} {a0 : Nat} {a1 : Nat} {h h1 : zv_H} {r : Int} (e : E0_onLine d a0 a1 h = some (some (zv_i r), h1)) : C0_onLine (d + 1) a0 a1 h = some (r, h1) := congrArg zv_pjI (zv_sem_of (c := zv_cs zv_prog d) (id := 13) (m := (none, mc0_onLine)) (as := [zv_r a0, zv_r a1]) (h := h) rfl rfl trivial rfl e)
theorem lC0_above {d : Nat} {a0 : Nat} {a1 : Int} {h h1 : zv_H} {r : Nat} (e : E0_above d a0 a1 h = some (some (zv_r r), h1)) : C0_above (d + 1) a0 a1 h = some (r, h1) := congrArg zv_pjR (zv_sem_of (c := zv_cs zv_prog d) (id := 14) (m := (none, mc0_above)) (as := [zv_r a0, zv_i a1]) (h := h) rfl rfl trivial rfl e)
theorem lC0_lettersOfHereBy {d : Nat} {a0 : Nat} {a1 : Int64} {h h1 : zv_H} {r : Int} (hr : zv_ob h a0 0) (e : E0_lettersOfHereBy d a0 a1 h = some (some (zv_i r), h1)) : C0_lettersOfHereBy (d + 1) a0 a1 h = some (r, h1) := congrArg zv_pjI (zv_sem_of (c := zv_cs zv_prog d) (id := 15) (m := (some 0, mc0_lettersOfHereBy)) (as := [zv_r a0, zv_j a1]) (h := h) rfl rfl hr rfl e)
theorem lC0_moveTo {d : Nat} {a0 : Nat} {a1 : Nat} {h h1 : zv_H} (hr : zv_ob h a0 0) (e : E0_moveTo d a0 a1 h = some (none, h1)) : C0_moveTo (d + 1) a0 a1 h = some h1 := congrArg zv_pjV (zv_sem_of (c := zv_cs zv_prog d) (id := 16) (m := (some 0, mc0_moveTo)) (as := [zv_r a0, zv_r a1]) (h := h) rfl rfl hr rfl e)
theorem lC0_grow {d : Nat} {a0 : Nat} {a1 : Int} {a2 : Int} {a3 : Int} {h h1 : zv_H} {r : Nat} (hr : zv_ob h a0 0) (e : E0_grow d a0 a1 a2 a3 h = some (some (zv_r r), h1)) : C0_grow (d + 1) a0 a1 a2 a3 h = some (r, h1) := congrArg zv_pjR (zv_sem_of (c := zv_cs zv_prog d) (id := 17) (m := (some 0, mc0_grow)) (as := [zv_r a0, zv_i a1, zv_i a2, zv_i a3]) (h := h) rfl rfl hr rfl e)
theorem lC0_putWord {d : Nat} {a0 : Nat} {a1 : Int} {a2 : Nat} {h h1 : zv_H} {r : Int} (hr : zv_ob h a0 0) (e : E0_putWord d a0 a1 a2 h = some (some (zv_i r), h1)) : C0_putWord (d + 1) a0 a1 a2 h = some (r, h1) := congrArg zv_pjI (zv_sem_of (c := zv_cs zv_prog d) (id := 18) (m := (some 0, mc0_putWord)) (as := [zv_r a0, zv_i a1, zv_r a2]) (h := h) rfl rfl hr rfl e)
theorem lC0_cutOut {d : Nat} {a0 : Nat} {a1 : Int} {a2 : Int} {h h1 : zv_H} {r : Int} (hr : zv_ob h a0 0) (e : E0_cutOut d a0 a1 a2 h = some (some (zv_i r), h1)) : C0_cutOut (d + 1) a0 a1 a2 h = some (r, h1) := congrArg zv_pjI (zv_sem_of (c := zv_cs zv_prog d) (id := 19) (m := (some 0, mc0_cutOut)) (as := [zv_r a0, zv_i a1, zv_i a2]) (h := h) rfl rfl hr rfl e)
theorem lC0_baseOf {d : Nat} {a0 : Int} {h h1 : zv_H} {r : Int64} (e : E0_baseOf d a0 h = some (some (zv_j r), h1)) : C0_baseOf (d + 1) a0 h = some (r, h1) := congrArg zv_pjJ (zv_sem_of (c := zv_cs zv_prog d) (id := 20) (m := (none, mc0_baseOf)) (as := [zv_i a0]) (h := h) rfl rfl trivial rfl e)
theorem lC0_joinGroup {d : Nat} {a0 : Nat} {a1 : Nat} {a2 : Nat} {h h1 : zv_H} (hr : zv_ob h a0 0) (e : E0_joinGroup d a0 a1 a2 h = some (none, h1)) : C0_joinGroup (d + 1) a0 a1 a2 h = some h1 := congrArg zv_pjV (zv_sem_of (c := zv_cs zv_prog d) (id := 21) (m := (some 0, mc0_joinGroup)) (as := [zv_r a0, zv_r a1, zv_r a2]) (h := h) rfl rfl hr rfl e)
theorem lC0_isNear {d : Nat} {a0 : Nat} {a1 : Nat} {h h1 : zv_H} {r : Int} (e : E0_isNear d a0 a1 h = some (some (zv_i r), h1)) : C0_isNear (d + 1) a0 a1 h = some (r, h1) := congrArg zv_pjI (zv_sem_of (c := zv_cs zv_prog d) (id := 22) (m := (none, mc0_isNear)) (as := [zv_r a0, zv_r a1]) (h := h) rfl rfl trivial rfl e)
theorem lC0_passTime {d : Nat} {a0 : Nat} {a1 : Int} {h h1 : zv_H} {r : Int} (hr : zv_ob h a0 0) (e : E0_passTime d a0 a1 h = some (some (zv_i r), h1)) : C0_passTime (d + 1) a0 a1 h = some (r, h1) := congrArg zv_pjI (zv_sem_of (c := zv_cs zv_prog d) (id := 23) (m := (some 0, mc0_passTime)) (as := [zv_r a0, zv_i a1]) (h := h) rfl rfl hr rfl e)
theorem lC0_behind {d : Nat} {a0 : Nat} {a1 : Int} {h h1 : zv_H} {r : Nat} (hr : zv_ob h a0 0) (e : E0_behind d a0 a1 h = some (some (zv_r r), h1)) : C0_behind (d + 1) a0 a1 h = some (r, h1) := congrArg zv_pjR (zv_sem_of (c := zv_cs zv_prog d) (id := 24) (m := (some 0, mc0_behind)) (as := [zv_r a0, zv_i a1]) (h := h) rfl rfl hr rfl e)
theorem lC0_stepBack {d : Nat} {a0 : Nat} {h h1 : zv_H} {r : Int} (hr : zv_ob h a0 0) (e : E0_stepBack d a0 h = some (some (zv_i r), h1)) : C0_stepBack (d + 1) a0 h = some (r, h1) := congrArg zv_pjI (zv_sem_of (c := zv_cs zv_prog d) (id := 25) (m := (some 0, mc0_stepBack)) (as := [zv_r a0]) (h := h) rfl rfl hr rfl e)
theorem lC0_stepOn {d : Nat} {a0 : Nat} {h h1 : zv_H} {r : Int} (hr : zv_ob h a0 0) (e : E0_stepOn d a0 h = some (some (zv_i r), h1)) : C0_stepOn (d + 1) a0 h = some (r, h1) := congrArg zv_pjI (zv_sem_of (c := zv_cs zv_prog d) (id := 26) (m := (some 0, mc0_stepOn)) (as := [zv_r a0]) (h := h) rfl rfl hr rfl e)
theorem lC0_goTo {d : Nat} {a0 : Nat} {a1 : Int} {h h1 : zv_H} {r : Int} (hr : zv_ob h a0 0) (e : E0_goTo d a0 a1 h = some (some (zv_i r), h1)) : C0_goTo (d + 1) a0 a1 h = some (r, h1) := congrArg zv_pjI (zv_sem_of (c := zv_cs zv_prog d) (id := 27) (m := (some 0, mc0_goTo)) (as := [zv_r a0, zv_i a1]) (h := h) rfl rfl hr rfl e)
theorem lC0_nameHere {d : Nat} {a0 : Nat} {a1 : Int} {h h1 : zv_H} {r : Int} (hr : zv_ob h a0 0) (e : E0_nameHere d a0 a1 h = some (some (zv_i r), h1)) : C0_nameHere (d + 1) a0 a1 h = some (r, h1) := congrArg zv_pjI (zv_sem_of (c := zv_cs zv_prog d) (id := 28) (m := (some 0, mc0_nameHere)) (as := [zv_r a0, zv_i a1]) (h := h) rfl rfl hr rfl e)
theorem lC0_dropName {d : Nat} {a0 : Nat} {a1 : Int} {h h1 : zv_H} {r : Int} (hr : zv_ob h a0 0) (e : E0_dropName d a0 a1 h = some (some (zv_i r), h1)) : C0_dropName (d + 1) a0 a1 h = some (r, h1) := congrArg zv_pjI (zv_sem_of (c := zv_cs zv_prog d) (id := 29) (m := (some 0, mc0_dropName)) (as := [zv_r a0, zv_i a1]) (h := h) rfl rfl hr rfl e)
theorem lC0_takeBack {d : Nat} {a0 : Nat} {a1 : Int} {h h1 : zv_H} {r : Int} (hr : zv_ob h a0 0) (e : E0_takeBack d a0 a1 h = some (some (zv_i r), h1)) : C0_takeBack (d + 1) a0 a1 h = some (r, h1) := congrArg zv_pjI (zv_sem_of (c := zv_cs zv_prog d) (id := 30) (m := (some 0, mc0_takeBack)) (as := [zv_r a0, zv_i a1]) (h := h) rfl rfl hr rfl e)
theorem lC0_giveBack {d : Nat} {a0 : Nat} {a1 : Int} {h h1 : zv_H} {r : Int} (hr : zv_ob h a0 0) (e : E0_giveBack d a0 a1 h = some (some (zv_i r), h1)) : C0_giveBack (d + 1) a0 a1 h = some (r, h1) := congrArg zv_pjI (zv_sem_of (c := zv_cs zv_prog d) (id := 31) (m := (some 0, mc0_giveBack)) (as := [zv_r a0, zv_i a1]) (h := h) rfl rfl hr rfl e)
theorem lC0_turn {d : Nat} {a0 : Nat} {a1 : Int} {a2 : Int64} {a4 : Int64} {h h1 : zv_H} {r : Int} (hr : zv_ob h a0 0) (e : E0_turn d a0 a1 a2 a4 h = some (some (zv_i r), h1)) : C0_turn (d + 1) a0 a1 a2 a4 h = some (r, h1) := congrArg zv_pjI (zv_sem_of (c := zv_cs zv_prog d) (id := 32) (m := (some 0, mc0_turn)) (as := [zv_r a0, zv_i a1, zv_j a2, zv_j a4]) (h := h) rfl rfl hr rfl e)
theorem lC0_carryOver {d : Nat} {a0 : Nat} {a1 : Int} {h h1 : zv_H} {r : Int} (hr : zv_ob h a0 0) (e : E0_carryOver d a0 a1 h = some (some (zv_i r), h1)) : C0_carryOver (d + 1) a0 a1 h = some (r, h1) := congrArg zv_pjI (zv_sem_of (c := zv_cs zv_prog d) (id := 33) (m := (some 0, mc0_carryOver)) (as := [zv_r a0, zv_i a1]) (h := h) rfl rfl hr rfl e)
theorem lC0_standForThemselves {d : Nat} {a0 : Nat} {h h1 : zv_H} (hr : zv_ob h a0 0) (e : E0_standForThemselves d a0 h = some (none, h1)) : C0_standForThemselves (d + 1) a0 h = some h1 := congrArg zv_pjV (zv_sem_of (c := zv_cs zv_prog d) (id := 34) (m := (some 0, mc0_standForThemselves)) (as := [zv_r a0]) (h := h) rfl rfl hr rfl e)
theorem lC0_standOf {d : Nat} {a0 : Nat} {a1 : Int} {h h1 : zv_H} {r : Int} (hr : zv_ob h a0 0) (e : E0_standOf d a0 a1 h = some (some (zv_i r), h1)) : C0_standOf (d + 1) a0 a1 h = some (r, h1) := congrArg zv_pjI (zv_sem_of (c := zv_cs zv_prog d) (id := 35) (m := (some 0, mc0_standOf)) (as := [zv_r a0, zv_i a1]) (h := h) rfl rfl hr rfl e)
theorem lC0_carryOne {d : Nat} {a0 : Nat} {a1 : Nat} {h h1 : zv_H} {r : Int} (hr : zv_ob h a0 0) (e : E0_carryOne d a0 a1 h = some (some (zv_i r), h1)) : C0_carryOne (d + 1) a0 a1 h = some (r, h1) := congrArg zv_pjI (zv_sem_of (c := zv_cs zv_prog d) (id := 36) (m := (some 0, mc0_carryOne)) (as := [zv_r a0, zv_r a1]) (h := h) rfl rfl hr rfl e)
theorem lC0_firstTaken {d : Nat} {a0 : Nat} {a1 : Nat} {h h1 : zv_H} {r : Int} (hr : zv_ob h a0 0) (e : E0_firstTaken d a0 a1 h = some (some (zv_i r), h1)) : C0_firstTaken (d + 1) a0 a1 h = some (r, h1) := congrArg zv_pjI (zv_sem_of (c := zv_cs zv_prog d) (id := 37) (m := (some 0, mc0_firstTaken)) (as := [zv_r a0, zv_r a1]) (h := h) rfl rfl hr rfl e)
theorem lC0_takenFrom {d : Nat} {a0 : Nat} {a1 : Nat} {a2 : Int} {h h1 : zv_H} {r : Int} (hr : zv_ob h a0 0) (e : E0_takenFrom d a0 a1 a2 h = some (some (zv_i r), h1)) : C0_takenFrom (d + 1) a0 a1 a2 h = some (r, h1) := congrArg zv_pjI (zv_sem_of (c := zv_cs zv_prog d) (id := 38) (m := (some 0, mc0_takenFrom)) (as := [zv_r a0, zv_r a1, zv_i a2]) (h := h) rfl rfl hr rfl e)
theorem lC0_takes {d : Nat} {a0 : Nat} {a1 : Nat} {a2 : Int} {h h1 : zv_H} {r : Int} (hr : zv_ob h a0 0) (e : E0_takes d a0 a1 a2 h = some (some (zv_i r), h1)) : C0_takes (d + 1) a0 a1 a2 h = some (r, h1) := congrArg zv_pjI (zv_sem_of (c := zv_cs zv_prog d) (id := 39) (m := (some 0, mc0_takes)) (as := [zv_r a0, zv_r a1, zv_i a2]) (h := h) rfl rfl hr rfl e)
theorem lC0_mergeIn {d : Nat} {a0 : Nat} {a1 : Int} {h h1 : zv_H} {r : Int} (hr : zv_ob h a0 0) (e : E0_mergeIn d a0 a1 h = some (some (zv_i r), h1)) : C0_mergeIn (d + 1) a0 a1 h = some (r, h1) := congrArg zv_pjI (zv_sem_of (c := zv_cs zv_prog d) (id := 40) (m := (some 0, mc0_mergeIn)) (as := [zv_r a0, zv_i a1]) (h := h) rfl rfl hr rfl e)
theorem lC0_mergeOnPaper {d : Nat} {a0 : Nat} {a1 : Int} {a2 : Int} {h h1 : zv_H} {r : Int} (hr : zv_ob h a0 0) (e : E0_mergeOnPaper d a0 a1 a2 h = some (some (zv_i r), h1)) : C0_mergeOnPaper (d + 1) a0 a1 a2 h = some (r, h1) := congrArg zv_pjI (zv_sem_of (c := zv_cs zv_prog d) (id := 41) (m := (some 0, mc0_mergeOnPaper)) (as := [zv_r a0, zv_i a1, zv_i a2]) (h := h) rfl rfl hr rfl e)
theorem lC0_remove {d : Nat} {a0 : Nat} {a1 : Nat} {h h1 : zv_H} (hr : zv_ob h a0 0) (e : E0_remove d a0 a1 h = some (none, h1)) : C0_remove (d + 1) a0 a1 h = some h1 := congrArg zv_pjV (zv_sem_of (c := zv_cs zv_prog d) (id := 42) (m := (some 0, mc0_remove)) (as := [zv_r a0, zv_r a1]) (h := h) rfl rfl hr rfl e)
theorem lC0_nextToGo {d : Nat} {a0 : Nat} {h h1 : zv_H} {r : Nat} (hr : zv_ob h a0 0) (e : E0_nextToGo d a0 h = some (some (zv_r r), h1)) : C0_nextToGo (d + 1) a0 h = some (r, h1) := congrArg zv_pjR (zv_sem_of (c := zv_cs zv_prog d) (id := 43) (m := (some 0, mc0_nextToGo)) (as := [zv_r a0]) (h := h) rfl rfl hr rfl e)
theorem lC0_pruneTo {d : Nat} {a0 : Nat} {a1 : Int} {h h1 : zv_H} {r : Int} (hr : zv_ob h a0 0) (e : E0_pruneTo d a0 a1 h = some (some (zv_i r), h1)) : C0_pruneTo (d + 1) a0 a1 h = some (r, h1) := congrArg zv_pjI (zv_sem_of (c := zv_cs zv_prog d) (id := 44) (m := (some 0, mc0_pruneTo)) (as := [zv_r a0, zv_i a1]) (h := h) rfl rfl hr rfl e)
theorem lC0_nearest {d : Nat} {a0 : Nat} {a1 : Nat} {h h1 : zv_H} {r : Nat} (e : E0_nearest d a0 a1 h = some (some (zv_r r), h1)) : C0_nearest (d + 1) a0 a1 h = some (r, h1) := congrArg zv_pjR (zv_sem_of (c := zv_cs zv_prog d) (id := 45) (m := (none, mc0_nearest)) (as := [zv_r a0, zv_r a1]) (h := h) rfl rfl trivial rfl e)
theorem lC0_wayLength {d : Nat} {a0 : Nat} {a1 : Nat} {h h1 : zv_H} {r : Int} (e : E0_wayLength d a0 a1 h = some (some (zv_i r), h1)) : C0_wayLength (d + 1) a0 a1 h = some (r, h1) := congrArg zv_pjI (zv_sem_of (c := zv_cs zv_prog d) (id := 46) (m := (none, mc0_wayLength)) (as := [zv_r a0, zv_r a1]) (h := h) rfl rfl trivial rfl e)
theorem lC0_onWay {d : Nat} {a0 : Nat} {a1 : Nat} {a2 : Int} {h h1 : zv_H} {r : Nat} (e : E0_onWay d a0 a1 a2 h = some (some (zv_r r), h1)) : C0_onWay (d + 1) a0 a1 a2 h = some (r, h1) := congrArg zv_pjR (zv_sem_of (c := zv_cs zv_prog d) (id := 47) (m := (none, mc0_onWay)) (as := [zv_r a0, zv_r a1, zv_i a2]) (h := h) rfl rfl trivial rfl e)
theorem lC0_keptOf {d : Nat} {a0 : Nat} {a1 : Nat} {a2 : Nat} {h h1 : zv_H} {r : Int} (hr : zv_ob h a0 0) (e : E0_keptOf d a0 a1 a2 h = some (some (zv_i r), h1)) : C0_keptOf (d + 1) a0 a1 a2 h = some (r, h1) := congrArg zv_pjI (zv_sem_of (c := zv_cs zv_prog d) (id := 48) (m := (some 0, mc0_keptOf)) (as := [zv_r a0, zv_r a1, zv_r a2]) (h := h) rfl rfl hr rfl e)
theorem lC0_firstDifference {d : Nat} {a0 : Nat} {a1 : Nat} {a2 : Nat} {h h1 : zv_H} {r : Int} (hr : zv_ob h a0 0) (e : E0_firstDifference d a0 a1 a2 h = some (some (zv_i r), h1)) : C0_firstDifference (d + 1) a0 a1 a2 h = some (r, h1) := congrArg zv_pjI (zv_sem_of (c := zv_cs zv_prog d) (id := 49) (m := (some 0, mc0_firstDifference)) (as := [zv_r a0, zv_r a1, zv_r a2]) (h := h) rfl rfl hr rfl e)
theorem lC0_longestCommon {d : Nat} {a0 : Nat} {a1 : Nat} {a2 : Nat} {h h1 : zv_H} {r : Int} (hr : zv_ob h a0 0) (e : E0_longestCommon d a0 a1 a2 h = some (some (zv_i r), h1)) : C0_longestCommon (d + 1) a0 a1 a2 h = some (r, h1) := congrArg zv_pjI (zv_sem_of (c := zv_cs zv_prog d) (id := 50) (m := (some 0, mc0_longestCommon)) (as := [zv_r a0, zv_r a1, zv_r a2]) (h := h) rfl rfl hr rfl e)
theorem lC0_placeIn {d : Nat} {a0 : Nat} {a1 : Nat} {a2 : Nat} {h h1 : zv_H} {r : Int} (hr : zv_ob h a0 0) (e : E0_placeIn d a0 a1 a2 h = some (some (zv_i r), h1)) : C0_placeIn (d + 1) a0 a1 a2 h = some (r, h1) := congrArg zv_pjI (zv_sem_of (c := zv_cs zv_prog d) (id := 51) (m := (some 0, mc0_placeIn)) (as := [zv_r a0, zv_r a1, zv_r a2]) (h := h) rfl rfl hr rfl e)
theorem lC0_leastWith {d : Nat} {a0 : Nat} {a1 : Nat} {h h1 : zv_H} {r : Int} (hr : zv_ob h a0 0) (e : E0_leastWith d a0 a1 h = some (some (zv_i r), h1)) : C0_leastWith (d + 1) a0 a1 h = some (r, h1) := congrArg zv_pjI (zv_sem_of (c := zv_cs zv_prog d) (id := 52) (m := (some 0, mc0_leastWith)) (as := [zv_r a0, zv_r a1]) (h := h) rfl rfl hr rfl e)
theorem lC0_statesWith {d : Nat} {a0 : Nat} {a1 : Nat} {h h1 : zv_H} {r : Int} (hr : zv_ob h a0 0) (e : E0_statesWith d a0 a1 h = some (some (zv_i r), h1)) : C0_statesWith (d + 1) a0 a1 h = some (r, h1) := congrArg zv_pjI (zv_sem_of (c := zv_cs zv_prog d) (id := 53) (m := (some 0, mc0_statesWith)) (as := [zv_r a0, zv_r a1]) (h := h) rfl rfl hr rfl e)
theorem lC0_twinOf {d : Nat} {a0 : Nat} {a1 : Nat} {h h1 : zv_H} {r : Int} (hr : zv_ob h a0 0) (e : E0_twinOf d a0 a1 h = some (some (zv_i r), h1)) : C0_twinOf (d + 1) a0 a1 h = some (r, h1) := congrArg zv_pjI (zv_sem_of (c := zv_cs zv_prog d) (id := 54) (m := (some 0, mc0_twinOf)) (as := [zv_r a0, zv_r a1]) (h := h) rfl rfl hr rfl e)
theorem lC1_init {d : Nat} {a0 : Nat} {h h1 : zv_H} (hr : zv_ob h a0 1) (e : E1_init d a0 h = some (none, h1)) : C1_init (d + 1) a0 h = some h1 := congrArg zv_pjV (zv_sem_of (c := zv_cs zv_prog d) (id := 55) (m := (some 1, mc1_init)) (as := [zv_r a0]) (h := h) rfl rfl hr rfl e)
theorem lC1_clear {d : Nat} {a0 : Nat} {h h1 : zv_H} (hr : zv_ob h a0 1) (e : E1_clear d a0 h = some (none, h1)) : C1_clear (d + 1) a0 h = some h1 := congrArg zv_pjV (zv_sem_of (c := zv_cs zv_prog d) (id := 56) (m := (some 1, mc1_clear)) (as := [zv_r a0]) (h := h) rfl rfl hr rfl e)
theorem lC1_usual {d : Nat} {a0 : Nat} {h h1 : zv_H} (hr : zv_ob h a0 1) (e : E1_usual d a0 h = some (none, h1)) : C1_usual (d + 1) a0 h = some h1 := congrArg zv_pjV (zv_sem_of (c := zv_cs zv_prog d) (id := 57) (m := (some 1, mc1_usual)) (as := [zv_r a0]) (h := h) rfl rfl hr rfl e)
theorem lC1_compare {d : Nat} {a0 : Nat} {a1 : Int} {a2 : Int} {a3 : Int} {h h1 : zv_H} (hr : zv_ob h a0 1) (e : E1_compare d a0 a1 a2 a3 h = some (none, h1)) : C1_compare (d + 1) a0 a1 a2 a3 h = some h1 := congrArg zv_pjV (zv_sem_of (c := zv_cs zv_prog d) (id := 58) (m := (some 1, mc1_compare)) (as := [zv_r a0, zv_i a1, zv_i a2, zv_i a3]) (h := h) rfl rfl hr rfl e)
theorem lC1_add {d : Nat} {a0 : Nat} {a1 : Int} {a2 : Int} {h h1 : zv_H} (hr : zv_ob h a0 1) (e : E1_add d a0 a1 a2 h = some (none, h1)) : C1_add (d + 1) a0 a1 a2 h = some h1 := congrArg zv_pjV (zv_sem_of (c := zv_cs zv_prog d) (id := 59) (m := (some 1, mc1_add)) (as := [zv_r a0, zv_i a1, zv_i a2]) (h := h) rfl rfl hr rfl e)
theorem lC1_set {d : Nat} {a0 : Nat} {a1 : Int} {a2 : Int} {h h1 : zv_H} (hr : zv_ob h a0 1) (e : E1_set d a0 a1 a2 h = some (none, h1)) : C1_set (d + 1) a0 a1 a2 h = some h1 := congrArg zv_pjV (zv_sem_of (c := zv_cs zv_prog d) (id := 60) (m := (some 1, mc1_set)) (as := [zv_r a0, zv_i a1, zv_i a2]) (h := h) rfl rfl hr rfl e)
theorem lC1_holds {d : Nat} {a0 : Nat} {h h1 : zv_H} {r : Int} (hr : zv_ob h a0 1) (e : E1_holds d a0 h = some (some (zv_i r), h1)) : C1_holds (d + 1) a0 h = some (r, h1) := congrArg zv_pjI (zv_sem_of (c := zv_cs zv_prog d) (id := 61) (m := (some 1, mc1_holds)) (as := [zv_r a0]) (h := h) rfl rfl hr rfl e)
theorem lC2_init {d : Nat} {a0 : Nat} {h h1 : zv_H} (hr : zv_ob h a0 2) (e : E2_init d a0 h = some (none, h1)) : C2_init (d + 1) a0 h = some h1 := congrArg zv_pjV (zv_sem_of (c := zv_cs zv_prog d) (id := 62) (m := (some 2, mc2_init)) (as := [zv_r a0]) (h := h) rfl rfl hr rfl e)
theorem lC2_indexOf {d : Nat} {a0 : Nat} {a1 : Int} {h h1 : zv_H} {r : Int} (hr : zv_ob h a0 2) (e : E2_indexOf d a0 a1 h = some (some (zv_i r), h1)) : C2_indexOf (d + 1) a0 a1 h = some (r, h1) := congrArg zv_pjI (zv_sem_of (c := zv_cs zv_prog d) (id := 63) (m := (some 2, mc2_indexOf)) (as := [zv_r a0, zv_i a1]) (h := h) rfl rfl hr rfl e)
theorem lC2_keyAt {d : Nat} {a0 : Nat} {a1 : Int} {h h1 : zv_H} {r : Int} (hr : zv_ob h a0 2) (e : E2_keyAt d a0 a1 h = some (some (zv_i r), h1)) : C2_keyAt (d + 1) a0 a1 h = some (r, h1) := congrArg zv_pjI (zv_sem_of (c := zv_cs zv_prog d) (id := 64) (m := (some 2, mc2_keyAt)) (as := [zv_r a0, zv_i a1]) (h := h) rfl rfl hr rfl e)
theorem lC2_ownerAt {d : Nat} {a0 : Nat} {a1 : Int} {h h1 : zv_H} {r : Int} (hr : zv_ob h a0 2) (e : E2_ownerAt d a0 a1 h = some (some (zv_i r), h1)) : C2_ownerAt (d + 1) a0 a1 h = some (r, h1) := congrArg zv_pjI (zv_sem_of (c := zv_cs zv_prog d) (id := 65) (m := (some 2, mc2_ownerAt)) (as := [zv_r a0, zv_i a1]) (h := h) rfl rfl hr rfl e)
theorem lC2_countOf {d : Nat} {a0 : Nat} {a1 : Int} {h h1 : zv_H} {r : Int} (hr : zv_ob h a0 2) (e : E2_countOf d a0 a1 h = some (some (zv_i r), h1)) : C2_countOf (d + 1) a0 a1 h = some (r, h1) := congrArg zv_pjI (zv_sem_of (c := zv_cs zv_prog d) (id := 66) (m := (some 2, mc2_countOf)) (as := [zv_r a0, zv_i a1]) (h := h) rfl rfl hr rfl e)
theorem lC2_own {d : Nat} {a0 : Nat} {a1 : Int} {a2 : Int} {h h1 : zv_H} (hr : zv_ob h a0 2) (e : E2_own d a0 a1 a2 h = some (none, h1)) : C2_own (d + 1) a0 a1 a2 h = some h1 := congrArg zv_pjV (zv_sem_of (c := zv_cs zv_prog d) (id := 67) (m := (some 2, mc2_own)) (as := [zv_r a0, zv_i a1, zv_i a2]) (h := h) rfl rfl hr rfl e)
theorem lC2_drop {d : Nat} {a0 : Nat} {a1 : Int} {h h1 : zv_H} (hr : zv_ob h a0 2) (e : E2_drop d a0 a1 h = some (none, h1)) : C2_drop (d + 1) a0 a1 h = some h1 := congrArg zv_pjV (zv_sem_of (c := zv_cs zv_prog d) (id := 68) (m := (some 2, mc2_drop)) (as := [zv_r a0, zv_i a1]) (h := h) rfl rfl hr rfl e)
theorem lC3_init {d : Nat} {a0 : Nat} {h h1 : zv_H} (hr : zv_ob h a0 3) (e : E3_init d a0 h = some (none, h1)) : C3_init (d + 1) a0 h = some h1 := congrArg zv_pjV (zv_sem_of (c := zv_cs zv_prog d) (id := 69) (m := (some 3, mc3_init)) (as := [zv_r a0]) (h := h) rfl rfl hr rfl e)
theorem lC3_addByte {d : Nat} {a0 : Nat} {a1 : Int} {h h1 : zv_H} (hr : zv_ob h a0 3) (e : E3_addByte d a0 a1 h = some (none, h1)) : C3_addByte (d + 1) a0 a1 h = some h1 := congrArg zv_pjV (zv_sem_of (c := zv_cs zv_prog d) (id := 70) (m := (some 3, mc3_addByte)) (as := [zv_r a0, zv_i a1]) (h := h) rfl rfl hr rfl e)
theorem lC3_byteAt {d : Nat} {a0 : Nat} {a1 : Int} {h h1 : zv_H} {r : Int} (hr : zv_ob h a0 3) (e : E3_byteAt d a0 a1 h = some (some (zv_i r), h1)) : C3_byteAt (d + 1) a0 a1 h = some (r, h1) := congrArg zv_pjI (zv_sem_of (c := zv_cs zv_prog d) (id := 71) (m := (some 3, mc3_byteAt)) (as := [zv_r a0, zv_i a1]) (h := h) rfl rfl hr rfl e)
theorem lC3_fail {d : Nat} {a0 : Nat} {a1 : Int} {h h1 : zv_H} {r : Int} (hr : zv_ob h a0 3) (e : E3_fail d a0 a1 h = some (some (zv_i r), h1)) : C3_fail (d + 1) a0 a1 h = some (r, h1) := congrArg zv_pjI (zv_sem_of (c := zv_cs zv_prog d) (id := 72) (m := (some 3, mc3_fail)) (as := [zv_r a0, zv_i a1]) (h := h) rfl rfl hr rfl e)
theorem lC3_more {d : Nat} {a0 : Nat} {h h1 : zv_H} {r : Int} (hr : zv_ob h a0 3) (e : E3_more d a0 h = some (some (zv_i r), h1)) : C3_more (d + 1) a0 h = some (r, h1) := congrArg zv_pjI (zv_sem_of (c := zv_cs zv_prog d) (id := 73) (m := (some 3, mc3_more)) (as := [zv_r a0]) (h := h) rfl rfl hr rfl e)
theorem lC3_begin {d : Nat} {a0 : Nat} {a1 : Int} {h h1 : zv_H} (hr : zv_ob h a0 3) (e : E3_begin d a0 a1 h = some (none, h1)) : C3_begin (d + 1) a0 a1 h = some h1 := congrArg zv_pjV (zv_sem_of (c := zv_cs zv_prog d) (id := 74) (m := (some 3, mc3_begin)) (as := [zv_r a0, zv_i a1]) (h := h) rfl rfl hr rfl e)
theorem lC3_next {d : Nat} {a0 : Nat} {h h1 : zv_H} {r : Int} (hr : zv_ob h a0 3) (e : E3_next d a0 h = some (some (zv_i r), h1)) : C3_next (d + 1) a0 h = some (r, h1) := congrArg zv_pjI (zv_sem_of (c := zv_cs zv_prog d) (id := 75) (m := (some 3, mc3_next)) (as := [zv_r a0]) (h := h) rfl rfl hr rfl e)
theorem lC3_isSmall {d : Nat} {a0 : Int} {h h1 : zv_H} {r : Int} (e : E3_isSmall d a0 h = some (some (zv_i r), h1)) : C3_isSmall (d + 1) a0 h = some (r, h1) := congrArg zv_pjI (zv_sem_of (c := zv_cs zv_prog d) (id := 76) (m := (none, mc3_isSmall)) (as := [zv_i a0]) (h := h) rfl rfl trivial rfl e)
theorem lC3_isDigit {d : Nat} {a0 : Int} {h h1 : zv_H} {r : Int} (e : E3_isDigit d a0 h = some (some (zv_i r), h1)) : C3_isDigit (d + 1) a0 h = some (r, h1) := congrArg zv_pjI (zv_sem_of (c := zv_cs zv_prog d) (id := 77) (m := (none, mc3_isDigit)) (as := [zv_i a0]) (h := h) rfl rfl trivial rfl e)
theorem lC3_is {d : Nat} {a0 : Nat} {a1 : Nat} {h h1 : zv_H} {r : Int} (hr : zv_ob h a0 3) (e : E3_is d a0 a1 h = some (some (zv_i r), h1)) : C3_is (d + 1) a0 a1 h = some (r, h1) := congrArg zv_pjI (zv_sem_of (c := zv_cs zv_prog d) (id := 78) (m := (some 3, mc3_is)) (as := [zv_r a0, zv_r a1]) (h := h) rfl rfl hr rfl e)
theorem lC3_isSign {d : Nat} {a0 : Nat} {a1 : Int} {h h1 : zv_H} {r : Int} (hr : zv_ob h a0 3) (e : E3_isSign d a0 a1 h = some (some (zv_i r), h1)) : C3_isSign (d + 1) a0 a1 h = some (r, h1) := congrArg zv_pjI (zv_sem_of (c := zv_cs zv_prog d) (id := 79) (m := (some 3, mc3_isSign)) (as := [zv_r a0, zv_i a1]) (h := h) rfl rfl hr rfl e)
theorem lC3_head {d : Nat} {a0 : Nat} {a1 : Nat} {h h1 : zv_H} (hr : zv_ob h a0 3) (e : E3_head d a0 a1 h = some (none, h1)) : C3_head (d + 1) a0 a1 h = some h1 := congrArg zv_pjV (zv_sem_of (c := zv_cs zv_prog d) (id := 80) (m := (some 3, mc3_head)) (as := [zv_r a0, zv_r a1]) (h := h) rfl rfl hr rfl e)
theorem lC3_closed {d : Nat} {a0 : Nat} {h h1 : zv_H} {r : Int} (hr : zv_ob h a0 3) (e : E3_closed d a0 h = some (some (zv_i r), h1)) : C3_closed (d + 1) a0 h = some (r, h1) := congrArg zv_pjI (zv_sem_of (c := zv_cs zv_prog d) (id := 81) (m := (some 3, mc3_closed)) (as := [zv_r a0]) (h := h) rfl rfl hr rfl e)
theorem lC3_spelled {d : Nat} {a0 : Nat} {a1 : Int} {h h1 : zv_H} {r : Int} (hr : zv_ob h a0 3) (e : E3_spelled d a0 a1 h = some (some (zv_i r), h1)) : C3_spelled (d + 1) a0 a1 h = some (r, h1) := congrArg zv_pjI (zv_sem_of (c := zv_cs zv_prog d) (id := 82) (m := (some 3, mc3_spelled)) (as := [zv_r a0, zv_i a1]) (h := h) rfl rfl hr rfl e)
theorem lC3_test {d : Nat} {a0 : Nat} {a1 : Nat} {a2 : Int} {h h1 : zv_H} {r : Int} (hr : zv_ob h a0 3) (e : E3_test d a0 a1 a2 h = some (some (zv_i r), h1)) : C3_test (d + 1) a0 a1 a2 h = some (r, h1) := congrArg zv_pjI (zv_sem_of (c := zv_cs zv_prog d) (id := 83) (m := (some 3, mc3_test)) (as := [zv_r a0, zv_r a1, zv_i a2]) (h := h) rfl rfl hr rfl e)
theorem lC3_side {d : Nat} {a0 : Nat} {a1 : Nat} {a2 : Int} {h h1 : zv_H} {r : Int} (hr : zv_ob h a0 3) (e : E3_side d a0 a1 a2 h = some (some (zv_i r), h1)) : C3_side (d + 1) a0 a1 a2 h = some (r, h1) := congrArg zv_pjI (zv_sem_of (c := zv_cs zv_prog d) (id := 84) (m := (some 3, mc3_side)) (as := [zv_r a0, zv_r a1, zv_i a2]) (h := h) rfl rfl hr rfl e)
theorem lC3_fact {d : Nat} {a0 : Nat} {a1 : Nat} {a2 : Int} {h h1 : zv_H} {r : Int} (hr : zv_ob h a0 3) (e : E3_fact d a0 a1 a2 h = some (some (zv_i r), h1)) : C3_fact (d + 1) a0 a1 a2 h = some (r, h1) := congrArg zv_pjI (zv_sem_of (c := zv_cs zv_prog d) (id := 85) (m := (some 3, mc3_fact)) (as := [zv_r a0, zv_r a1, zv_i a2]) (h := h) rfl rfl hr rfl e)
theorem lC3_comparison {d : Nat} {a0 : Nat} {a1 : Nat} {a2 : Int} {h h1 : zv_H} {r : Int} (hr : zv_ob h a0 3) (e : E3_comparison d a0 a1 a2 h = some (some (zv_i r), h1)) : C3_comparison (d + 1) a0 a1 a2 h = some (r, h1) := congrArg zv_pjI (zv_sem_of (c := zv_cs zv_prog d) (id := 86) (m := (some 3, mc3_comparison)) (as := [zv_r a0, zv_r a1, zv_i a2]) (h := h) rfl rfl hr rfl e)
theorem lC3_asked {d : Nat} {a0 : Nat} {h h1 : zv_H} {r : Int} (hr : zv_ob h a0 3) (e : E3_asked d a0 h = some (some (zv_i r), h1)) : C3_asked (d + 1) a0 h = some (r, h1) := congrArg zv_pjI (zv_sem_of (c := zv_cs zv_prog d) (id := 87) (m := (some 3, mc3_asked)) (as := [zv_r a0]) (h := h) rfl rfl hr rfl e)
theorem lC3_line {d : Nat} {a0 : Nat} {h h1 : zv_H} {r : Int} (hr : zv_ob h a0 3) (e : E3_line d a0 h = some (some (zv_i r), h1)) : C3_line (d + 1) a0 h = some (r, h1) := congrArg zv_pjI (zv_sem_of (c := zv_cs zv_prog d) (id := 88) (m := (some 3, mc3_line)) (as := [zv_r a0]) (h := h) rfl rfl hr rfl e)
theorem lC3_verbHere {d : Nat} {a0 : Nat} {h h1 : zv_H} {r : Int} (hr : zv_ob h a0 3) (e : E3_verbHere d a0 h = some (some (zv_i r), h1)) : C3_verbHere (d + 1) a0 h = some (r, h1) := congrArg zv_pjI (zv_sem_of (c := zv_cs zv_prog d) (id := 89) (m := (some 3, mc3_verbHere)) (as := [zv_r a0]) (h := h) rfl rfl hr rfl e)
theorem lC4_init {d : Nat} {a0 : Nat} {h h1 : zv_H} (hr : zv_ob h a0 4) (e : E4_init d a0 h = some (none, h1)) : C4_init (d + 1) a0 h = some h1 := congrArg zv_pjV (zv_sem_of (c := zv_cs zv_prog d) (id := 90) (m := (some 4, mc4_init)) (as := [zv_r a0]) (h := h) rfl rfl hr rfl e)
theorem lC4_id {d : Nat} {a0 : Int} {a1 : Int} {h h1 : zv_H} {r : Int} (e : E4_id d a0 a1 h = some (some (zv_i r), h1)) : C4_id (d + 1) a0 a1 h = some (r, h1) := congrArg zv_pjI (zv_sem_of (c := zv_cs zv_prog d) (id := 91) (m := (none, mc4_id)) (as := [zv_i a0, zv_i a1]) (h := h) rfl rfl trivial rfl e)
theorem lC4_putter {d : Nat} {a0 : Int} {h h1 : zv_H} {r : Int} (e : E4_putter d a0 h = some (some (zv_i r), h1)) : C4_putter (d + 1) a0 h = some (r, h1) := congrArg zv_pjI (zv_sem_of (c := zv_cs zv_prog d) (id := 92) (m := (none, mc4_putter)) (as := [zv_i a0]) (h := h) rfl rfl trivial rfl e)
theorem lC4_order {d : Nat} {a0 : Int} {h h1 : zv_H} {r : Int} (e : E4_order d a0 h = some (some (zv_i r), h1)) : C4_order (d + 1) a0 h = some (r, h1) := congrArg zv_pjI (zv_sem_of (c := zv_cs zv_prog d) (id := 93) (m := (none, mc4_order)) (as := [zv_i a0]) (h := h) rfl rfl trivial rfl e)
theorem lC4_isId {d : Nat} {a0 : Int} {h h1 : zv_H} {r : Int} (e : E4_isId d a0 h = some (some (zv_i r), h1)) : C4_isId (d + 1) a0 h = some (r, h1) := congrArg zv_pjI (zv_sem_of (c := zv_cs zv_prog d) (id := 94) (m := (none, mc4_isId)) (as := [zv_i a0]) (h := h) rfl rfl trivial rfl e)
theorem lC4_lay {d : Nat} {a0 : Nat} {a1 : Nat} {h h1 : zv_H} (hr : zv_ob h a0 4) (e : E4_lay d a0 a1 h = some (none, h1)) : C4_lay (d + 1) a0 a1 h = some h1 := congrArg zv_pjV (zv_sem_of (c := zv_cs zv_prog d) (id := 95) (m := (some 4, mc4_lay)) (as := [zv_r a0, zv_r a1]) (h := h) rfl rfl hr rfl e)
theorem lC4_walk {d : Nat} {a0 : Nat} {a1 : Nat} {h h1 : zv_H} (hr : zv_ob h a0 4) (e : E4_walk d a0 a1 h = some (none, h1)) : C4_walk (d + 1) a0 a1 h = some h1 := congrArg zv_pjV (zv_sem_of (c := zv_cs zv_prog d) (id := 96) (m := (some 4, mc4_walk)) (as := [zv_r a0, zv_r a1]) (h := h) rfl rfl hr rfl e)
theorem lC4_link {d : Nat} {a0 : Nat} {a1 : Nat} {h h1 : zv_H} (hr : zv_ob h a0 4) (e : E4_link d a0 a1 h = some (none, h1)) : C4_link (d + 1) a0 a1 h = some h1 := congrArg zv_pjV (zv_sem_of (c := zv_cs zv_prog d) (id := 97) (m := (some 4, mc4_link)) (as := [zv_r a0, zv_r a1]) (h := h) rfl rfl hr rfl e)
theorem lC4_look {d : Nat} {a0 : Nat} {a1 : Int64} {h h1 : zv_H} (hr : zv_ob h a0 4) (e : E4_look d a0 a1 h = some (none, h1)) : C4_look (d + 1) a0 a1 h = some h1 := congrArg zv_pjV (zv_sem_of (c := zv_cs zv_prog d) (id := 98) (m := (some 4, mc4_look)) (as := [zv_r a0, zv_j a1]) (h := h) rfl rfl hr rfl e)
theorem lC4_numberAt {d : Nat} {a0 : Nat} {a1 : Int} {h h1 : zv_H} {r : Int} (hr : zv_ob h a0 4) (e : E4_numberAt d a0 a1 h = some (some (zv_i r), h1)) : C4_numberAt (d + 1) a0 a1 h = some (r, h1) := congrArg zv_pjI (zv_sem_of (c := zv_cs zv_prog d) (id := 99) (m := (some 4, mc4_numberAt)) (as := [zv_r a0, zv_i a1]) (h := h) rfl rfl hr rfl e)
theorem lC4_idAt {d : Nat} {a0 : Nat} {a1 : Int} {h h1 : zv_H} {r : Int} (hr : zv_ob h a0 4) (e : E4_idAt d a0 a1 h = some (some (zv_i r), h1)) : C4_idAt (d + 1) a0 a1 h = some (r, h1) := congrArg zv_pjI (zv_sem_of (c := zv_cs zv_prog d) (id := 100) (m := (some 4, mc4_idAt)) (as := [zv_r a0, zv_i a1]) (h := h) rfl rfl hr rfl e)
theorem lC4_seesAt {d : Nat} {a0 : Nat} {a1 : Int} {h h1 : zv_H} {r : Int} (hr : zv_ob h a0 4) (e : E4_seesAt d a0 a1 h = some (some (zv_i r), h1)) : C4_seesAt (d + 1) a0 a1 h = some (r, h1) := congrArg zv_pjI (zv_sem_of (c := zv_cs zv_prog d) (id := 101) (m := (some 4, mc4_seesAt)) (as := [zv_r a0, zv_i a1]) (h := h) rfl rfl hr rfl e)
theorem lC4_placeOf {d : Nat} {a0 : Nat} {a1 : Int} {h h1 : zv_H} {r : Int} (hr : zv_ob h a0 4) (e : E4_placeOf d a0 a1 h = some (some (zv_i r), h1)) : C4_placeOf (d + 1) a0 a1 h = some (r, h1) := congrArg zv_pjI (zv_sem_of (c := zv_cs zv_prog d) (id := 102) (m := (some 4, mc4_placeOf)) (as := [zv_r a0, zv_i a1]) (h := h) rfl rfl hr rfl e)
theorem lC4_seenUpTo {d : Nat} {a0 : Nat} {a1 : Int} {h h1 : zv_H} {r : Int} (hr : zv_ob h a0 4) (e : E4_seenUpTo d a0 a1 h = some (some (zv_i r), h1)) : C4_seenUpTo (d + 1) a0 a1 h = some (r, h1) := congrArg zv_pjI (zv_sem_of (c := zv_cs zv_prog d) (id := 103) (m := (some 4, mc4_seenUpTo)) (as := [zv_r a0, zv_i a1]) (h := h) rfl rfl hr rfl e)
theorem lC4_outOfForce {d : Nat} {a0 : Nat} {h h1 : zv_H} {r : Int64} (hr : zv_ob h a0 4) (e : E4_outOfForce d a0 h = some (some (zv_j r), h1)) : C4_outOfForce (d + 1) a0 h = some (r, h1) := congrArg zv_pjJ (zv_sem_of (c := zv_cs zv_prog d) (id := 104) (m := (some 4, mc4_outOfForce)) (as := [zv_r a0]) (h := h) rfl rfl hr rfl e)
theorem lC4_cutsInForce {d : Nat} {a0 : Nat} {a1 : Int} {h h1 : zv_H} {r : Int} (hr : zv_ob h a0 4) (e : E4_cutsInForce d a0 a1 h = some (some (zv_i r), h1)) : C4_cutsInForce (d + 1) a0 a1 h = some (r, h1) := congrArg zv_pjI (zv_sem_of (c := zv_cs zv_prog d) (id := 105) (m := (some 4, mc4_cutsInForce)) (as := [zv_r a0, zv_i a1]) (h := h) rfl rfl hr rfl e)
theorem lC4_lastCut {d : Nat} {a0 : Nat} {a1 : Int} {h h1 : zv_H} {r : Int} (hr : zv_ob h a0 4) (e : E4_lastCut d a0 a1 h = some (some (zv_i r), h1)) : C4_lastCut (d + 1) a0 a1 h = some (r, h1) := congrArg zv_pjI (zv_sem_of (c := zv_cs zv_prog d) (id := 106) (m := (some 4, mc4_lastCut)) (as := [zv_r a0, zv_i a1]) (h := h) rfl rfl hr rfl e)
theorem lC4_leaningOn {d : Nat} {a0 : Nat} {a1 : Nat} {h h1 : zv_H} {r : Int64} (hr : zv_ob h a0 4) (e : E4_leaningOn d a0 a1 h = some (some (zv_j r), h1)) : C4_leaningOn (d + 1) a0 a1 h = some (r, h1) := congrArg zv_pjJ (zv_sem_of (c := zv_cs zv_prog d) (id := 107) (m := (some 4, mc4_leaningOn)) (as := [zv_r a0, zv_r a1]) (h := h) rfl rfl hr rfl e)
theorem lC4_groundOf {d : Nat} {a0 : Nat} {a1 : Nat} {h h1 : zv_H} {r : Int64} (hr : zv_ob h a0 4) (e : E4_groundOf d a0 a1 h = some (some (zv_j r), h1)) : C4_groundOf (d + 1) a0 a1 h = some (r, h1) := congrArg zv_pjJ (zv_sem_of (c := zv_cs zv_prog d) (id := 108) (m := (some 4, mc4_groundOf)) (as := [zv_r a0, zv_r a1]) (h := h) rfl rfl hr rfl e)
theorem lC5_init {d : Nat} {a0 : Nat} {a1 : Int} {h h1 : zv_H} (hr : zv_ob h a0 5) (e : E5_init d a0 a1 h = some (none, h1)) : C5_init (d + 1) a0 a1 h = some h1 := congrArg zv_pjV (zv_sem_of (c := zv_cs zv_prog d) (id := 109) (m := (some 5, mc5_init)) (as := [zv_r a0, zv_i a1]) (h := h) rfl rfl hr rfl e)
theorem lC5_open {d : Nat} {a0 : Nat} {a1 : Nat} {a2 : Int} {a3 : Int} {a4 : Int} {h h1 : zv_H} (hr : zv_ob h a0 5) (e : E5_open d a0 a1 a2 a3 a4 h = some (none, h1)) : C5_open (d + 1) a0 a1 a2 a3 a4 h = some h1 := congrArg zv_pjV (zv_sem_of (c := zv_cs zv_prog d) (id := 110) (m := (some 5, mc5_open)) (as := [zv_r a0, zv_r a1, zv_i a2, zv_i a3, zv_i a4]) (h := h) rfl rfl hr rfl e)
theorem lC5_bit {d : Nat} {a0 : Nat} {h h1 : zv_H} {r : Int64} (hr : zv_ob h a0 5) (e : E5_bit d a0 h = some (some (zv_j r), h1)) : C5_bit (d + 1) a0 h = some (r, h1) := congrArg zv_pjJ (zv_sem_of (c := zv_cs zv_prog d) (id := 111) (m := (some 5, mc5_bit)) (as := [zv_r a0]) (h := h) rfl rfl hr rfl e)
theorem lC5_edits {d : Nat} {a0 : Nat} {h h1 : zv_H} {r : Int} (hr : zv_ob h a0 5) (e : E5_edits d a0 h = some (some (zv_i r), h1)) : C5_edits (d + 1) a0 h = some (r, h1) := congrArg zv_pjI (zv_sem_of (c := zv_cs zv_prog d) (id := 112) (m := (some 5, mc5_edits)) (as := [zv_r a0]) (h := h) rfl rfl hr rfl e)
theorem lC5_brings {d : Nat} {a0 : Nat} {h h1 : zv_H} {r : Int} (hr : zv_ob h a0 5) (e : E5_brings d a0 h = some (some (zv_i r), h1)) : C5_brings (d + 1) a0 h = some (r, h1) := congrArg zv_pjI (zv_sem_of (c := zv_cs zv_prog d) (id := 113) (m := (some 5, mc5_brings)) (as := [zv_r a0]) (h := h) rfl rfl hr rfl e)
theorem lC5_idAt {d : Nat} {a0 : Nat} {a1 : Int} {h h1 : zv_H} {r : Int} (hr : zv_ob h a0 5) (e : E5_idAt d a0 a1 h = some (some (zv_i r), h1)) : C5_idAt (d + 1) a0 a1 h = some (r, h1) := congrArg zv_pjI (zv_sem_of (c := zv_cs zv_prog d) (id := 114) (m := (some 5, mc5_idAt)) (as := [zv_r a0, zv_i a1]) (h := h) rfl rfl hr rfl e)
theorem lC5_addId {d : Nat} {a0 : Nat} {a1 : Int} {h h1 : zv_H} (hr : zv_ob h a0 5) (e : E5_addId d a0 a1 h = some (none, h1)) : C5_addId (d + 1) a0 a1 h = some h1 := congrArg zv_pjV (zv_sem_of (c := zv_cs zv_prog d) (id := 115) (m := (some 5, mc5_addId)) (as := [zv_r a0, zv_i a1]) (h := h) rfl rfl hr rfl e)
theorem lC5_tookAt {d : Nat} {a0 : Nat} {a1 : Int} {h h1 : zv_H} {r : Int} (hr : zv_ob h a0 5) (e : E5_tookAt d a0 a1 h = some (some (zv_i r), h1)) : C5_tookAt (d + 1) a0 a1 h = some (r, h1) := congrArg zv_pjI (zv_sem_of (c := zv_cs zv_prog d) (id := 116) (m := (some 5, mc5_tookAt)) (as := [zv_r a0, zv_i a1]) (h := h) rfl rfl hr rfl e)
theorem lC5_tookIt {d : Nat} {a0 : Nat} {a1 : Int} {h h1 : zv_H} {r : Int} (hr : zv_ob h a0 5) (e : E5_tookIt d a0 a1 h = some (some (zv_i r), h1)) : C5_tookIt (d + 1) a0 a1 h = some (r, h1) := congrArg zv_pjI (zv_sem_of (c := zv_cs zv_prog d) (id := 117) (m := (some 5, mc5_tookIt)) (as := [zv_r a0, zv_i a1]) (h := h) rfl rfl hr rfl e)
theorem lC6_init {d : Nat} {a0 : Nat} {h h1 : zv_H} (hr : zv_ob h a0 6) (e : E6_init d a0 h = some (none, h1)) : C6_init (d + 1) a0 h = some h1 := congrArg zv_pjV (zv_sem_of (c := zv_cs zv_prog d) (id := 118) (m := (some 6, mc6_init)) (as := [zv_r a0]) (h := h) rfl rfl hr rfl e)
theorem lC6_add {d : Nat} {a0 : Nat} {a1 : Nat} {a2 : Int} {h h1 : zv_H} (hr : zv_ob h a0 6) (e : E6_add d a0 a1 a2 h = some (none, h1)) : C6_add (d + 1) a0 a1 a2 h = some h1 := congrArg zv_pjV (zv_sem_of (c := zv_cs zv_prog d) (id := 119) (m := (some 6, mc6_add)) (as := [zv_r a0, zv_r a1, zv_i a2]) (h := h) rfl rfl hr rfl e)
theorem lC6_slot {d : Nat} {a0 : Nat} {a1 : Int} {h h1 : zv_H} {r : Int} (hr : zv_ob h a0 6) (e : E6_slot d a0 a1 h = some (some (zv_i r), h1)) : C6_slot (d + 1) a0 a1 h = some (r, h1) := congrArg zv_pjI (zv_sem_of (c := zv_cs zv_prog d) (id := 120) (m := (some 6, mc6_slot)) (as := [zv_r a0, zv_i a1]) (h := h) rfl rfl hr rfl e)
theorem lC6_stateAt {d : Nat} {a0 : Nat} {a1 : Int} {h h1 : zv_H} {r : Int} (hr : zv_ob h a0 6) (e : E6_stateAt d a0 a1 h = some (some (zv_i r), h1)) : C6_stateAt (d + 1) a0 a1 h = some (r, h1) := congrArg zv_pjI (zv_sem_of (c := zv_cs zv_prog d) (id := 121) (m := (some 6, mc6_stateAt)) (as := [zv_r a0, zv_i a1]) (h := h) rfl rfl hr rfl e)
theorem lC6_timeAt {d : Nat} {a0 : Nat} {a1 : Int} {h h1 : zv_H} {r : Int} (hr : zv_ob h a0 6) (e : E6_timeAt d a0 a1 h = some (some (zv_i r), h1)) : C6_timeAt (d + 1) a0 a1 h = some (r, h1) := congrArg zv_pjI (zv_sem_of (c := zv_cs zv_prog d) (id := 122) (m := (some 6, mc6_timeAt)) (as := [zv_r a0, zv_i a1]) (h := h) rfl rfl hr rfl e)
theorem lC6_forget {d : Nat} {a0 : Nat} {a1 : Int} {h h1 : zv_H} (hr : zv_ob h a0 6) (e : E6_forget d a0 a1 h = some (none, h1)) : C6_forget (d + 1) a0 a1 h = some h1 := congrArg zv_pjV (zv_sem_of (c := zv_cs zv_prog d) (id := 123) (m := (some 6, mc6_forget)) (as := [zv_r a0, zv_i a1]) (h := h) rfl rfl hr rfl e)
theorem lC6_keep {d : Nat} {a0 : Nat} {h h1 : zv_H} (hr : zv_ob h a0 6) (e : E6_keep d a0 h = some (none, h1)) : C6_keep (d + 1) a0 h = some h1 := congrArg zv_pjV (zv_sem_of (c := zv_cs zv_prog d) (id := 124) (m := (some 6, mc6_keep)) (as := [zv_r a0]) (h := h) rfl rfl hr rfl e)
theorem lC6_giveBack {d : Nat} {a0 : Nat} {h h1 : zv_H} (hr : zv_ob h a0 6) (e : E6_giveBack d a0 h = some (none, h1)) : C6_giveBack (d + 1) a0 h = some h1 := congrArg zv_pjV (zv_sem_of (c := zv_cs zv_prog d) (id := 125) (m := (some 6, mc6_giveBack)) (as := [zv_r a0]) (h := h) rfl rfl hr rfl e)
theorem lC7_init {d : Nat} {a0 : Nat} {h h1 : zv_H} (hr : zv_ob h a0 7) (e : E7_init d a0 h = some (none, h1)) : C7_init (d + 1) a0 h = some h1 := congrArg zv_pjV (zv_sem_of (c := zv_cs zv_prog d) (id := 126) (m := (some 7, mc7_init)) (as := [zv_r a0]) (h := h) rfl rfl hr rfl e)
theorem lC7_clear {d : Nat} {a0 : Nat} {h h1 : zv_H} (hr : zv_ob h a0 7) (e : E7_clear d a0 h = some (none, h1)) : C7_clear (d + 1) a0 h = some h1 := congrArg zv_pjV (zv_sem_of (c := zv_cs zv_prog d) (id := 127) (m := (some 7, mc7_clear)) (as := [zv_r a0]) (h := h) rfl rfl hr rfl e)
theorem lC7_add {d : Nat} {a0 : Nat} {a1 : Int} {h h1 : zv_H} (hr : zv_ob h a0 7) (e : E7_add d a0 a1 h = some (none, h1)) : C7_add (d + 1) a0 a1 h = some h1 := congrArg zv_pjV (zv_sem_of (c := zv_cs zv_prog d) (id := 128) (m := (some 7, mc7_add)) (as := [zv_r a0, zv_i a1]) (h := h) rfl rfl hr rfl e)
theorem lC7_at {d : Nat} {a0 : Nat} {a1 : Int} {h h1 : zv_H} {r : Int} (hr : zv_ob h a0 7) (e : E7_at d a0 a1 h = some (some (zv_i r), h1)) : C7_at (d + 1) a0 a1 h = some (r, h1) := congrArg zv_pjI (zv_sem_of (c := zv_cs zv_prog d) (id := 129) (m := (some 7, mc7_at)) (as := [zv_r a0, zv_i a1]) (h := h) rfl rfl hr rfl e)
theorem lC7_key {d : Nat} {a0 : Nat} {h h1 : zv_H} {r : Int} (hr : zv_ob h a0 7) (e : E7_key d a0 h = some (some (zv_i r), h1)) : C7_key (d + 1) a0 h = some (r, h1) := congrArg zv_pjI (zv_sem_of (c := zv_cs zv_prog d) (id := 130) (m := (some 7, mc7_key)) (as := [zv_r a0]) (h := h) rfl rfl hr rfl e)
theorem lC8_init {d : Nat} {a0 : Nat} {h h1 : zv_H} (hr : zv_ob h a0 8) (e : E8_init d a0 h = some (none, h1)) : C8_init (d + 1) a0 h = some h1 := congrArg zv_pjV (zv_sem_of (c := zv_cs zv_prog d) (id := 131) (m := (some 8, mc8_init)) (as := [zv_r a0]) (h := h) rfl rfl hr rfl e)
theorem lC8_refused {d : Nat} {a0 : Nat} {a1 : Int} {h h1 : zv_H} {r : Int} (hr : zv_ob h a0 8) (e : E8_refused d a0 a1 h = some (some (zv_i r), h1)) : C8_refused (d + 1) a0 a1 h = some (r, h1) := congrArg zv_pjI (zv_sem_of (c := zv_cs zv_prog d) (id := 132) (m := (some 8, mc8_refused)) (as := [zv_r a0, zv_i a1]) (h := h) rfl rfl hr rfl e)
theorem lC8_given {d : Nat} {a0 : Nat} {a1 : Int} {h h1 : zv_H} {r : Int} (hr : zv_ob h a0 8) (e : E8_given d a0 a1 h = some (some (zv_i r), h1)) : C8_given (d + 1) a0 a1 h = some (r, h1) := congrArg zv_pjI (zv_sem_of (c := zv_cs zv_prog d) (id := 133) (m := (some 8, mc8_given)) (as := [zv_r a0, zv_i a1]) (h := h) rfl rfl hr rfl e)
theorem lC8_answered {d : Nat} {a0 : Nat} {a1 : Int} {h h1 : zv_H} {r : Int} (hr : zv_ob h a0 8) (e : E8_answered d a0 a1 h = some (some (zv_i r), h1)) : C8_answered (d + 1) a0 a1 h = some (r, h1) := congrArg zv_pjI (zv_sem_of (c := zv_cs zv_prog d) (id := 134) (m := (some 8, mc8_answered)) (as := [zv_r a0, zv_i a1]) (h := h) rfl rfl hr rfl e)
theorem lC8_within {d : Nat} {a0 : Int} {a1 : Int} {a2 : Int} {h h1 : zv_H} {r : Int} (e : E8_within d a0 a1 a2 h = some (some (zv_i r), h1)) : C8_within (d + 1) a0 a1 a2 h = some (r, h1) := congrArg zv_pjI (zv_sem_of (c := zv_cs zv_prog d) (id := 135) (m := (none, mc8_within)) (as := [zv_i a0, zv_i a1, zv_i a2]) (h := h) rfl rfl trivial rfl e)
theorem lC8_status {d : Nat} {a0 : Nat} {h h1 : zv_H} {r : Int} (hr : zv_ob h a0 8) (e : E8_status d a0 h = some (some (zv_i r), h1)) : C8_status (d + 1) a0 h = some (r, h1) := congrArg zv_pjI (zv_sem_of (c := zv_cs zv_prog d) (id := 136) (m := (some 8, mc8_status)) (as := [zv_r a0]) (h := h) rfl rfl hr rfl e)
theorem lC8_feed {d : Nat} {a0 : Nat} {a1 : Int} {a2 : Int} {a3 : Int} {a4 : Int} {a5 : Int} {h h1 : zv_H} {r : Int} (hr : zv_ob h a0 8) (e : E8_feed d a0 a1 a2 a3 a4 a5 h = some (some (zv_i r), h1)) : C8_feed (d + 1) a0 a1 a2 a3 a4 a5 h = some (r, h1) := congrArg zv_pjI (zv_sem_of (c := zv_cs zv_prog d) (id := 137) (m := (some 8, mc8_feed)) (as := [zv_r a0, zv_i a1, zv_i a2, zv_i a3, zv_i a4, zv_i a5]) (h := h) rfl rfl hr rfl e)
theorem lC8_feedInt {d : Nat} {a0 : Nat} {a1 : Int} {h h1 : zv_H} (hr : zv_ob h a0 8) (e : E8_feedInt d a0 a1 h = some (none, h1)) : C8_feedInt (d + 1) a0 a1 h = some h1 := congrArg zv_pjV (zv_sem_of (c := zv_cs zv_prog d) (id := 138) (m := (some 8, mc8_feedInt)) (as := [zv_r a0, zv_i a1]) (h := h) rfl rfl hr rfl e)
theorem lC8_fault {d : Nat} {a0 : Nat} {a1 : Int} {h h1 : zv_H} {r : Int} (hr : zv_ob h a0 8) (e : E8_fault d a0 a1 h = some (some (zv_i r), h1)) : C8_fault (d + 1) a0 a1 h = some (r, h1) := congrArg zv_pjI (zv_sem_of (c := zv_cs zv_prog d) (id := 139) (m := (some 8, mc8_fault)) (as := [zv_r a0, zv_i a1]) (h := h) rfl rfl hr rfl e)
theorem lC8_type {d : Nat} {a0 : Nat} {a1 : Int} {a2 : Int} {h h1 : zv_H} {r : Int} (hr : zv_ob h a0 8) (e : E8_type d a0 a1 a2 h = some (some (zv_i r), h1)) : C8_type (d + 1) a0 a1 a2 h = some (r, h1) := congrArg zv_pjI (zv_sem_of (c := zv_cs zv_prog d) (id := 140) (m := (some 8, mc8_type)) (as := [zv_r a0, zv_i a1, zv_i a2]) (h := h) rfl rfl hr rfl e)
theorem lC8_typedLetter {d : Nat} {a0 : Int} {a1 : Int} {a2 : Int} {h h1 : zv_H} {r : Int} (e : E8_typedLetter d a0 a1 a2 h = some (some (zv_i r), h1)) : C8_typedLetter (d + 1) a0 a1 a2 h = some (r, h1) := congrArg zv_pjI (zv_sem_of (c := zv_cs zv_prog d) (id := 141) (m := (none, mc8_typedLetter)) (as := [zv_i a0, zv_i a1, zv_i a2]) (h := h) rfl rfl trivial rfl e)
theorem lC8_load {d : Nat} {a0 : Nat} {a1 : Int} {h h1 : zv_H} {r : Int} (hr : zv_ob h a0 8) (e : E8_load d a0 a1 h = some (some (zv_i r), h1)) : C8_load (d + 1) a0 a1 h = some (r, h1) := congrArg zv_pjI (zv_sem_of (c := zv_cs zv_prog d) (id := 142) (m := (some 8, mc8_load)) (as := [zv_r a0, zv_i a1]) (h := h) rfl rfl hr rfl e)
theorem lC8_done {d : Nat} {a0 : Nat} {a1 : Nat} {h h1 : zv_H} {r : Int} (hr : zv_ob h a0 8) (e : E8_done d a0 a1 h = some (some (zv_i r), h1)) : C8_done (d + 1) a0 a1 h = some (r, h1) := congrArg zv_pjI (zv_sem_of (c := zv_cs zv_prog d) (id := 143) (m := (some 8, mc8_done)) (as := [zv_r a0, zv_r a1]) (h := h) rfl rfl hr rfl e)
theorem lC8_many {d : Nat} {a0 : Nat} {a1 : Int} {h h1 : zv_H} {r : Int} (hr : zv_ob h a0 8) (e : E8_many d a0 a1 h = some (some (zv_i r), h1)) : C8_many (d + 1) a0 a1 h = some (r, h1) := congrArg zv_pjI (zv_sem_of (c := zv_cs zv_prog d) (id := 144) (m := (some 8, mc8_many)) (as := [zv_r a0, zv_i a1]) (h := h) rfl rfl hr rfl e)
theorem lC8_letter {d : Nat} {a0 : Nat} {a1 : Int} {a2 : Int} {h h1 : zv_H} {r : Int} (hr : zv_ob h a0 8) (e : E8_letter d a0 a1 a2 h = some (some (zv_i r), h1)) : C8_letter (d + 1) a0 a1 a2 h = some (r, h1) := congrArg zv_pjI (zv_sem_of (c := zv_cs zv_prog d) (id := 145) (m := (some 8, mc8_letter)) (as := [zv_r a0, zv_i a1, zv_i a2]) (h := h) rfl rfl hr rfl e)
theorem lC8_state {d : Nat} {a0 : Nat} {a1 : Int} {a2 : Int} {h h1 : zv_H} {r : Int} (hr : zv_ob h a0 8) (e : E8_state d a0 a1 a2 h = some (some (zv_i r), h1)) : C8_state (d + 1) a0 a1 a2 h = some (r, h1) := congrArg zv_pjI (zv_sem_of (c := zv_cs zv_prog d) (id := 146) (m := (some 8, mc8_state)) (as := [zv_r a0, zv_i a1, zv_i a2]) (h := h) rfl rfl hr rfl e)
theorem lC8_child {d : Nat} {a0 : Nat} {a1 : Int} {a2 : Int} {h h1 : zv_H} {r : Int} (hr : zv_ob h a0 8) (e : E8_child d a0 a1 a2 h = some (some (zv_i r), h1)) : C8_child (d + 1) a0 a1 a2 h = some (r, h1) := congrArg zv_pjI (zv_sem_of (c := zv_cs zv_prog d) (id := 147) (m := (some 8, mc8_child)) (as := [zv_r a0, zv_i a1, zv_i a2]) (h := h) rfl rfl hr rfl e)
theorem lC8_force {d : Nat} {a0 : Nat} {a1 : Int} {a2 : Int} {h h1 : zv_H} {r : Int} (hr : zv_ob h a0 8) (e : E8_force d a0 a1 a2 h = some (some (zv_i r), h1)) : C8_force (d + 1) a0 a1 a2 h = some (r, h1) := congrArg zv_pjI (zv_sem_of (c := zv_cs zv_prog d) (id := 148) (m := (some 8, mc8_force)) (as := [zv_r a0, zv_i a1, zv_i a2]) (h := h) rfl rfl hr rfl e)
theorem lC8_blame {d : Nat} {a0 : Nat} {a1 : Int} {a2 : Int} {h h1 : zv_H} {r : Int} (hr : zv_ob h a0 8) (e : E8_blame d a0 a1 a2 h = some (some (zv_i r), h1)) : C8_blame (d + 1) a0 a1 a2 h = some (r, h1) := congrArg zv_pjI (zv_sem_of (c := zv_cs zv_prog d) (id := 149) (m := (some 8, mc8_blame)) (as := [zv_r a0, zv_i a1, zv_i a2]) (h := h) rfl rfl hr rfl e)
theorem lC8_row {d : Nat} {a0 : Nat} {a1 : Int} {a2 : Int} {h h1 : zv_H} {r : Int} (hr : zv_ob h a0 8) (e : E8_row d a0 a1 a2 h = some (some (zv_i r), h1)) : C8_row (d + 1) a0 a1 a2 h = some (r, h1) := congrArg zv_pjI (zv_sem_of (c := zv_cs zv_prog d) (id := 150) (m := (some 8, mc8_row)) (as := [zv_r a0, zv_i a1, zv_i a2]) (h := h) rfl rfl hr rfl e)
theorem lC8_visit {d : Nat} {a0 : Nat} {a1 : Int} {a2 : Int} {h h1 : zv_H} {r : Int} (hr : zv_ob h a0 8) (e : E8_visit d a0 a1 a2 h = some (some (zv_i r), h1)) : C8_visit (d + 1) a0 a1 a2 h = some (r, h1) := congrArg zv_pjI (zv_sem_of (c := zv_cs zv_prog d) (id := 151) (m := (some 8, mc8_visit)) (as := [zv_r a0, zv_i a1, zv_i a2]) (h := h) rfl rfl hr rfl e)
theorem lC8_named {d : Nat} {a0 : Nat} {h h1 : zv_H} {r : Int} (hr : zv_ob h a0 8) (e : E8_named d a0 h = some (some (zv_i r), h1)) : C8_named (d + 1) a0 h = some (r, h1) := congrArg zv_pjI (zv_sem_of (c := zv_cs zv_prog d) (id := 152) (m := (some 8, mc8_named)) (as := [zv_r a0]) (h := h) rfl rfl hr rfl e)
theorem lC8_leans {d : Nat} {a0 : Nat} {a1 : Int} {a2 : Int} {h h1 : zv_H} {r : Int} (hr : zv_ob h a0 8) (e : E8_leans d a0 a1 a2 h = some (some (zv_i r), h1)) : C8_leans (d + 1) a0 a1 a2 h = some (r, h1) := congrArg zv_pjI (zv_sem_of (c := zv_cs zv_prog d) (id := 153) (m := (some 8, mc8_leans)) (as := [zv_r a0, zv_i a1, zv_i a2]) (h := h) rfl rfl hr rfl e)
theorem lC8_put {d : Nat} {a0 : Nat} {a1 : Int} {h h1 : zv_H} {r : Int} (hr : zv_ob h a0 8) (e : E8_put d a0 a1 h = some (some (zv_i r), h1)) : C8_put (d + 1) a0 a1 h = some (r, h1) := congrArg zv_pjI (zv_sem_of (c := zv_cs zv_prog d) (id := 154) (m := (some 8, mc8_put)) (as := [zv_r a0, zv_i a1]) (h := h) rfl rfl hr rfl e)
theorem lC8_cut {d : Nat} {a0 : Nat} {a1 : Int} {a2 : Int} {h h1 : zv_H} {r : Int} (hr : zv_ob h a0 8) (e : E8_cut d a0 a1 a2 h = some (some (zv_i r), h1)) : C8_cut (d + 1) a0 a1 a2 h = some (r, h1) := congrArg zv_pjI (zv_sem_of (c := zv_cs zv_prog d) (id := 155) (m := (some 8, mc8_cut)) (as := [zv_r a0, zv_i a1, zv_i a2]) (h := h) rfl rfl hr rfl e)
theorem lC8_wait {d : Nat} {a0 : Nat} {a1 : Int} {h h1 : zv_H} {r : Int} (hr : zv_ob h a0 8) (e : E8_wait d a0 a1 h = some (some (zv_i r), h1)) : C8_wait (d + 1) a0 a1 h = some (r, h1) := congrArg zv_pjI (zv_sem_of (c := zv_cs zv_prog d) (id := 156) (m := (some 8, mc8_wait)) (as := [zv_r a0, zv_i a1]) (h := h) rfl rfl hr rfl e)
theorem lC8_undo {d : Nat} {a0 : Nat} {h h1 : zv_H} {r : Int} (hr : zv_ob h a0 8) (e : E8_undo d a0 h = some (some (zv_i r), h1)) : C8_undo (d + 1) a0 h = some (r, h1) := congrArg zv_pjI (zv_sem_of (c := zv_cs zv_prog d) (id := 157) (m := (some 8, mc8_undo)) (as := [zv_r a0]) (h := h) rfl rfl hr rfl e)
theorem lC8_redo {d : Nat} {a0 : Nat} {h h1 : zv_H} {r : Int} (hr : zv_ob h a0 8) (e : E8_redo d a0 h = some (some (zv_i r), h1)) : C8_redo (d + 1) a0 h = some (r, h1) := congrArg zv_pjI (zv_sem_of (c := zv_cs zv_prog d) (id := 158) (m := (some 8, mc8_redo)) (as := [zv_r a0]) (h := h) rfl rfl hr rfl e)
theorem lC8_go {d : Nat} {a0 : Nat} {a1 : Int} {h h1 : zv_H} {r : Int} (hr : zv_ob h a0 8) (e : E8_go d a0 a1 h = some (some (zv_i r), h1)) : C8_go (d + 1) a0 a1 h = some (r, h1) := congrArg zv_pjI (zv_sem_of (c := zv_cs zv_prog d) (id := 159) (m := (some 8, mc8_go)) (as := [zv_r a0, zv_i a1]) (h := h) rfl rfl hr rfl e)
theorem lC8_name {d : Nat} {a0 : Nat} {h h1 : zv_H} {r : Int} (hr : zv_ob h a0 8) (e : E8_name d a0 h = some (some (zv_i r), h1)) : C8_name (d + 1) a0 h = some (r, h1) := congrArg zv_pjI (zv_sem_of (c := zv_cs zv_prog d) (id := 160) (m := (some 8, mc8_name)) (as := [zv_r a0]) (h := h) rfl rfl hr rfl e)
theorem lC8_unname {d : Nat} {a0 : Nat} {h h1 : zv_H} {r : Int} (hr : zv_ob h a0 8) (e : E8_unname d a0 h = some (some (zv_i r), h1)) : C8_unname (d + 1) a0 h = some (r, h1) := congrArg zv_pjI (zv_sem_of (c := zv_cs zv_prog d) (id := 161) (m := (some 8, mc8_unname)) (as := [zv_r a0]) (h := h) rfl rfl hr rfl e)
theorem lC8_withdraw {d : Nat} {a0 : Nat} {a1 : Int} {h h1 : zv_H} {r : Int} (hr : zv_ob h a0 8) (e : E8_withdraw d a0 a1 h = some (some (zv_i r), h1)) : C8_withdraw (d + 1) a0 a1 h = some (r, h1) := congrArg zv_pjI (zv_sem_of (c := zv_cs zv_prog d) (id := 162) (m := (some 8, mc8_withdraw)) (as := [zv_r a0, zv_i a1]) (h := h) rfl rfl hr rfl e)
theorem lC8_restore {d : Nat} {a0 : Nat} {a1 : Int} {h h1 : zv_H} {r : Int} (hr : zv_ob h a0 8) (e : E8_restore d a0 a1 h = some (some (zv_i r), h1)) : C8_restore (d + 1) a0 a1 h = some (r, h1) := congrArg zv_pjI (zv_sem_of (c := zv_cs zv_prog d) (id := 163) (m := (some 8, mc8_restore)) (as := [zv_r a0, zv_i a1]) (h := h) rfl rfl hr rfl e)
theorem lC8_carry {d : Nat} {a0 : Nat} {a1 : Int} {h h1 : zv_H} {r : Int} (hr : zv_ob h a0 8) (e : E8_carry d a0 a1 h = some (some (zv_i r), h1)) : C8_carry (d + 1) a0 a1 h = some (r, h1) := congrArg zv_pjI (zv_sem_of (c := zv_cs zv_prog d) (id := 164) (m := (some 8, mc8_carry)) (as := [zv_r a0, zv_i a1]) (h := h) rfl rfl hr rfl e)
theorem lC8_merge {d : Nat} {a0 : Nat} {a1 : Int} {h h1 : zv_H} {r : Int} (hr : zv_ob h a0 8) (e : E8_merge d a0 a1 h = some (some (zv_i r), h1)) : C8_merge (d + 1) a0 a1 h = some (r, h1) := congrArg zv_pjI (zv_sem_of (c := zv_cs zv_prog d) (id := 165) (m := (some 8, mc8_merge)) (as := [zv_r a0, zv_i a1]) (h := h) rfl rfl hr rfl e)
theorem lC8_prune {d : Nat} {a0 : Nat} {a1 : Int} {h h1 : zv_H} {r : Int} (hr : zv_ob h a0 8) (e : E8_prune d a0 a1 h = some (some (zv_i r), h1)) : C8_prune (d + 1) a0 a1 h = some (r, h1) := congrArg zv_pjI (zv_sem_of (c := zv_cs zv_prog d) (id := 166) (m := (some 8, mc8_prune)) (as := [zv_r a0, zv_i a1]) (h := h) rfl rfl hr rfl e)
theorem lC8_common {d : Nat} {a0 : Nat} {a1 : Int} {a2 : Int} {h h1 : zv_H} {r : Int} (hr : zv_ob h a0 8) (e : E8_common d a0 a1 a2 h = some (some (zv_i r), h1)) : C8_common (d + 1) a0 a1 a2 h = some (r, h1) := congrArg zv_pjI (zv_sem_of (c := zv_cs zv_prog d) (id := 167) (m := (some 8, mc8_common)) (as := [zv_r a0, zv_i a1, zv_i a2]) (h := h) rfl rfl hr rfl e)
theorem lC8_way {d : Nat} {a0 : Nat} {a1 : Int} {a2 : Int} {a3 : Int} {h h1 : zv_H} {r : Int} (hr : zv_ob h a0 8) (e : E8_way d a0 a1 a2 a3 h = some (some (zv_i r), h1)) : C8_way (d + 1) a0 a1 a2 a3 h = some (r, h1) := congrArg zv_pjI (zv_sem_of (c := zv_cs zv_prog d) (id := 168) (m := (some 8, mc8_way)) (as := [zv_r a0, zv_i a1, zv_i a2, zv_i a3]) (h := h) rfl rfl hr rfl e)
theorem lC8_between {d : Nat} {a0 : Nat} {a1 : Int} {a2 : Int} {a3 : Int} {h h1 : zv_H} {r : Int} (hr : zv_ob h a0 8) (e : E8_between d a0 a1 a2 a3 h = some (some (zv_i r), h1)) : C8_between (d + 1) a0 a1 a2 a3 h = some (r, h1) := congrArg zv_pjI (zv_sem_of (c := zv_cs zv_prog d) (id := 169) (m := (some 8, mc8_between)) (as := [zv_r a0, zv_i a1, zv_i a2, zv_i a3]) (h := h) rfl rfl hr rfl e)
theorem lC8_least {d : Nat} {a0 : Nat} {a1 : Int} {a2 : Int} {h h1 : zv_H} {r : Int} (hr : zv_ob h a0 8) (e : E8_least d a0 a1 a2 h = some (some (zv_i r), h1)) : C8_least (d + 1) a0 a1 a2 h = some (r, h1) := congrArg zv_pjI (zv_sem_of (c := zv_cs zv_prog d) (id := 170) (m := (some 8, mc8_least)) (as := [zv_r a0, zv_i a1, zv_i a2]) (h := h) rfl rfl hr rfl e)
theorem lC8_merges {d : Nat} {a0 : Nat} {a1 : Int} {a2 : Int} {h h1 : zv_H} {r : Int} (hr : zv_ob h a0 8) (e : E8_merges d a0 a1 a2 h = some (some (zv_i r), h1)) : C8_merges (d + 1) a0 a1 a2 h = some (r, h1) := congrArg zv_pjI (zv_sem_of (c := zv_cs zv_prog d) (id := 171) (m := (some 8, mc8_merges)) (as := [zv_r a0, zv_i a1, zv_i a2]) (h := h) rfl rfl hr rfl e)
theorem lC8_tell {d : Nat} {a0 : Nat} {a1 : Int} {h h1 : zv_H} {r : Int} (hr : zv_ob h a0 8) (e : E8_tell d a0 a1 h = some (some (zv_i r), h1)) : C8_tell (d + 1) a0 a1 h = some (r, h1) := congrArg zv_pjI (zv_sem_of (c := zv_cs zv_prog d) (id := 172) (m := (some 8, mc8_tell)) (as := [zv_r a0, zv_i a1]) (h := h) rfl rfl hr rfl e)
theorem lC8_tellDocument {d : Nat} {a0 : Nat} {h h1 : zv_H} (hr : zv_ob h a0 8) (e : E8_tellDocument d a0 h = some (none, h1)) : C8_tellDocument (d + 1) a0 h = some h1 := congrArg zv_pjV (zv_sem_of (c := zv_cs zv_prog d) (id := 173) (m := (some 8, mc8_tellDocument)) (as := [zv_r a0]) (h := h) rfl rfl hr rfl e)
theorem lC8_tellLine {d : Nat} {a0 : Nat} {h h1 : zv_H} (hr : zv_ob h a0 8) (e : E8_tellLine d a0 h = some (none, h1)) : C8_tellLine (d + 1) a0 h = some h1 := congrArg zv_pjV (zv_sem_of (c := zv_cs zv_prog d) (id := 174) (m := (some 8, mc8_tellLine)) (as := [zv_r a0]) (h := h) rfl rfl hr rfl e)
theorem lC8_tellNames {d : Nat} {a0 : Nat} {h h1 : zv_H} (hr : zv_ob h a0 8) (e : E8_tellNames d a0 h = some (none, h1)) : C8_tellNames (d + 1) a0 h = some h1 := congrArg zv_pjV (zv_sem_of (c := zv_cs zv_prog d) (id := 175) (m := (some 8, mc8_tellNames)) (as := [zv_r a0]) (h := h) rfl rfl hr rfl e)
theorem lC8_tellNumber {d : Nat} {a0 : Nat} {a1 : Int} {h h1 : zv_H} (hr : zv_ob h a0 8) (e : E8_tellNumber d a0 a1 h = some (none, h1)) : C8_tellNumber (d + 1) a0 a1 h = some h1 := congrArg zv_pjV (zv_sem_of (c := zv_cs zv_prog d) (id := 176) (m := (some 8, mc8_tellNumber)) (as := [zv_r a0, zv_i a1]) (h := h) rfl rfl hr rfl e)
theorem lC8_tellByte {d : Nat} {a0 : Nat} {a1 : Int} {h h1 : zv_H} (hr : zv_ob h a0 8) (e : E8_tellByte d a0 a1 h = some (none, h1)) : C8_tellByte (d + 1) a0 a1 h = some h1 := congrArg zv_pjV (zv_sem_of (c := zv_cs zv_prog d) (id := 177) (m := (some 8, mc8_tellByte)) (as := [zv_r a0, zv_i a1]) (h := h) rfl rfl hr rfl e)
theorem lC8_out {d : Nat} {a0 : Nat} {a1 : Int} {h h1 : zv_H} {r : Int} (hr : zv_ob h a0 8) (e : E8_out d a0 a1 h = some (some (zv_i r), h1)) : C8_out (d + 1) a0 a1 h = some (r, h1) := congrArg zv_pjI (zv_sem_of (c := zv_cs zv_prog d) (id := 178) (m := (some 8, mc8_out)) (as := [zv_r a0, zv_i a1]) (h := h) rfl rfl hr rfl e)
theorem lC8_leaning {d : Nat} {a0 : Nat} {a1 : Int} {a2 : Int} {h h1 : zv_H} {r : Int} (hr : zv_ob h a0 8) (e : E8_leaning d a0 a1 a2 h = some (some (zv_i r), h1)) : C8_leaning (d + 1) a0 a1 a2 h = some (r, h1) := congrArg zv_pjI (zv_sem_of (c := zv_cs zv_prog d) (id := 179) (m := (some 8, mc8_leaning)) (as := [zv_r a0, zv_i a1, zv_i a2]) (h := h) rfl rfl hr rfl e)
theorem lC8_find {d : Nat} {a0 : Nat} {a1 : Int} {h h1 : zv_H} {r : Int} (hr : zv_ob h a0 8) (e : E8_find d a0 a1 h = some (some (zv_i r), h1)) : C8_find (d + 1) a0 a1 h = some (r, h1) := congrArg zv_pjI (zv_sem_of (c := zv_cs zv_prog d) (id := 180) (m := (some 8, mc8_find)) (as := [zv_r a0, zv_i a1]) (h := h) rfl rfl hr rfl e)
theorem lC8_first {d : Nat} {a0 : Nat} {h h1 : zv_H} {r : Int} (hr : zv_ob h a0 8) (e : E8_first d a0 h = some (some (zv_i r), h1)) : C8_first (d + 1) a0 h = some (r, h1) := congrArg zv_pjI (zv_sem_of (c := zv_cs zv_prog d) (id := 181) (m := (some 8, mc8_first)) (as := [zv_r a0]) (h := h) rfl rfl hr rfl e)
theorem lC8_twin {d : Nat} {a0 : Nat} {a1 : Int} {h h1 : zv_H} {r : Int} (hr : zv_ob h a0 8) (e : E8_twin d a0 a1 h = some (some (zv_i r), h1)) : C8_twin (d + 1) a0 a1 h = some (r, h1) := congrArg zv_pjI (zv_sem_of (c := zv_cs zv_prog d) (id := 182) (m := (some 8, mc8_twin)) (as := [zv_r a0, zv_i a1]) (h := h) rfl rfl hr rfl e)
theorem lC8_back {d : Nat} {a0 : Nat} {a1 : Int} {h h1 : zv_H} {r : Int} (hr : zv_ob h a0 8) (e : E8_back d a0 a1 h = some (some (zv_i r), h1)) : C8_back (d + 1) a0 a1 h = some (r, h1) := congrArg zv_pjI (zv_sem_of (c := zv_cs zv_prog d) (id := 183) (m := (some 8, mc8_back)) (as := [zv_r a0, zv_i a1]) (h := h) rfl rfl hr rfl e)
theorem lC9_init {d : Nat} {a0 : Nat} {h h1 : zv_H} (hr : zv_ob h a0 9) (e : E9_init d a0 h = some (none, h1)) : C9_init (d + 1) a0 h = some h1 := congrArg zv_pjV (zv_sem_of (c := zv_cs zv_prog d) (id := 184) (m := (some 9, mc9_init)) (as := [zv_r a0]) (h := h) rfl rfl hr rfl e)
theorem lC9_status {d : Nat} {a0 : Nat} {h h1 : zv_H} {r : Int} (hr : zv_ob h a0 9) (e : E9_status d a0 h = some (some (zv_i r), h1)) : C9_status (d + 1) a0 h = some (r, h1) := congrArg zv_pjI (zv_sem_of (c := zv_cs zv_prog d) (id := 185) (m := (some 9, mc9_status)) (as := [zv_r a0]) (h := h) rfl rfl hr rfl e)
theorem lC9_refuse {d : Nat} {a0 : Nat} {a1 : Int} {h h1 : zv_H} {r : Int} (hr : zv_ob h a0 9) (e : E9_refuse d a0 a1 h = some (some (zv_i r), h1)) : C9_refuse (d + 1) a0 a1 h = some (r, h1) := congrArg zv_pjI (zv_sem_of (c := zv_cs zv_prog d) (id := 186) (m := (some 9, mc9_refuse)) (as := [zv_r a0, zv_i a1]) (h := h) rfl rfl hr rfl e)
theorem lC9_is {d : Nat} {a0 : Nat} {a1 : Int} {h h1 : zv_H} {r : Int} (hr : zv_ob h a0 9) (e : E9_is d a0 a1 h = some (some (zv_i r), h1)) : C9_is (d + 1) a0 a1 h = some (r, h1) := congrArg zv_pjI (zv_sem_of (c := zv_cs zv_prog d) (id := 187) (m := (some 9, mc9_is)) (as := [zv_r a0, zv_i a1]) (h := h) rfl rfl hr rfl e)
theorem lC9_isIn {d : Nat} {a0 : Int} {a1 : Int} {a2 : Int} {h h1 : zv_H} {r : Int} (e : E9_isIn d a0 a1 a2 h = some (some (zv_i r), h1)) : C9_isIn (d + 1) a0 a1 a2 h = some (r, h1) := congrArg zv_pjI (zv_sem_of (c := zv_cs zv_prog d) (id := 188) (m := (none, mc9_isIn)) (as := [zv_i a0, zv_i a1, zv_i a2]) (h := h) rfl rfl trivial rfl e)
theorem lC9_clears {d : Nat} {a0 : Nat} {h h1 : zv_H} (hr : zv_ob h a0 9) (e : E9_clears d a0 h = some (none, h1)) : C9_clears (d + 1) a0 h = some h1 := congrArg zv_pjV (zv_sem_of (c := zv_cs zv_prog d) (id := 189) (m := (some 9, mc9_clears)) (as := [zv_r a0]) (h := h) rfl rfl hr rfl e)
theorem lC9_of {d : Nat} {a0 : Nat} {a1 : Int} {a2 : Int} {h h1 : zv_H} {r : Int} (hr : zv_ob h a0 9) (e : E9_of d a0 a1 a2 h = some (some (zv_i r), h1)) : C9_of (d + 1) a0 a1 a2 h = some (r, h1) := congrArg zv_pjI (zv_sem_of (c := zv_cs zv_prog d) (id := 190) (m := (some 9, mc9_of)) (as := [zv_r a0, zv_i a1, zv_i a2]) (h := h) rfl rfl hr rfl e)
theorem lC9_sets {d : Nat} {a0 : Nat} {a1 : Int} {a2 : Int} {a3 : Int} {h h1 : zv_H} (hr : zv_ob h a0 9) (e : E9_sets d a0 a1 a2 a3 h = some (none, h1)) : C9_sets (d + 1) a0 a1 a2 a3 h = some h1 := congrArg zv_pjV (zv_sem_of (c := zv_cs zv_prog d) (id := 191) (m := (some 9, mc9_sets)) (as := [zv_r a0, zv_i a1, zv_i a2, zv_i a3]) (h := h) rfl rfl hr rfl e)
theorem lC9_isState {d : Nat} {a0 : Nat} {a1 : Int} {h h1 : zv_H} {r : Int} (hr : zv_ob h a0 9) (e : E9_isState d a0 a1 h = some (some (zv_i r), h1)) : C9_isState (d + 1) a0 a1 h = some (r, h1) := congrArg zv_pjI (zv_sem_of (c := zv_cs zv_prog d) (id := 192) (m := (some 9, mc9_isState)) (as := [zv_r a0, zv_i a1]) (h := h) rfl rfl hr rfl e)
theorem lC9_isEdit {d : Nat} {a0 : Nat} {a1 : Int} {h h1 : zv_H} {r : Int} (hr : zv_ob h a0 9) (e : E9_isEdit d a0 a1 h = some (some (zv_i r), h1)) : C9_isEdit (d + 1) a0 a1 h = some (r, h1) := congrArg zv_pjI (zv_sem_of (c := zv_cs zv_prog d) (id := 193) (m := (some 9, mc9_isEdit)) (as := [zv_r a0, zv_i a1]) (h := h) rfl rfl hr rfl e)
theorem lC9_here {d : Nat} {a0 : Nat} {h h1 : zv_H} {r : Int} (hr : zv_ob h a0 9) (e : E9_here d a0 h = some (some (zv_i r), h1)) : C9_here (d + 1) a0 h = some (r, h1) := congrArg zv_pjI (zv_sem_of (c := zv_cs zv_prog d) (id := 194) (m := (some 9, mc9_here)) (as := [zv_r a0]) (h := h) rfl rfl hr rfl e)
theorem lC9_states {d : Nat} {a0 : Nat} {h h1 : zv_H} {r : Int} (hr : zv_ob h a0 9) (e : E9_states d a0 h = some (some (zv_i r), h1)) : C9_states (d + 1) a0 h = some (r, h1) := congrArg zv_pjI (zv_sem_of (c := zv_cs zv_prog d) (id := 195) (m := (some 9, mc9_states)) (as := [zv_r a0]) (h := h) rfl rfl hr rfl e)
theorem lC9_names {d : Nat} {a0 : Nat} {a1 : Int} {a2 : Int} {h h1 : zv_H} {r : Int} (hr : zv_ob h a0 9) (e : E9_names d a0 a1 a2 h = some (some (zv_i r), h1)) : C9_names (d + 1) a0 a1 a2 h = some (r, h1) := congrArg zv_pjI (zv_sem_of (c := zv_cs zv_prog d) (id := 196) (m := (some 9, mc9_names)) (as := [zv_r a0, zv_i a1, zv_i a2]) (h := h) rfl rfl hr rfl e)
theorem lC9_namesToo {d : Nat} {a0 : Nat} {a1 : Int} {a2 : Int} {h h1 : zv_H} (hr : zv_ob h a0 9) (e : E9_namesToo d a0 a1 a2 h = some (none, h1)) : C9_namesToo (d + 1) a0 a1 a2 h = some h1 := congrArg zv_pjV (zv_sem_of (c := zv_cs zv_prog d) (id := 197) (m := (some 9, mc9_namesToo)) (as := [zv_r a0, zv_i a1, zv_i a2]) (h := h) rfl rfl hr rfl e)
theorem lC9_isOfLine {d : Nat} {a0 : Nat} {a1 : Int} {a2 : Int} {h h1 : zv_H} {r : Int} (hr : zv_ob h a0 9) (e : E9_isOfLine d a0 a1 a2 h = some (some (zv_i r), h1)) : C9_isOfLine (d + 1) a0 a1 a2 h = some (r, h1) := congrArg zv_pjI (zv_sem_of (c := zv_cs zv_prog d) (id := 198) (m := (some 9, mc9_isOfLine)) (as := [zv_r a0, zv_i a1, zv_i a2]) (h := h) rfl rfl hr rfl e)
theorem lC9_depthOf {d : Nat} {a0 : Nat} {a1 : Int} {h h1 : zv_H} {r : Int} (hr : zv_ob h a0 9) (e : E9_depthOf d a0 a1 h = some (some (zv_i r), h1)) : C9_depthOf (d + 1) a0 a1 h = some (r, h1) := congrArg zv_pjI (zv_sem_of (c := zv_cs zv_prog d) (id := 199) (m := (some 9, mc9_depthOf)) (as := [zv_r a0, zv_i a1]) (h := h) rfl rfl hr rfl e)
theorem lC9_rowOf {d : Nat} {a0 : Nat} {a1 : Int} {a2 : Int} {h h1 : zv_H} {r : Int} (hr : zv_ob h a0 9) (e : E9_rowOf d a0 a1 a2 h = some (some (zv_i r), h1)) : C9_rowOf (d + 1) a0 a1 a2 h = some (r, h1) := congrArg zv_pjI (zv_sem_of (c := zv_cs zv_prog d) (id := 200) (m := (some 9, mc9_rowOf)) (as := [zv_r a0, zv_i a1, zv_i a2]) (h := h) rfl rfl hr rfl e)
theorem lC9_letsIn {d : Nat} {a0 : Nat} {a1 : Int} {h h1 : zv_H} (hr : zv_ob h a0 9) (e : E9_letsIn d a0 a1 h = some (none, h1)) : C9_letsIn (d + 1) a0 a1 h = some h1 := congrArg zv_pjV (zv_sem_of (c := zv_cs zv_prog d) (id := 201) (m := (some 9, mc9_letsIn)) (as := [zv_r a0, zv_i a1]) (h := h) rfl rfl hr rfl e)
theorem lC9_turns {d : Nat} {a0 : Nat} {a1 : Int} {h h1 : zv_H} (hr : zv_ob h a0 9) (e : E9_turns d a0 a1 h = some (none, h1)) : C9_turns (d + 1) a0 a1 h = some h1 := congrArg zv_pjV (zv_sem_of (c := zv_cs zv_prog d) (id := 202) (m := (some 9, mc9_turns)) (as := [zv_r a0, zv_i a1]) (h := h) rfl rfl hr rfl e)
theorem lC9_sees {d : Nat} {a0 : Nat} {a1 : Int} {h h1 : zv_H} (hr : zv_ob h a0 9) (e : E9_sees d a0 a1 h = some (none, h1)) : C9_sees (d + 1) a0 a1 h = some h1 := congrArg zv_pjV (zv_sem_of (c := zv_cs zv_prog d) (id := 203) (m := (some 9, mc9_sees)) (as := [zv_r a0, zv_i a1]) (h := h) rfl rfl hr rfl e)
theorem lC9_rowPlace {d : Nat} {a0 : Nat} {a1 : Int} {h h1 : zv_H} {r : Int} (hr : zv_ob h a0 9) (e : E9_rowPlace d a0 a1 h = some (some (zv_i r), h1)) : C9_rowPlace (d + 1) a0 a1 h = some (r, h1) := congrArg zv_pjI (zv_sem_of (c := zv_cs zv_prog d) (id := 204) (m := (some 9, mc9_rowPlace)) (as := [zv_r a0, zv_i a1]) (h := h) rfl rfl hr rfl e)
theorem lC9_letterIn {d : Nat} {a0 : Nat} {a1 : Int} {h h1 : zv_H} {r : Int} (hr : zv_ob h a0 9) (e : E9_letterIn d a0 a1 h = some (some (zv_i r), h1)) : C9_letterIn (d + 1) a0 a1 h = some (r, h1) := congrArg zv_pjI (zv_sem_of (c := zv_cs zv_prog d) (id := 205) (m := (some 9, mc9_letterIn)) (as := [zv_r a0, zv_i a1]) (h := h) rfl rfl hr rfl e)
theorem lC9_lettersOf {d : Nat} {a0 : Nat} {a1 : Int} {h h1 : zv_H} {r : Int} (hr : zv_ob h a0 9) (e : E9_lettersOf d a0 a1 h = some (some (zv_i r), h1)) : C9_lettersOf (d + 1) a0 a1 h = some (r, h1) := congrArg zv_pjI (zv_sem_of (c := zv_cs zv_prog d) (id := 206) (m := (some 9, mc9_lettersOf)) (as := [zv_r a0, zv_i a1]) (h := h) rfl rfl hr rfl e)
theorem lC9_copies {d : Nat} {a0 : Nat} {a1 : Int} {a2 : Nat} {h h1 : zv_H} {r : Int} (hr : zv_ob h a0 9) (e : E9_copies d a0 a1 a2 h = some (some (zv_i r), h1)) : C9_copies (d + 1) a0 a1 a2 h = some (r, h1) := congrArg zv_pjI (zv_sem_of (c := zv_cs zv_prog d) (id := 207) (m := (some 9, mc9_copies)) (as := [zv_r a0, zv_i a1, zv_r a2]) (h := h) rfl rfl hr rfl e)
theorem lC9_visits {d : Nat} {a0 : Nat} {a1 : Int} {h h1 : zv_H} (hr : zv_ob h a0 9) (e : E9_visits d a0 a1 h = some (none, h1)) : C9_visits (d + 1) a0 a1 h = some h1 := congrArg zv_pjV (zv_sem_of (c := zv_cs zv_prog d) (id := 208) (m := (some 9, mc9_visits)) (as := [zv_r a0, zv_i a1]) (h := h) rfl rfl hr rfl e)
theorem lC9_latestIn {d : Nat} {a0 : Nat} {a1 : Int} {h h1 : zv_H} {r : Int} (hr : zv_ob h a0 9) (e : E9_latestIn d a0 a1 h = some (some (zv_i r), h1)) : C9_latestIn (d + 1) a0 a1 h = some (r, h1) := congrArg zv_pjI (zv_sem_of (c := zv_cs zv_prog d) (id := 209) (m := (some 9, mc9_latestIn)) (as := [zv_r a0, zv_i a1]) (h := h) rfl rfl hr rfl e)
theorem lC9_childOf {d : Nat} {a0 : Nat} {a1 : Int} {a2 : Int} {h h1 : zv_H} {r : Int} (hr : zv_ob h a0 9) (e : E9_childOf d a0 a1 a2 h = some (some (zv_i r), h1)) : C9_childOf (d + 1) a0 a1 a2 h = some (r, h1) := congrArg zv_pjI (zv_sem_of (c := zv_cs zv_prog d) (id := 210) (m := (some 9, mc9_childOf)) (as := [zv_r a0, zv_i a1, zv_i a2]) (h := h) rfl rfl hr rfl e)
theorem lC9_childrenOf {d : Nat} {a0 : Nat} {a1 : Int} {h h1 : zv_H} {r : Int} (hr : zv_ob h a0 9) (e : E9_childrenOf d a0 a1 h = some (some (zv_i r), h1)) : C9_childrenOf (d + 1) a0 a1 h = some (r, h1) := congrArg zv_pjI (zv_sem_of (c := zv_cs zv_prog d) (id := 211) (m := (some 9, mc9_childrenOf)) (as := [zv_r a0, zv_i a1]) (h := h) rfl rfl hr rfl e)
theorem lC9_freeState {d : Nat} {a0 : Nat} {h h1 : zv_H} {r : Int} (hr : zv_ob h a0 9) (e : E9_freeState d a0 h = some (some (zv_i r), h1)) : C9_freeState (d + 1) a0 h = some (r, h1) := congrArg zv_pjI (zv_sem_of (c := zv_cs zv_prog d) (id := 212) (m := (some 9, mc9_freeState)) (as := [zv_r a0]) (h := h) rfl rfl hr rfl e)
theorem lC9_isNear {d : Nat} {a0 : Nat} {a1 : Int} {a2 : Int} {a3 : Int} {a4 : Int} {h h1 : zv_H} {r : Int} (hr : zv_ob h a0 9) (e : E9_isNear d a0 a1 a2 a3 a4 h = some (some (zv_i r), h1)) : C9_isNear (d + 1) a0 a1 a2 a3 a4 h = some (r, h1) := congrArg zv_pjI (zv_sem_of (c := zv_cs zv_prog d) (id := 213) (m := (some 9, mc9_isNear)) (as := [zv_r a0, zv_i a1, zv_i a2, zv_i a3, zv_i a4]) (h := h) rfl rfl hr rfl e)
theorem lC9_compares {d : Nat} {a0 : Int} {a1 : Int} {a2 : Int} {h h1 : zv_H} {r : Int} (e : E9_compares d a0 a1 a2 h = some (some (zv_i r), h1)) : C9_compares (d + 1) a0 a1 a2 h = some (r, h1) := congrArg zv_pjI (zv_sem_of (c := zv_cs zv_prog d) (id := 214) (m := (none, mc9_compares)) (as := [zv_i a0, zv_i a1, zv_i a2]) (h := h) rfl rfl trivial rfl e)
theorem lC9_holds {d : Nat} {a0 : Nat} {h h1 : zv_H} {r : Int} (hr : zv_ob h a0 9) (e : E9_holds d a0 h = some (some (zv_i r), h1)) : C9_holds (d + 1) a0 h = some (r, h1) := congrArg zv_pjI (zv_sem_of (c := zv_cs zv_prog d) (id := 215) (m := (some 9, mc9_holds)) (as := [zv_r a0]) (h := h) rfl rfl hr rfl e)
theorem lC9_joins {d : Nat} {a0 : Nat} {a1 : Int} {a2 : Int} {a3 : Int} {h h1 : zv_H} {r : Int} (hr : zv_ob h a0 9) (e : E9_joins d a0 a1 a2 a3 h = some (some (zv_i r), h1)) : C9_joins (d + 1) a0 a1 a2 a3 h = some (r, h1) := congrArg zv_pjI (zv_sem_of (c := zv_cs zv_prog d) (id := 216) (m := (some 9, mc9_joins)) (as := [zv_r a0, zv_i a1, zv_i a2, zv_i a3]) (h := h) rfl rfl hr rfl e)
theorem lC9_begins {d : Nat} {a0 : Nat} {a1 : Int} {a2 : Int} {a3 : Int} {a4 : Int} {a5 : Int} {h h1 : zv_H} (hr : zv_ob h a0 9) (e : E9_begins d a0 a1 a2 a3 a4 a5 h = some (none, h1)) : C9_begins (d + 1) a0 a1 a2 a3 a4 a5 h = some h1 := congrArg zv_pjV (zv_sem_of (c := zv_cs zv_prog d) (id := 217) (m := (some 9, mc9_begins)) (as := [zv_r a0, zv_i a1, zv_i a2, zv_i a3, zv_i a4, zv_i a5]) (h := h) rfl rfl hr rfl e)
theorem lC9_packed {d : Nat} {a0 : Nat} {a1 : Int} {h h1 : zv_H} {r : Int} (e : E9_packed d a0 a1 h = some (some (zv_i r), h1)) : C9_packed (d + 1) a0 a1 h = some (r, h1) := congrArg zv_pjI (zv_sem_of (c := zv_cs zv_prog d) (id := 218) (m := (none, mc9_packed)) (as := [zv_r a0, zv_i a1]) (h := h) rfl rfl trivial rfl e)
theorem lC9_nameAt {d : Nat} {a0 : Nat} {a1 : Int} {h h1 : zv_H} {r : Int} (hr : zv_ob h a0 9) (e : E9_nameAt d a0 a1 h = some (some (zv_i r), h1)) : C9_nameAt (d + 1) a0 a1 h = some (r, h1) := congrArg zv_pjI (zv_sem_of (c := zv_cs zv_prog d) (id := 219) (m := (some 9, mc9_nameAt)) (as := [zv_r a0, zv_i a1]) (h := h) rfl rfl hr rfl e)
theorem lC9_type {d : Nat} {a0 : Nat} {a1 : Int} {a2 : Int} {h h1 : zv_H} {r : Int} (hr : zv_ob h a0 9) (e : E9_type d a0 a1 a2 h = some (some (zv_i r), h1)) : C9_type (d + 1) a0 a1 a2 h = some (r, h1) := congrArg zv_pjI (zv_sem_of (c := zv_cs zv_prog d) (id := 220) (m := (some 9, mc9_type)) (as := [zv_r a0, zv_i a1, zv_i a2]) (h := h) rfl rfl hr rfl e)
theorem lC9_hand {d : Nat} {a0 : Nat} {h h1 : zv_H} (hr : zv_ob h a0 9) (e : E9_hand d a0 h = some (none, h1)) : C9_hand (d + 1) a0 h = some h1 := congrArg zv_pjV (zv_sem_of (c := zv_cs zv_prog d) (id := 221) (m := (some 9, mc9_hand)) (as := [zv_r a0]) (h := h) rfl rfl hr rfl e)
theorem lC9_putNow {d : Nat} {a0 : Nat} {a1 : Int} {h h1 : zv_H} {r : Int} (hr : zv_ob h a0 9) (e : E9_putNow d a0 a1 h = some (some (zv_i r), h1)) : C9_putNow (d + 1) a0 a1 h = some (r, h1) := congrArg zv_pjI (zv_sem_of (c := zv_cs zv_prog d) (id := 222) (m := (some 9, mc9_putNow)) (as := [zv_r a0, zv_i a1]) (h := h) rfl rfl hr rfl e)
theorem lC9_cutNow {d : Nat} {a0 : Nat} {a1 : Int} {a2 : Int} {h h1 : zv_H} {r : Int} (hr : zv_ob h a0 9) (e : E9_cutNow d a0 a1 a2 h = some (some (zv_i r), h1)) : C9_cutNow (d + 1) a0 a1 a2 h = some (r, h1) := congrArg zv_pjI (zv_sem_of (c := zv_cs zv_prog d) (id := 223) (m := (some 9, mc9_cutNow)) (as := [zv_r a0, zv_i a1, zv_i a2]) (h := h) rfl rfl hr rfl e)
theorem lC9_plain {d : Nat} {a0 : Nat} {h h1 : zv_H} (hr : zv_ob h a0 9) (e : E9_plain d a0 h = some (none, h1)) : C9_plain (d + 1) a0 h = some h1 := congrArg zv_pjV (zv_sem_of (c := zv_cs zv_prog d) (id := 224) (m := (some 9, mc9_plain)) (as := [zv_r a0]) (h := h) rfl rfl hr rfl e)
theorem lC9_carries {d : Nat} {a0 : Nat} {a1 : Int} {h h1 : zv_H} {r : Int} (hr : zv_ob h a0 9) (e : E9_carries d a0 a1 h = some (some (zv_i r), h1)) : C9_carries (d + 1) a0 a1 h = some (r, h1) := congrArg zv_pjI (zv_sem_of (c := zv_cs zv_prog d) (id := 225) (m := (some 9, mc9_carries)) (as := [zv_r a0, zv_i a1]) (h := h) rfl rfl hr rfl e)
theorem lC9_isTaken {d : Nat} {a0 : Nat} {a1 : Int} {a2 : Int} {h h1 : zv_H} {r : Int} (hr : zv_ob h a0 9) (e : E9_isTaken d a0 a1 a2 h = some (some (zv_i r), h1)) : C9_isTaken (d + 1) a0 a1 a2 h = some (r, h1) := congrArg zv_pjI (zv_sem_of (c := zv_cs zv_prog d) (id := 226) (m := (some 9, mc9_isTaken)) (as := [zv_r a0, zv_i a1, zv_i a2]) (h := h) rfl rfl hr rfl e)
theorem lC9_carriesCut {d : Nat} {a0 : Nat} {a1 : Int} {h h1 : zv_H} {r : Int} (hr : zv_ob h a0 9) (e : E9_carriesCut d a0 a1 h = some (some (zv_i r), h1)) : C9_carriesCut (d + 1) a0 a1 h = some (r, h1) := congrArg zv_pjI (zv_sem_of (c := zv_cs zv_prog d) (id := 227) (m := (some 9, mc9_carriesCut)) (as := [zv_r a0, zv_i a1]) (h := h) rfl rfl hr rfl e)
theorem lC9_carryNow {d : Nat} {a0 : Nat} {a1 : Int} {h h1 : zv_H} {r : Int} (hr : zv_ob h a0 9) (e : E9_carryNow d a0 a1 h = some (some (zv_i r), h1)) : C9_carryNow (d + 1) a0 a1 h = some (r, h1) := congrArg zv_pjI (zv_sem_of (c := zv_cs zv_prog d) (id := 228) (m := (some 9, mc9_carryNow)) (as := [zv_r a0, zv_i a1]) (h := h) rfl rfl hr rfl e)
theorem lC9_mergeNow {d : Nat} {a0 : Nat} {a1 : Int} {h h1 : zv_H} {r : Int} (hr : zv_ob h a0 9) (e : E9_mergeNow d a0 a1 h = some (some (zv_i r), h1)) : C9_mergeNow (d + 1) a0 a1 h = some (r, h1) := congrArg zv_pjI (zv_sem_of (c := zv_cs zv_prog d) (id := 229) (m := (some 9, mc9_mergeNow)) (as := [zv_r a0, zv_i a1]) (h := h) rfl rfl hr rfl e)
theorem lC9_undoNow {d : Nat} {a0 : Nat} {h h1 : zv_H} {r : Int} (hr : zv_ob h a0 9) (e : E9_undoNow d a0 h = some (some (zv_i r), h1)) : C9_undoNow (d + 1) a0 h = some (r, h1) := congrArg zv_pjI (zv_sem_of (c := zv_cs zv_prog d) (id := 230) (m := (some 9, mc9_undoNow)) (as := [zv_r a0]) (h := h) rfl rfl hr rfl e)
theorem lC9_redoNow {d : Nat} {a0 : Nat} {h h1 : zv_H} {r : Int} (hr : zv_ob h a0 9) (e : E9_redoNow d a0 h = some (some (zv_i r), h1)) : C9_redoNow (d + 1) a0 h = some (r, h1) := congrArg zv_pjI (zv_sem_of (c := zv_cs zv_prog d) (id := 231) (m := (some 9, mc9_redoNow)) (as := [zv_r a0]) (h := h) rfl rfl hr rfl e)
theorem lC9_commonOf {d : Nat} {a0 : Nat} {a1 : Int} {a2 : Int} {h h1 : zv_H} {r : Int} (hr : zv_ob h a0 9) (e : E9_commonOf d a0 a1 a2 h = some (some (zv_i r), h1)) : C9_commonOf (d + 1) a0 a1 a2 h = some (r, h1) := congrArg zv_pjI (zv_sem_of (c := zv_cs zv_prog d) (id := 232) (m := (some 9, mc9_commonOf)) (as := [zv_r a0, zv_i a1, zv_i a2]) (h := h) rfl rfl hr rfl e)
theorem lC9_wayMany {d : Nat} {a0 : Nat} {a1 : Int} {a2 : Int} {h h1 : zv_H} {r : Int} (hr : zv_ob h a0 9) (e : E9_wayMany d a0 a1 a2 h = some (some (zv_i r), h1)) : C9_wayMany (d + 1) a0 a1 a2 h = some (r, h1) := congrArg zv_pjI (zv_sem_of (c := zv_cs zv_prog d) (id := 233) (m := (some 9, mc9_wayMany)) (as := [zv_r a0, zv_i a1, zv_i a2]) (h := h) rfl rfl hr rfl e)
theorem lC9_goNow {d : Nat} {a0 : Nat} {a1 : Int} {h h1 : zv_H} {r : Int} (hr : zv_ob h a0 9) (e : E9_goNow d a0 a1 h = some (some (zv_i r), h1)) : C9_goNow (d + 1) a0 a1 h = some (r, h1) := congrArg zv_pjI (zv_sem_of (c := zv_cs zv_prog d) (id := 234) (m := (some 9, mc9_goNow)) (as := [zv_r a0, zv_i a1]) (h := h) rfl rfl hr rfl e)
theorem lC9_nameNow {d : Nat} {a0 : Nat} {h h1 : zv_H} {r : Int} (hr : zv_ob h a0 9) (e : E9_nameNow d a0 h = some (some (zv_i r), h1)) : C9_nameNow (d + 1) a0 h = some (r, h1) := congrArg zv_pjI (zv_sem_of (c := zv_cs zv_prog d) (id := 235) (m := (some 9, mc9_nameNow)) (as := [zv_r a0]) (h := h) rfl rfl hr rfl e)
theorem lC9_leansOn {d : Nat} {a0 : Nat} {a1 : Int} {a2 : Int} {h h1 : zv_H} {r : Int} (hr : zv_ob h a0 9) (e : E9_leansOn d a0 a1 a2 h = some (some (zv_i r), h1)) : C9_leansOn (d + 1) a0 a1 a2 h = some (r, h1) := congrArg zv_pjI (zv_sem_of (c := zv_cs zv_prog d) (id := 236) (m := (some 9, mc9_leansOn)) (as := [zv_r a0, zv_i a1, zv_i a2]) (h := h) rfl rfl hr rfl e)
theorem lC9_marks {d : Nat} {a0 : Nat} {a1 : Int} {a2 : Int} {h h1 : zv_H} (hr : zv_ob h a0 9) (e : E9_marks d a0 a1 a2 h = some (none, h1)) : C9_marks (d + 1) a0 a1 a2 h = some h1 := congrArg zv_pjV (zv_sem_of (c := zv_cs zv_prog d) (id := 237) (m := (some 9, mc9_marks)) (as := [zv_r a0, zv_i a1, zv_i a2]) (h := h) rfl rfl hr rfl e)
theorem lC9_triesNames {d : Nat} {a0 : Nat} {a1 : Int} {h h1 : zv_H} {r : Int} (hr : zv_ob h a0 9) (e : E9_triesNames d a0 a1 h = some (some (zv_i r), h1)) : C9_triesNames (d + 1) a0 a1 h = some (r, h1) := congrArg zv_pjI (zv_sem_of (c := zv_cs zv_prog d) (id := 238) (m := (some 9, mc9_triesNames)) (as := [zv_r a0, zv_i a1]) (h := h) rfl rfl hr rfl e)
theorem lC9_turnNow {d : Nat} {a0 : Nat} {a1 : Int} {a2 : Int} {h h1 : zv_H} {r : Int} (hr : zv_ob h a0 9) (e : E9_turnNow d a0 a1 a2 h = some (some (zv_i r), h1)) : C9_turnNow (d + 1) a0 a1 a2 h = some (r, h1) := congrArg zv_pjI (zv_sem_of (c := zv_cs zv_prog d) (id := 239) (m := (some 9, mc9_turnNow)) (as := [zv_r a0, zv_i a1, zv_i a2]) (h := h) rfl rfl hr rfl e)
theorem lC9_lays {d : Nat} {a0 : Nat} {a1 : Int} {h h1 : zv_H} (hr : zv_ob h a0 9) (e : E9_lays d a0 a1 h = some (none, h1)) : C9_lays (d + 1) a0 a1 h = some h1 := congrArg zv_pjV (zv_sem_of (c := zv_cs zv_prog d) (id := 240) (m := (some 9, mc9_lays)) (as := [zv_r a0, zv_i a1]) (h := h) rfl rfl hr rfl e)
theorem lC9_feed {d : Nat} {a0 : Nat} {a1 : Int} {a2 : Int} {a3 : Int} {a4 : Int} {a5 : Int} {h h1 : zv_H} {r : Int} (hr : zv_ob h a0 9) (e : E9_feed d a0 a1 a2 a3 a4 a5 h = some (some (zv_i r), h1)) : C9_feed (d + 1) a0 a1 a2 a3 a4 a5 h = some (r, h1) := congrArg zv_pjI (zv_sem_of (c := zv_cs zv_prog d) (id := 241) (m := (some 9, mc9_feed)) (as := [zv_r a0, zv_i a1, zv_i a2, zv_i a3, zv_i a4, zv_i a5]) (h := h) rfl rfl hr rfl e)
theorem lC9_isOf {d : Nat} {a0 : Nat} {a1 : Int} {a2 : Int} {a3 : Int} {h h1 : zv_H} {r : Int} (hr : zv_ob h a0 9) (e : E9_isOf d a0 a1 a2 a3 h = some (some (zv_i r), h1)) : C9_isOf (d + 1) a0 a1 a2 a3 h = some (r, h1) := congrArg zv_pjI (zv_sem_of (c := zv_cs zv_prog d) (id := 242) (m := (some 9, mc9_isOf)) (as := [zv_r a0, zv_i a1, zv_i a2, zv_i a3]) (h := h) rfl rfl hr rfl e)
theorem lC9_reads {d : Nat} {a0 : Nat} {h h1 : zv_H} (hr : zv_ob h a0 9) (e : E9_reads d a0 h = some (none, h1)) : C9_reads (d + 1) a0 h = some h1 := congrArg zv_pjV (zv_sem_of (c := zv_cs zv_prog d) (id := 243) (m := (some 9, mc9_reads)) (as := [zv_r a0]) (h := h) rfl rfl hr rfl e)
theorem lC9_must {d : Nat} {a0 : Nat} {a1 : Int} {a2 : Int} {h h1 : zv_H} (hr : zv_ob h a0 9) (e : E9_must d a0 a1 a2 h = some (none, h1)) : C9_must (d + 1) a0 a1 a2 h = some h1 := congrArg zv_pjV (zv_sem_of (c := zv_cs zv_prog d) (id := 244) (m := (some 9, mc9_must)) (as := [zv_r a0, zv_i a1, zv_i a2]) (h := h) rfl rfl hr rfl e)
theorem lC9_which {d : Nat} {a0 : Nat} {a1 : Nat} {h h1 : zv_H} {r : Int} (hr : zv_ob h a0 9) (e : E9_which d a0 a1 h = some (some (zv_i r), h1)) : C9_which (d + 1) a0 a1 h = some (r, h1) := congrArg zv_pjI (zv_sem_of (c := zv_cs zv_prog d) (id := 245) (m := (some 9, mc9_which)) (as := [zv_r a0, zv_r a1]) (h := h) rfl rfl hr rfl e)
theorem lC9_isSign {d : Nat} {a0 : Nat} {a1 : Int} {h h1 : zv_H} {r : Int} (hr : zv_ob h a0 9) (e : E9_isSign d a0 a1 h = some (some (zv_i r), h1)) : C9_isSign (d + 1) a0 a1 h = some (r, h1) := congrArg zv_pjI (zv_sem_of (c := zv_cs zv_prog d) (id := 246) (m := (some 9, mc9_isSign)) (as := [zv_r a0, zv_i a1]) (h := h) rfl rfl hr rfl e)
theorem lC9_takes {d : Nat} {a0 : Nat} {a1 : Int} {h h1 : zv_H} (hr : zv_ob h a0 9) (e : E9_takes d a0 a1 h = some (none, h1)) : C9_takes (d + 1) a0 a1 h = some h1 := congrArg zv_pjV (zv_sem_of (c := zv_cs zv_prog d) (id := 247) (m := (some 9, mc9_takes)) (as := [zv_r a0, zv_i a1]) (h := h) rfl rfl hr rfl e)
theorem lC9_takesNumber {d : Nat} {a0 : Nat} {h h1 : zv_H} {r : Int} (hr : zv_ob h a0 9) (e : E9_takesNumber d a0 h = some (some (zv_i r), h1)) : C9_takesNumber (d + 1) a0 h = some (r, h1) := congrArg zv_pjI (zv_sem_of (c := zv_cs zv_prog d) (id := 248) (m := (some 9, mc9_takesNumber)) (as := [zv_r a0]) (h := h) rfl rfl hr rfl e)
theorem lC9_takesWord {d : Nat} {a0 : Nat} {a1 : Int} {h h1 : zv_H} (hr : zv_ob h a0 9) (e : E9_takesWord d a0 a1 h = some (none, h1)) : C9_takesWord (d + 1) a0 a1 h = some h1 := congrArg zv_pjV (zv_sem_of (c := zv_cs zv_prog d) (id := 249) (m := (some 9, mc9_takesWord)) (as := [zv_r a0, zv_i a1]) (h := h) rfl rfl hr rfl e)
theorem lC9_emits {d : Nat} {a0 : Nat} {a1 : Int} {h h1 : zv_H} (hr : zv_ob h a0 9) (e : E9_emits d a0 a1 h = some (none, h1)) : C9_emits (d + 1) a0 a1 h = some h1 := congrArg zv_pjV (zv_sem_of (c := zv_cs zv_prog d) (id := 250) (m := (some 9, mc9_emits)) (as := [zv_r a0, zv_i a1]) (h := h) rfl rfl hr rfl e)
theorem lC9_test {d : Nat} {a0 : Nat} {h h1 : zv_H} (hr : zv_ob h a0 9) (e : E9_test d a0 h = some (none, h1)) : C9_test (d + 1) a0 h = some h1 := congrArg zv_pjV (zv_sem_of (c := zv_cs zv_prog d) (id := 251) (m := (some 9, mc9_test)) (as := [zv_r a0]) (h := h) rfl rfl hr rfl e)
theorem lC9_side {d : Nat} {a0 : Nat} {h h1 : zv_H} (hr : zv_ob h a0 9) (e : E9_side d a0 h = some (none, h1)) : C9_side (d + 1) a0 h = some h1 := congrArg zv_pjV (zv_sem_of (c := zv_cs zv_prog d) (id := 252) (m := (some 9, mc9_side)) (as := [zv_r a0]) (h := h) rfl rfl hr rfl e)
theorem lC9_fact {d : Nat} {a0 : Nat} {h h1 : zv_H} (hr : zv_ob h a0 9) (e : E9_fact d a0 h = some (none, h1)) : C9_fact (d + 1) a0 h = some h1 := congrArg zv_pjV (zv_sem_of (c := zv_cs zv_prog d) (id := 253) (m := (some 9, mc9_fact)) (as := [zv_r a0]) (h := h) rfl rfl hr rfl e)
theorem lC9_readsLine {d : Nat} {a0 : Nat} {h h1 : zv_H} (hr : zv_ob h a0 9) (e : E9_readsLine d a0 h = some (none, h1)) : C9_readsLine (d + 1) a0 h = some h1 := congrArg zv_pjV (zv_sem_of (c := zv_cs zv_prog d) (id := 254) (m := (some 9, mc9_readsLine)) (as := [zv_r a0]) (h := h) rfl rfl hr rfl e)
theorem lC9_does {d : Nat} {a0 : Nat} {a1 : Int} {h h1 : zv_H} {r : Int} (hr : zv_ob h a0 9) (e : E9_does d a0 a1 h = some (some (zv_i r), h1)) : C9_does (d + 1) a0 a1 h = some (r, h1) := congrArg zv_pjI (zv_sem_of (c := zv_cs zv_prog d) (id := 255) (m := (some 9, mc9_does)) (as := [zv_r a0, zv_i a1]) (h := h) rfl rfl hr rfl e)
theorem lC9_load {d : Nat} {a0 : Nat} {a1 : Int} {h h1 : zv_H} {r : Int} (hr : zv_ob h a0 9) (e : E9_load d a0 a1 h = some (some (zv_i r), h1)) : C9_load (d + 1) a0 a1 h = some (r, h1) := congrArg zv_pjI (zv_sem_of (c := zv_cs zv_prog d) (id := 256) (m := (some 9, mc9_load)) (as := [zv_r a0, zv_i a1]) (h := h) rfl rfl hr rfl e)
theorem lC9_fault {d : Nat} {a0 : Nat} {a1 : Int} {h h1 : zv_H} {r : Int} (hr : zv_ob h a0 9) (e : E9_fault d a0 a1 h = some (some (zv_i r), h1)) : C9_fault (d + 1) a0 a1 h = some (r, h1) := congrArg zv_pjI (zv_sem_of (c := zv_cs zv_prog d) (id := 257) (m := (some 9, mc9_fault)) (as := [zv_r a0, zv_i a1]) (h := h) rfl rfl hr rfl e)
theorem lC9_leaves {d : Nat} {a0 : Nat} {h h1 : zv_H} {r : Int} (hr : zv_ob h a0 9) (e : E9_leaves d a0 h = some (some (zv_i r), h1)) : C9_leaves (d + 1) a0 h = some (r, h1) := congrArg zv_pjI (zv_sem_of (c := zv_cs zv_prog d) (id := 258) (m := (some 9, mc9_leaves)) (as := [zv_r a0]) (h := h) rfl rfl hr rfl e)
theorem lC9_groups {d : Nat} {a0 : Nat} {h h1 : zv_H} {r : Int} (hr : zv_ob h a0 9) (e : E9_groups d a0 h = some (some (zv_i r), h1)) : C9_groups (d + 1) a0 h = some (r, h1) := congrArg zv_pjI (zv_sem_of (c := zv_cs zv_prog d) (id := 259) (m := (some 9, mc9_groups)) (as := [zv_r a0]) (h := h) rfl rfl hr rfl e)
theorem lC9_gone {d : Nat} {a0 : Nat} {h h1 : zv_H} {r : Int} (hr : zv_ob h a0 9) (e : E9_gone d a0 h = some (some (zv_i r), h1)) : C9_gone (d + 1) a0 h = some (r, h1) := congrArg zv_pjI (zv_sem_of (c := zv_cs zv_prog d) (id := 260) (m := (some 9, mc9_gone)) (as := [zv_r a0]) (h := h) rfl rfl hr rfl e)
theorem lC9_many {d : Nat} {a0 : Nat} {a1 : Int} {h h1 : zv_H} {r : Int} (hr : zv_ob h a0 9) (e : E9_many d a0 a1 h = some (some (zv_i r), h1)) : C9_many (d + 1) a0 a1 h = some (r, h1) := congrArg zv_pjI (zv_sem_of (c := zv_cs zv_prog d) (id := 261) (m := (some 9, mc9_many)) (as := [zv_r a0, zv_i a1]) (h := h) rfl rfl hr rfl e)
theorem lC9_letter {d : Nat} {a0 : Nat} {a1 : Int} {a2 : Int} {h h1 : zv_H} {r : Int} (hr : zv_ob h a0 9) (e : E9_letter d a0 a1 a2 h = some (some (zv_i r), h1)) : C9_letter (d + 1) a0 a1 a2 h = some (r, h1) := congrArg zv_pjI (zv_sem_of (c := zv_cs zv_prog d) (id := 262) (m := (some 9, mc9_letter)) (as := [zv_r a0, zv_i a1, zv_i a2]) (h := h) rfl rfl hr rfl e)
theorem lC9_namesOf {d : Nat} {a0 : Nat} {a1 : Int} {h h1 : zv_H} {r : Int} (hr : zv_ob h a0 9) (e : E9_namesOf d a0 a1 h = some (some (zv_i r), h1)) : C9_namesOf (d + 1) a0 a1 h = some (r, h1) := congrArg zv_pjI (zv_sem_of (c := zv_cs zv_prog d) (id := 263) (m := (some 9, mc9_namesOf)) (as := [zv_r a0, zv_i a1]) (h := h) rfl rfl hr rfl e)
theorem lC9_state {d : Nat} {a0 : Nat} {a1 : Int} {a2 : Int} {h h1 : zv_H} {r : Int} (hr : zv_ob h a0 9) (e : E9_state d a0 a1 a2 h = some (some (zv_i r), h1)) : C9_state (d + 1) a0 a1 a2 h = some (r, h1) := congrArg zv_pjI (zv_sem_of (c := zv_cs zv_prog d) (id := 264) (m := (some 9, mc9_state)) (as := [zv_r a0, zv_i a1, zv_i a2]) (h := h) rfl rfl hr rfl e)
theorem lC9_child {d : Nat} {a0 : Nat} {a1 : Int} {a2 : Int} {h h1 : zv_H} {r : Int} (hr : zv_ob h a0 9) (e : E9_child d a0 a1 a2 h = some (some (zv_i r), h1)) : C9_child (d + 1) a0 a1 a2 h = some (r, h1) := congrArg zv_pjI (zv_sem_of (c := zv_cs zv_prog d) (id := 265) (m := (some 9, mc9_child)) (as := [zv_r a0, zv_i a1, zv_i a2]) (h := h) rfl rfl hr rfl e)
theorem lC9_force {d : Nat} {a0 : Nat} {a1 : Int} {a2 : Int} {h h1 : zv_H} {r : Int} (hr : zv_ob h a0 9) (e : E9_force d a0 a1 a2 h = some (some (zv_i r), h1)) : C9_force (d + 1) a0 a1 a2 h = some (r, h1) := congrArg zv_pjI (zv_sem_of (c := zv_cs zv_prog d) (id := 266) (m := (some 9, mc9_force)) (as := [zv_r a0, zv_i a1, zv_i a2]) (h := h) rfl rfl hr rfl e)
theorem lC9_blame {d : Nat} {a0 : Nat} {a1 : Int} {a2 : Int} {h h1 : zv_H} {r : Int} (hr : zv_ob h a0 9) (e : E9_blame d a0 a1 a2 h = some (some (zv_i r), h1)) : C9_blame (d + 1) a0 a1 a2 h = some (r, h1) := congrArg zv_pjI (zv_sem_of (c := zv_cs zv_prog d) (id := 267) (m := (some 9, mc9_blame)) (as := [zv_r a0, zv_i a1, zv_i a2]) (h := h) rfl rfl hr rfl e)
theorem lC9_cutsOf {d : Nat} {a0 : Nat} {a1 : Int} {a2 : Int} {a3 : Int} {h h1 : zv_H} {r : Int} (hr : zv_ob h a0 9) (e : E9_cutsOf d a0 a1 a2 a3 h = some (some (zv_i r), h1)) : C9_cutsOf (d + 1) a0 a1 a2 a3 h = some (r, h1) := congrArg zv_pjI (zv_sem_of (c := zv_cs zv_prog d) (id := 268) (m := (some 9, mc9_cutsOf)) (as := [zv_r a0, zv_i a1, zv_i a2, zv_i a3]) (h := h) rfl rfl hr rfl e)
theorem lC9_row {d : Nat} {a0 : Nat} {a1 : Int} {a2 : Int} {h h1 : zv_H} {r : Int} (hr : zv_ob h a0 9) (e : E9_row d a0 a1 a2 h = some (some (zv_i r), h1)) : C9_row (d + 1) a0 a1 a2 h = some (r, h1) := congrArg zv_pjI (zv_sem_of (c := zv_cs zv_prog d) (id := 269) (m := (some 9, mc9_row)) (as := [zv_r a0, zv_i a1, zv_i a2]) (h := h) rfl rfl hr rfl e)
theorem lC9_visit {d : Nat} {a0 : Nat} {a1 : Int} {a2 : Int} {h h1 : zv_H} {r : Int} (hr : zv_ob h a0 9) (e : E9_visit d a0 a1 a2 h = some (some (zv_i r), h1)) : C9_visit (d + 1) a0 a1 a2 h = some (r, h1) := congrArg zv_pjI (zv_sem_of (c := zv_cs zv_prog d) (id := 270) (m := (some 9, mc9_visit)) (as := [zv_r a0, zv_i a1, zv_i a2]) (h := h) rfl rfl hr rfl e)
theorem lC9_named {d : Nat} {a0 : Nat} {h h1 : zv_H} {r : Int} (hr : zv_ob h a0 9) (e : E9_named d a0 h = some (some (zv_i r), h1)) : C9_named (d + 1) a0 h = some (r, h1) := congrArg zv_pjI (zv_sem_of (c := zv_cs zv_prog d) (id := 271) (m := (some 9, mc9_named)) (as := [zv_r a0]) (h := h) rfl rfl hr rfl e)
theorem lC9_leans {d : Nat} {a0 : Nat} {a1 : Int} {a2 : Int} {h h1 : zv_H} {r : Int} (hr : zv_ob h a0 9) (e : E9_leans d a0 a1 a2 h = some (some (zv_i r), h1)) : C9_leans (d + 1) a0 a1 a2 h = some (r, h1) := congrArg zv_pjI (zv_sem_of (c := zv_cs zv_prog d) (id := 272) (m := (some 9, mc9_leans)) (as := [zv_r a0, zv_i a1, zv_i a2]) (h := h) rfl rfl hr rfl e)
theorem lC9_put {d : Nat} {a0 : Nat} {a1 : Int} {h h1 : zv_H} {r : Int} (hr : zv_ob h a0 9) (e : E9_put d a0 a1 h = some (some (zv_i r), h1)) : C9_put (d + 1) a0 a1 h = some (r, h1) := congrArg zv_pjI (zv_sem_of (c := zv_cs zv_prog d) (id := 273) (m := (some 9, mc9_put)) (as := [zv_r a0, zv_i a1]) (h := h) rfl rfl hr rfl e)
theorem lC9_cut {d : Nat} {a0 : Nat} {a1 : Int} {a2 : Int} {h h1 : zv_H} {r : Int} (hr : zv_ob h a0 9) (e : E9_cut d a0 a1 a2 h = some (some (zv_i r), h1)) : C9_cut (d + 1) a0 a1 a2 h = some (r, h1) := congrArg zv_pjI (zv_sem_of (c := zv_cs zv_prog d) (id := 274) (m := (some 9, mc9_cut)) (as := [zv_r a0, zv_i a1, zv_i a2]) (h := h) rfl rfl hr rfl e)
theorem lC9_wait {d : Nat} {a0 : Nat} {a1 : Int} {h h1 : zv_H} {r : Int} (hr : zv_ob h a0 9) (e : E9_wait d a0 a1 h = some (some (zv_i r), h1)) : C9_wait (d + 1) a0 a1 h = some (r, h1) := congrArg zv_pjI (zv_sem_of (c := zv_cs zv_prog d) (id := 275) (m := (some 9, mc9_wait)) (as := [zv_r a0, zv_i a1]) (h := h) rfl rfl hr rfl e)
theorem lC9_undo {d : Nat} {a0 : Nat} {h h1 : zv_H} {r : Int} (hr : zv_ob h a0 9) (e : E9_undo d a0 h = some (some (zv_i r), h1)) : C9_undo (d + 1) a0 h = some (r, h1) := congrArg zv_pjI (zv_sem_of (c := zv_cs zv_prog d) (id := 276) (m := (some 9, mc9_undo)) (as := [zv_r a0]) (h := h) rfl rfl hr rfl e)
theorem lC9_redo {d : Nat} {a0 : Nat} {h h1 : zv_H} {r : Int} (hr : zv_ob h a0 9) (e : E9_redo d a0 h = some (some (zv_i r), h1)) : C9_redo (d + 1) a0 h = some (r, h1) := congrArg zv_pjI (zv_sem_of (c := zv_cs zv_prog d) (id := 277) (m := (some 9, mc9_redo)) (as := [zv_r a0]) (h := h) rfl rfl hr rfl e)
theorem lC9_go {d : Nat} {a0 : Nat} {a1 : Int} {h h1 : zv_H} {r : Int} (hr : zv_ob h a0 9) (e : E9_go d a0 a1 h = some (some (zv_i r), h1)) : C9_go (d + 1) a0 a1 h = some (r, h1) := congrArg zv_pjI (zv_sem_of (c := zv_cs zv_prog d) (id := 278) (m := (some 9, mc9_go)) (as := [zv_r a0, zv_i a1]) (h := h) rfl rfl hr rfl e)
theorem lC9_name {d : Nat} {a0 : Nat} {h h1 : zv_H} {r : Int} (hr : zv_ob h a0 9) (e : E9_name d a0 h = some (some (zv_i r), h1)) : C9_name (d + 1) a0 h = some (r, h1) := congrArg zv_pjI (zv_sem_of (c := zv_cs zv_prog d) (id := 279) (m := (some 9, mc9_name)) (as := [zv_r a0]) (h := h) rfl rfl hr rfl e)
theorem lC9_unname {d : Nat} {a0 : Nat} {h h1 : zv_H} {r : Int} (hr : zv_ob h a0 9) (e : E9_unname d a0 h = some (some (zv_i r), h1)) : C9_unname (d + 1) a0 h = some (r, h1) := congrArg zv_pjI (zv_sem_of (c := zv_cs zv_prog d) (id := 280) (m := (some 9, mc9_unname)) (as := [zv_r a0]) (h := h) rfl rfl hr rfl e)
theorem lC9_withdraw {d : Nat} {a0 : Nat} {a1 : Int} {h h1 : zv_H} {r : Int} (hr : zv_ob h a0 9) (e : E9_withdraw d a0 a1 h = some (some (zv_i r), h1)) : C9_withdraw (d + 1) a0 a1 h = some (r, h1) := congrArg zv_pjI (zv_sem_of (c := zv_cs zv_prog d) (id := 281) (m := (some 9, mc9_withdraw)) (as := [zv_r a0, zv_i a1]) (h := h) rfl rfl hr rfl e)
theorem lC9_restore {d : Nat} {a0 : Nat} {a1 : Int} {h h1 : zv_H} {r : Int} (hr : zv_ob h a0 9) (e : E9_restore d a0 a1 h = some (some (zv_i r), h1)) : C9_restore (d + 1) a0 a1 h = some (r, h1) := congrArg zv_pjI (zv_sem_of (c := zv_cs zv_prog d) (id := 282) (m := (some 9, mc9_restore)) (as := [zv_r a0, zv_i a1]) (h := h) rfl rfl hr rfl e)
theorem lC9_firstOut {d : Nat} {a0 : Nat} {h h1 : zv_H} {r : Int} (hr : zv_ob h a0 9) (e : E9_firstOut d a0 h = some (some (zv_i r), h1)) : C9_firstOut (d + 1) a0 h = some (r, h1) := congrArg zv_pjI (zv_sem_of (c := zv_cs zv_prog d) (id := 283) (m := (some 9, mc9_firstOut)) (as := [zv_r a0]) (h := h) rfl rfl hr rfl e)
theorem lC9_carry {d : Nat} {a0 : Nat} {a1 : Int} {h h1 : zv_H} {r : Int} (hr : zv_ob h a0 9) (e : E9_carry d a0 a1 h = some (some (zv_i r), h1)) : C9_carry (d + 1) a0 a1 h = some (r, h1) := congrArg zv_pjI (zv_sem_of (c := zv_cs zv_prog d) (id := 284) (m := (some 9, mc9_carry)) (as := [zv_r a0, zv_i a1]) (h := h) rfl rfl hr rfl e)
theorem lC9_merge {d : Nat} {a0 : Nat} {a1 : Int} {h h1 : zv_H} {r : Int} (hr : zv_ob h a0 9) (e : E9_merge d a0 a1 h = some (some (zv_i r), h1)) : C9_merge (d + 1) a0 a1 h = some (r, h1) := congrArg zv_pjI (zv_sem_of (c := zv_cs zv_prog d) (id := 285) (m := (some 9, mc9_merge)) (as := [zv_r a0, zv_i a1]) (h := h) rfl rfl hr rfl e)
theorem lC9_prune {d : Nat} {a0 : Nat} {a1 : Int} {h h1 : zv_H} {r : Int} (hr : zv_ob h a0 9) (e : E9_prune d a0 a1 h = some (some (zv_i r), h1)) : C9_prune (d + 1) a0 a1 h = some (r, h1) := congrArg zv_pjI (zv_sem_of (c := zv_cs zv_prog d) (id := 286) (m := (some 9, mc9_prune)) (as := [zv_r a0, zv_i a1]) (h := h) rfl rfl hr rfl e)
theorem lC9_pruneNow {d : Nat} {a0 : Nat} {a1 : Int} {h h1 : zv_H} {r : Int} (hr : zv_ob h a0 9) (e : E9_pruneNow d a0 a1 h = some (some (zv_i r), h1)) : C9_pruneNow (d + 1) a0 a1 h = some (r, h1) := congrArg zv_pjI (zv_sem_of (c := zv_cs zv_prog d) (id := 287) (m := (some 9, mc9_pruneNow)) (as := [zv_r a0, zv_i a1]) (h := h) rfl rfl hr rfl e)
theorem lC9_common {d : Nat} {a0 : Nat} {a1 : Int} {a2 : Int} {h h1 : zv_H} {r : Int} (hr : zv_ob h a0 9) (e : E9_common d a0 a1 a2 h = some (some (zv_i r), h1)) : C9_common (d + 1) a0 a1 a2 h = some (r, h1) := congrArg zv_pjI (zv_sem_of (c := zv_cs zv_prog d) (id := 288) (m := (some 9, mc9_common)) (as := [zv_r a0, zv_i a1, zv_i a2]) (h := h) rfl rfl hr rfl e)
theorem lC9_way {d : Nat} {a0 : Nat} {a1 : Int} {a2 : Int} {a3 : Int} {h h1 : zv_H} {r : Int} (hr : zv_ob h a0 9) (e : E9_way d a0 a1 a2 a3 h = some (some (zv_i r), h1)) : C9_way (d + 1) a0 a1 a2 a3 h = some (r, h1) := congrArg zv_pjI (zv_sem_of (c := zv_cs zv_prog d) (id := 289) (m := (some 9, mc9_way)) (as := [zv_r a0, zv_i a1, zv_i a2, zv_i a3]) (h := h) rfl rfl hr rfl e)
theorem lC9_keysOf {d : Nat} {a0 : Nat} {a1 : Int} {h h1 : zv_H} {r : Int} (hr : zv_ob h a0 9) (e : E9_keysOf d a0 a1 h = some (some (zv_i r), h1)) : C9_keysOf (d + 1) a0 a1 h = some (r, h1) := congrArg zv_pjI (zv_sem_of (c := zv_cs zv_prog d) (id := 290) (m := (some 9, mc9_keysOf)) (as := [zv_r a0, zv_i a1]) (h := h) rfl rfl hr rfl e)
theorem lC9_keptOf {d : Nat} {a0 : Nat} {a1 : Int} {a2 : Int} {h h1 : zv_H} {r : Int} (hr : zv_ob h a0 9) (e : E9_keptOf d a0 a1 a2 h = some (some (zv_i r), h1)) : C9_keptOf (d + 1) a0 a1 a2 h = some (r, h1) := congrArg zv_pjI (zv_sem_of (c := zv_cs zv_prog d) (id := 291) (m := (some 9, mc9_keptOf)) (as := [zv_r a0, zv_i a1, zv_i a2]) (h := h) rfl rfl hr rfl e)
theorem lC9_differ {d : Nat} {a0 : Nat} {a1 : Int} {a2 : Int} {h h1 : zv_H} {r : Int} (hr : zv_ob h a0 9) (e : E9_differ d a0 a1 a2 h = some (some (zv_i r), h1)) : C9_differ (d + 1) a0 a1 a2 h = some (r, h1) := congrArg zv_pjI (zv_sem_of (c := zv_cs zv_prog d) (id := 292) (m := (some 9, mc9_differ)) (as := [zv_r a0, zv_i a1, zv_i a2]) (h := h) rfl rfl hr rfl e)
theorem lC9_between {d : Nat} {a0 : Nat} {a1 : Int} {a2 : Int} {a3 : Int} {h h1 : zv_H} {r : Int} (hr : zv_ob h a0 9) (e : E9_between d a0 a1 a2 a3 h = some (some (zv_i r), h1)) : C9_between (d + 1) a0 a1 a2 a3 h = some (r, h1) := congrArg zv_pjI (zv_sem_of (c := zv_cs zv_prog d) (id := 293) (m := (some 9, mc9_between)) (as := [zv_r a0, zv_i a1, zv_i a2, zv_i a3]) (h := h) rfl rfl hr rfl e)
theorem lC9_least {d : Nat} {a0 : Nat} {a1 : Int} {a2 : Int} {h h1 : zv_H} {r : Int} (hr : zv_ob h a0 9) (e : E9_least d a0 a1 a2 h = some (some (zv_i r), h1)) : C9_least (d + 1) a0 a1 a2 h = some (r, h1) := congrArg zv_pjI (zv_sem_of (c := zv_cs zv_prog d) (id := 294) (m := (some 9, mc9_least)) (as := [zv_r a0, zv_i a1, zv_i a2]) (h := h) rfl rfl hr rfl e)
theorem lC9_merges {d : Nat} {a0 : Nat} {a1 : Int} {a2 : Int} {h h1 : zv_H} {r : Int} (hr : zv_ob h a0 9) (e : E9_merges d a0 a1 a2 h = some (some (zv_i r), h1)) : C9_merges (d + 1) a0 a1 a2 h = some (r, h1) := congrArg zv_pjI (zv_sem_of (c := zv_cs zv_prog d) (id := 295) (m := (some 9, mc9_merges)) (as := [zv_r a0, zv_i a1, zv_i a2]) (h := h) rfl rfl hr rfl e)
theorem lC9_tells {d : Nat} {a0 : Nat} {a1 : Int} {h h1 : zv_H} (hr : zv_ob h a0 9) (e : E9_tells d a0 a1 h = some (none, h1)) : C9_tells (d + 1) a0 a1 h = some h1 := congrArg zv_pjV (zv_sem_of (c := zv_cs zv_prog d) (id := 296) (m := (some 9, mc9_tells)) (as := [zv_r a0, zv_i a1]) (h := h) rfl rfl hr rfl e)
theorem lC9_tellsNumber {d : Nat} {a0 : Nat} {a1 : Int} {h h1 : zv_H} (hr : zv_ob h a0 9) (e : E9_tellsNumber d a0 a1 h = some (none, h1)) : C9_tellsNumber (d + 1) a0 a1 h = some h1 := congrArg zv_pjV (zv_sem_of (c := zv_cs zv_prog d) (id := 297) (m := (some 9, mc9_tellsNumber)) (as := [zv_r a0, zv_i a1]) (h := h) rfl rfl hr rfl e)
theorem lC9_tellsNames {d : Nat} {a0 : Nat} {h h1 : zv_H} (hr : zv_ob h a0 9) (e : E9_tellsNames d a0 h = some (none, h1)) : C9_tellsNames (d + 1) a0 h = some h1 := congrArg zv_pjV (zv_sem_of (c := zv_cs zv_prog d) (id := 298) (m := (some 9, mc9_tellsNames)) (as := [zv_r a0]) (h := h) rfl rfl hr rfl e)
theorem lC9_tell {d : Nat} {a0 : Nat} {a1 : Int} {h h1 : zv_H} {r : Int} (hr : zv_ob h a0 9) (e : E9_tell d a0 a1 h = some (some (zv_i r), h1)) : C9_tell (d + 1) a0 a1 h = some (r, h1) := congrArg zv_pjI (zv_sem_of (c := zv_cs zv_prog d) (id := 299) (m := (some 9, mc9_tell)) (as := [zv_r a0, zv_i a1]) (h := h) rfl rfl hr rfl e)
theorem lC9_out {d : Nat} {a0 : Nat} {a1 : Int} {h h1 : zv_H} {r : Int} (hr : zv_ob h a0 9) (e : E9_out d a0 a1 h = some (some (zv_i r), h1)) : C9_out (d + 1) a0 a1 h = some (r, h1) := congrArg zv_pjI (zv_sem_of (c := zv_cs zv_prog d) (id := 300) (m := (some 9, mc9_out)) (as := [zv_r a0, zv_i a1]) (h := h) rfl rfl hr rfl e)
theorem lC9_leaning {d : Nat} {a0 : Nat} {a1 : Int} {a2 : Int} {h h1 : zv_H} {r : Int} (hr : zv_ob h a0 9) (e : E9_leaning d a0 a1 a2 h = some (some (zv_i r), h1)) : C9_leaning (d + 1) a0 a1 a2 h = some (r, h1) := congrArg zv_pjI (zv_sem_of (c := zv_cs zv_prog d) (id := 301) (m := (some 9, mc9_leaning)) (as := [zv_r a0, zv_i a1, zv_i a2]) (h := h) rfl rfl hr rfl e)
theorem lC9_placeIn {d : Nat} {a0 : Nat} {a1 : Int} {h h1 : zv_H} {r : Int} (hr : zv_ob h a0 9) (e : E9_placeIn d a0 a1 h = some (some (zv_i r), h1)) : C9_placeIn (d + 1) a0 a1 h = some (r, h1) := congrArg zv_pjI (zv_sem_of (c := zv_cs zv_prog d) (id := 302) (m := (some 9, mc9_placeIn)) (as := [zv_r a0, zv_i a1]) (h := h) rfl rfl hr rfl e)
theorem lC9_find {d : Nat} {a0 : Nat} {a1 : Int} {h h1 : zv_H} {r : Int} (hr : zv_ob h a0 9) (e : E9_find d a0 a1 h = some (some (zv_i r), h1)) : C9_find (d + 1) a0 a1 h = some (r, h1) := congrArg zv_pjI (zv_sem_of (c := zv_cs zv_prog d) (id := 303) (m := (some 9, mc9_find)) (as := [zv_r a0, zv_i a1]) (h := h) rfl rfl hr rfl e)
theorem lC9_first {d : Nat} {a0 : Nat} {h h1 : zv_H} {r : Int} (hr : zv_ob h a0 9) (e : E9_first d a0 h = some (some (zv_i r), h1)) : C9_first (d + 1) a0 h = some (r, h1) := congrArg zv_pjI (zv_sem_of (c := zv_cs zv_prog d) (id := 304) (m := (some 9, mc9_first)) (as := [zv_r a0]) (h := h) rfl rfl hr rfl e)
theorem lC9_twin {d : Nat} {a0 : Nat} {a1 : Int} {h h1 : zv_H} {r : Int} (hr : zv_ob h a0 9) (e : E9_twin d a0 a1 h = some (some (zv_i r), h1)) : C9_twin (d + 1) a0 a1 h = some (r, h1) := congrArg zv_pjI (zv_sem_of (c := zv_cs zv_prog d) (id := 305) (m := (some 9, mc9_twin)) (as := [zv_r a0, zv_i a1]) (h := h) rfl rfl hr rfl e)
theorem lC9_back {d : Nat} {a0 : Nat} {a1 : Int} {h h1 : zv_H} {r : Int} (hr : zv_ob h a0 9) (e : E9_back d a0 a1 h = some (some (zv_i r), h1)) : C9_back (d + 1) a0 a1 h = some (r, h1) := congrArg zv_pjI (zv_sem_of (c := zv_cs zv_prog d) (id := 306) (m := (some 9, mc9_back)) (as := [zv_r a0, zv_i a1]) (h := h) rfl rfl hr rfl e)
theorem lC12_bitCount {d : Nat} {a0 : Int64} {h h1 : zv_H} {r : Int} (e : E12_bitCount d a0 h = some (some (zv_i r), h1)) : C12_bitCount (d + 1) a0 h = some (r, h1) := congrArg zv_pjI (zv_sem_of (c := zv_cs zv_prog d) (id := 307) (m := (none, mc12_bitCount)) (as := [zv_j a0]) (h := h) rfl rfl trivial rfl e)
theorem lC13_coder {d : Nat} {a0 : Nat} {h h1 : zv_H} {r : Int} (hr : 1000000 ≤ a0 ∧ a0 < 1000024) (e : E13_coder d a0 h = some (some (zv_i r), h1)) : C13_coder (d + 1) a0 h = some (r, h1) := congrArg zv_pjI (zv_sem_of (c := zv_cs zv_prog d) (id := 308) (m := (some 10, mc13_coder)) (as := [zv_r a0]) (h := h) rfl rfl hr rfl e)
theorem lC13_isLatin1 {d : Nat} {a0 : Nat} {h h1 : zv_H} {r : Int} (hr : 1000000 ≤ a0 ∧ a0 < 1000024) (e : E13_isLatin1 d a0 h = some (some (zv_i r), h1)) : C13_isLatin1 (d + 1) a0 h = some (r, h1) := congrArg zv_pjI (zv_sem_of (c := zv_cs zv_prog d) (id := 309) (m := (some 10, mc13_isLatin1)) (as := [zv_r a0]) (h := h) rfl rfl hr rfl e)
theorem lC13_length {d : Nat} {a0 : Nat} {h h1 : zv_H} {r : Int} (hr : 1000000 ≤ a0 ∧ a0 < 1000024) (e : E13_length d a0 h = some (some (zv_i r), h1)) : C13_length (d + 1) a0 h = some (r, h1) := congrArg zv_pjI (zv_sem_of (c := zv_cs zv_prog d) (id := 310) (m := (some 10, mc13_length)) (as := [zv_r a0]) (h := h) rfl rfl hr rfl e)
theorem lC14_charAt {d : Nat} {a0 : Nat} {a1 : Int} {h h1 : zv_H} {r : Int} (e : E14_charAt d a0 a1 h = some (some (zv_i r), h1)) : C14_charAt (d + 1) a0 a1 h = some (r, h1) := congrArg zv_pjI (zv_sem_of (c := zv_cs zv_prog d) (id := 311) (m := (none, mc14_charAt)) (as := [zv_r a0, zv_i a1]) (h := h) rfl rfl trivial rfl e)
theorem lC13_charAt {d : Nat} {a0 : Nat} {a1 : Int} {h h1 : zv_H} {r : Int} (hr : 1000000 ≤ a0 ∧ a0 < 1000024) (e : E13_charAt d a0 a1 h = some (some (zv_i r), h1)) : C13_charAt (d + 1) a0 a1 h = some (r, h1) := congrArg zv_pjI (zv_sem_of (c := zv_cs zv_prog d) (id := 312) (m := (some 10, mc13_charAt)) (as := [zv_r a0, zv_i a1]) (h := h) rfl rfl hr rfl e)
theorem lC14_canEncode {d : Nat} {a0 : Int} {h h1 : zv_H} {r : Int} (e : E14_canEncode d a0 h = some (some (zv_i r), h1)) : C14_canEncode (d + 1) a0 h = some (r, h1) := congrArg zv_pjI (zv_sem_of (c := zv_cs zv_prog d) (id := 313) (m := (none, mc14_canEncode)) (as := [zv_i a0]) (h := h) rfl rfl trivial rfl e)
theorem lC14_indexOfChar {d : Nat} {a0 : Nat} {a1 : Int} {a2 : Int} {a3 : Int} {h h1 : zv_H} {r : Int} (e : E14_indexOfChar d a0 a1 a2 a3 h = some (some (zv_i r), h1)) : C14_indexOfChar (d + 1) a0 a1 a2 a3 h = some (r, h1) := congrArg zv_pjI (zv_sem_of (c := zv_cs zv_prog d) (id := 314) (m := (none, mc14_indexOfChar)) (as := [zv_r a0, zv_i a1, zv_i a2, zv_i a3]) (h := h) rfl rfl trivial rfl e)
theorem lC14_indexOf {d : Nat} {a0 : Nat} {a1 : Int} {a2 : Int} {a3 : Int} {h h1 : zv_H} {r : Int} (e : E14_indexOf d a0 a1 a2 a3 h = some (some (zv_i r), h1)) : C14_indexOf (d + 1) a0 a1 a2 a3 h = some (r, h1) := congrArg zv_pjI (zv_sem_of (c := zv_cs zv_prog d) (id := 315) (m := (none, mc14_indexOf)) (as := [zv_r a0, zv_i a1, zv_i a2, zv_i a3]) (h := h) rfl rfl trivial rfl e)
theorem lC13_indexOf2 {d : Nat} {a0 : Nat} {a1 : Int} {a2 : Int} {h h1 : zv_H} {r : Int} (hr : 1000000 ≤ a0 ∧ a0 < 1000024) (e : E13_indexOf2 d a0 a1 a2 h = some (some (zv_i r), h1)) : C13_indexOf2 (d + 1) a0 a1 a2 h = some (r, h1) := congrArg zv_pjI (zv_sem_of (c := zv_cs zv_prog d) (id := 316) (m := (some 10, mc13_indexOf2)) (as := [zv_r a0, zv_i a1, zv_i a2]) (h := h) rfl rfl hr rfl e)
theorem lC13_indexOf {d : Nat} {a0 : Nat} {a1 : Int} {h h1 : zv_H} {r : Int} (hr : 1000000 ≤ a0 ∧ a0 < 1000024) (e : E13_indexOf d a0 a1 h = some (some (zv_i r), h1)) : C13_indexOf (d + 1) a0 a1 h = some (r, h1) := congrArg zv_pjI (zv_sem_of (c := zv_cs zv_prog d) (id := 317) (m := (some 10, mc13_indexOf)) (as := [zv_r a0, zv_i a1]) (h := h) rfl rfl hr rfl e)
end
/-! 50.base -/
section
/-! ===== level 3: what an answer holds ===== -/
def zm_R {α : Type} (o : Option α) (P : α → Prop) : Prop := ∃ v, o = some v ∧ P v
theorem zm_ret {α : Type} {v : α} {P : α → Prop} (h : P v) : zm_R (some v) P := ⟨v, rfl, h⟩
theorem zm_b {α β : Type} {o : Option α} {f : α → Option β} {P : α → Prop} {Q : β → Prop} (a : zm_R o P) (b : ∀ v, P v → zm_R (f v) Q) : zm_R (o.bind f) Q := by
  obtain ⟨v, rfl, hv⟩ := a
  exact b v hv
theorem zm_g {α β : Type} {o : Option α} {f : α → Option β} {v : α} {Q : β → Prop} (e : o = some v) (b : zm_R (f v) Q) : zm_R (o.bind f) Q := by
  rw [e]
  exact b
theorem zm_e {α β : Type} {o : Option α} {f : α → Option β} {v : α} (e : o = some v) : o.bind f = f v := by
  rw [e]
  rfl
theorem zm_if {α : Type} {c : Prop} [Decidable c] {a b : Option α} {Q : α → Prop} (ha : c → zm_R a Q) (hb : ¬ c → zm_R b Q) : zm_R (if c then a else b) Q := by
  by_cases h : c
  · rw [if_pos h]
    exact ha h
  · rw [if_neg h]
    exact hb h
theorem zm_mono {α : Type} {o : Option α} {P Q : α → Prop} (h : zm_R o P) (i : ∀ v, P v → Q v) : zm_R o Q := by
  obtain ⟨v, e, hv⟩ := h
  exact ⟨v, e, i v hv⟩
def zm_I (P : Int → zv_H → Prop) (r : Option zv_V × zv_H) : Prop := ∃ v, r.1 = some (zv_i v) ∧ P v r.2
def zm_J (P : Int64 → zv_H → Prop) (r : Option zv_V × zv_H) : Prop := ∃ v, r.1 = some (zv_j v) ∧ P v r.2
def zm_N (P : Nat → zv_H → Prop) (r : Option zv_V × zv_H) : Prop := ∃ v, r.1 = some (zv_r v) ∧ P v r.2
def zm_V (P : zv_H → Prop) (r : Option zv_V × zv_H) : Prop := r.1 = none ∧ P r.2
theorem zm_iI {x : Int} {h : zv_H} {P : Int → zv_H → Prop} (hp : P x h) : zm_R (some (some (zv_i x), h)) (zm_I P) := ⟨_, rfl, x, rfl, hp⟩
theorem zm_iJ {x : Int64} {h : zv_H} {P : Int64 → zv_H → Prop} (hp : P x h) : zm_R (some (some (zv_j x), h)) (zm_J P) := ⟨_, rfl, x, rfl, hp⟩
theorem zm_iN {x : Nat} {h : zv_H} {P : Nat → zv_H → Prop} (hp : P x h) : zm_R (some (some (zv_r x), h)) (zm_N P) := ⟨_, rfl, x, rfl, hp⟩
theorem zm_iV {h : zv_H} {P : zv_H → Prop} (hp : P h) : zm_R (some ((none : Option zv_V), h)) (zm_V P) := ⟨_, rfl, rfl, hp⟩
theorem zm_cI {o : zv_O} {c : Option (Int × zv_H)} {P : Int → zv_H → Prop} (l : ∀ {h1 : zv_H} {r : Int}, o = some (some (zv_i r), h1) → c = some (r, h1)) (h : zm_R o (zm_I P)) : zm_R c (fun q => P q.1 q.2) := by
  obtain ⟨⟨w, h1⟩, e, v, e1, hp⟩ := h
  have e2 : w = some (zv_i v) := e1
  subst e2
  exact ⟨(v, h1), l e, hp⟩
theorem zm_cJ {o : zv_O} {c : Option (Int64 × zv_H)} {P : Int64 → zv_H → Prop} (l : ∀ {h1 : zv_H} {r : Int64}, o = some (some (zv_j r), h1) → c = some (r, h1)) (h : zm_R o (zm_J P)) : zm_R c (fun q => P q.1 q.2) := by
  obtain ⟨⟨w, h1⟩, e, v, e1, hp⟩ := h
  have e2 : w = some (zv_j v) := e1
  subst e2
  exact ⟨(v, h1), l e, hp⟩
theorem zm_cN {o : zv_O} {c : Option (Nat × zv_H)} {P : Nat → zv_H → Prop} (l : ∀ {h1 : zv_H} {r : Nat}, o = some (some (zv_r r), h1) → c = some (r, h1)) (h : zm_R o (zm_N P)) : zm_R c (fun q => P q.1 q.2) := by
  obtain ⟨⟨w, h1⟩, e, v, e1, hp⟩ := h
  have e2 : w = some (zv_r v) := e1
  subst e2
  exact ⟨(v, h1), l e, hp⟩
theorem zm_cV {o : zv_O} {c : Option zv_H} {P : zv_H → Prop} (l : ∀ {h1 : zv_H}, o = some (none, h1) → c = some h1) (h : zm_R o (zm_V P)) : zm_R c P := by
  obtain ⟨⟨w, h1⟩, e, e1, hp⟩ := h
  have e2 : w = none := e1
  subst e2
  exact ⟨h1, l e, hp⟩
/-- a call that answers 1 or 0, and a branch on it -/
theorem zm_gb {α : Type} {o : Option (Int × zv_H)} {p : Prop} [Decidable p] {h : zv_H} {A B : Int × zv_H → Option α} {Q : α → Prop} (e : o = some (if p then 1 else 0, h)) (hf : ¬ p → zm_R (A (0, h)) Q) (ht : p → zm_R (B (1, h)) Q) : zm_R (o.bind fun q => if q.1 = 0 then A q else B q) Q := by
  rw [e]
  by_cases hp : p
  · rw [if_pos hp]
    exact ht hp
  · rw [if_neg hp]
    exact hf hp
theorem zm_w {x : Int} (h : -2147483648 ≤ x ∧ x < 2147483648) : zv_w x = x := by unfold zv_w; omega
/-! ===== the reference's cells ===== -/
def zm_fr : List Nat := [348, 349, 350, 0, 0, 351, 352, 353, 354, 355, 0, 0, 0, 356, 357, 358, 359, 360, 361, 0, 0, 362, 363, 364, 0, 365, 366, 0, 0, 0, 0, 0, 0, 0, 0, 0, 0, 0, 0, 367, 368, 369, 0, 0, 370, 371, 372, 0]
def zm_M (h : zv_H) : Prop := zv_n h = 372 ∧ ∀ k : Nat, zm_fr.getD k 0 ≠ 0 → zv_R h 347 k = zm_fr.getD k 0
def zm_u (c : Nat → Int) (j : Nat) (v : Int) : Nat → Int := fun k => if k = j then v else c k
theorem zm_l347 : zv_lay 347 = (1, 9) := rfl
theorem zm_l348 : zv_lay 348 = (2, 4236) := rfl
theorem zm_l349 : zv_lay 349 = (2, 4236) := rfl
theorem zm_l350 : zv_lay 350 = (2, 4236) := rfl
theorem zm_l351 : zv_lay 351 = (2, 49) := rfl
theorem zm_l352 : zv_lay 352 = (2, 640) := rfl
theorem zm_l353 : zv_lay 353 = (2, 640) := rfl
theorem zm_l354 : zv_lay 354 = (3, 49) := rfl
theorem zm_l355 : zv_lay 355 = (3, 640) := rfl
theorem zm_l356 : zv_lay 356 = (2, 640) := rfl
theorem zm_l357 : zv_lay 357 = (2, 640) := rfl
theorem zm_l358 : zv_lay 358 = (2, 6) := rfl
theorem zm_l359 : zv_lay 359 = (3, 400) := rfl
theorem zm_l360 : zv_lay 360 = (2, 700) := rfl
theorem zm_l361 : zv_lay 361 = (2, 12) := rfl
theorem zm_l362 : zv_lay 362 = (2, 48) := rfl
theorem zm_l363 : zv_lay 363 = (2, 49) := rfl
theorem zm_l364 : zv_lay 364 = (3, 49) := rfl
theorem zm_l365 : zv_lay 365 = (3, 49) := rfl
theorem zm_l366 : zv_lay 366 = (4, 700) := rfl
theorem zm_l367 : zv_lay 367 = (5, 12) := rfl
theorem zm_l368 : zv_lay 368 = (5, 5) := rfl
theorem zm_l369 : zv_lay 369 = (5, 6) := rfl
theorem zm_l370 : zv_lay 370 = (2, 640) := rfl
theorem zm_l371 : zv_lay 371 = (2, 14641) := rfl
theorem zm_l372 : zv_lay 372 = (2, 200) := rfl
theorem zm_n {h : zv_H} (hM : zm_M h) {r : Nat} (hr : Nat.ble r 372 = true) : r ≤ zv_n h := by
  rw [hM.1]
  exact Nat.ble_eq.mp hr
theorem zm_ob {h : zv_H} (hM : zm_M h) : zv_ob h 347 9 := ⟨zm_n hM rfl, zm_l347⟩
theorem zm_gR {h : zv_H} (hM : zm_M h) {k v : Nat} (hk : zm_fr.getD k 0 = v) (hv : Nat.ble v 0 = false) : zv_gR h 347 9 k = some v := by
  unfold zv_gR
  rw [if_pos ⟨zm_n hM rfl, zm_l347⟩]
  subst hk
  rw [hM.2 k (fun e => by rw [e] at hv; cases hv)]
theorem zm_gI {h : zv_H} (hM : zm_M h) (k : Nat) : zv_gI h 347 9 k = some (zv_I h 347 k) := by
  unfold zv_gI
  rw [if_pos ⟨zm_n hM rfl, zm_l347⟩]
theorem zm_gJ {h : zv_H} (hM : zm_M h) (k : Nat) : zv_gJ h 347 9 k = some (zv_J h 347 k) := by
  unfold zv_gJ
  rw [if_pos ⟨zm_n hM rfl, zm_l347⟩]
theorem zm_pI {h : zv_H} (hM : zm_M h) (k : Nat) (v : Int) : zv_pI h 347 9 k v = some (zv_sI h 347 k v) := by
  unfold zv_pI
  rw [if_pos ⟨zm_n hM rfl, zm_l347⟩]
theorem zm_pJ {h : zv_H} (hM : zm_M h) (k : Nat) (v : Int64) : zv_pJ h 347 9 k v = some (zv_sJ h 347 k v) := by
  unfold zv_pJ
  rw [if_pos ⟨zm_n hM rfl, zm_l347⟩]
theorem zm_ne {r : Nat} (hr : Nat.ble r 372 = true) : ¬ r = 2000000 := by
  have := Nat.ble_eq.mp hr
  omega
theorem zm_aI {h : zv_H} (hM : zm_M h) {r n : Nat} (hl : zv_lay r = (2, n)) (hr : Nat.ble r 372 = true) {j : Int} (h0 : 0 ≤ j) (h1 : j < n) : zv_aI h r j = some (zv_I h r j.toNat) := by
  unfold zv_aI
  rw [if_neg (zm_ne hr), if_pos ⟨zm_n hM hr, by rw [hl], h0, by rw [hl]; exact h1⟩]
theorem zm_wI {h : zv_H} (hM : zm_M h) {r n : Nat} (hl : zv_lay r = (2, n)) (hr : Nat.ble r 372 = true) {j : Int} (h0 : 0 ≤ j) (h1 : j < n) (v : Int) : zv_wI h r j v = some (zv_sI h r j.toNat v) := by
  unfold zv_wI
  rw [if_pos ⟨zm_n hM hr, by rw [hl], h0, by rw [hl]; exact h1⟩]
theorem zm_aB {h : zv_H} (hM : zm_M h) {r n k : Nat} (hl : zv_lay r = (k, n)) (hk : k = 3 ∨ k = 4) (hr : Nat.ble r 372 = true) {j : Int} (h0 : 0 ≤ j) (h1 : j < n) : zv_aB h r j = some (zv_I h r j.toNat) := by
  have h2 := Nat.ble_eq.mp hr
  unfold zv_aB
  rw [if_neg (by omega), if_pos ⟨zm_n hM hr, by rw [hl]; exact hk, h0, by rw [hl]; exact h1⟩]
theorem zm_wB {h : zv_H} (hM : zm_M h) {r n : Nat} (hl : zv_lay r = (3, n)) (hr : Nat.ble r 372 = true) {j : Int} (h0 : 0 ≤ j) (h1 : j < n) (v : Int) : zv_wB h r j v = some (zv_sI h r j.toNat (zv_nz v)) := by
  unfold zv_wB
  rw [if_pos ⟨zm_n hM hr, by rw [hl]; exact Or.inl rfl, h0, by rw [hl]; exact h1⟩, if_pos (by rw [hl])]
theorem zm_wB4 {h : zv_H} (hM : zm_M h) {r n : Nat} (hl : zv_lay r = (4, n)) (hr : Nat.ble r 372 = true) {j : Int} (h0 : 0 ≤ j) (h1 : j < n) (v : Int) : zv_wB h r j v = some (zv_sI h r j.toNat (zv_i2b v)) := by
  unfold zv_wB
  rw [if_pos ⟨zm_n hM hr, by rw [hl]; exact Or.inr rfl, h0, by rw [hl]; exact h1⟩, if_neg (by rw [hl]; exact (fun e => by cases e))]
theorem zm_aJ {h : zv_H} (hM : zm_M h) {r n : Nat} (hl : zv_lay r = (5, n)) (hr : Nat.ble r 372 = true) {j : Int} (h0 : 0 ≤ j) (h1 : j < n) : zv_aJ h r j = some (zv_J h r j.toNat) := by
  unfold zv_aJ
  rw [if_pos ⟨zm_n hM hr, by rw [hl], h0, by rw [hl]; exact h1⟩]
theorem zm_al {h : zv_H} (hM : zm_M h) {r n k : Nat} (hl : zv_lay r = (k, n)) (hk : Nat.ble 2 k = true) (hr : Nat.ble r 372 = true) : zv_al h r = some (n : Int) := by
  have h2 := Nat.ble_eq.mp hr
  unfold zv_al
  rw [if_neg (zm_ne hr), if_neg (by omega), if_pos ⟨zm_n hM hr, by rw [hl]; exact Nat.ble_eq.mp hk⟩, hl]
theorem zm_M_sI {h : zv_H} {r k : Nat} {v : Int} (hM : zm_M h) : zm_M (zv_sI h r k v) := hM
theorem zm_M_sJ {h : zv_H} {r k : Nat} {v : Int64} (hM : zm_M h) : zm_M (zv_sJ h r k v) := hM
theorem zm_f0 {h : zv_H} (hM : zm_M h) : zv_gR h 347 9 0 = some 348 := zm_gR hM rfl rfl
theorem zm_f1 {h : zv_H} (hM : zm_M h) : zv_gR h 347 9 1 = some 349 := zm_gR hM rfl rfl
theorem zm_f2 {h : zv_H} (hM : zm_M h) : zv_gR h 347 9 2 = some 350 := zm_gR hM rfl rfl
theorem zm_f5 {h : zv_H} (hM : zm_M h) : zv_gR h 347 9 5 = some 351 := zm_gR hM rfl rfl
theorem zm_f6 {h : zv_H} (hM : zm_M h) : zv_gR h 347 9 6 = some 352 := zm_gR hM rfl rfl
theorem zm_f7 {h : zv_H} (hM : zm_M h) : zv_gR h 347 9 7 = some 353 := zm_gR hM rfl rfl
theorem zm_f8 {h : zv_H} (hM : zm_M h) : zv_gR h 347 9 8 = some 354 := zm_gR hM rfl rfl
theorem zm_f9 {h : zv_H} (hM : zm_M h) : zv_gR h 347 9 9 = some 355 := zm_gR hM rfl rfl
theorem zm_f13 {h : zv_H} (hM : zm_M h) : zv_gR h 347 9 13 = some 356 := zm_gR hM rfl rfl
theorem zm_f14 {h : zv_H} (hM : zm_M h) : zv_gR h 347 9 14 = some 357 := zm_gR hM rfl rfl
theorem zm_f15 {h : zv_H} (hM : zm_M h) : zv_gR h 347 9 15 = some 358 := zm_gR hM rfl rfl
theorem zm_f16 {h : zv_H} (hM : zm_M h) : zv_gR h 347 9 16 = some 359 := zm_gR hM rfl rfl
theorem zm_f17 {h : zv_H} (hM : zm_M h) : zv_gR h 347 9 17 = some 360 := zm_gR hM rfl rfl
theorem zm_f18 {h : zv_H} (hM : zm_M h) : zv_gR h 347 9 18 = some 361 := zm_gR hM rfl rfl
theorem zm_f21 {h : zv_H} (hM : zm_M h) : zv_gR h 347 9 21 = some 362 := zm_gR hM rfl rfl
theorem zm_f22 {h : zv_H} (hM : zm_M h) : zv_gR h 347 9 22 = some 363 := zm_gR hM rfl rfl
theorem zm_f23 {h : zv_H} (hM : zm_M h) : zv_gR h 347 9 23 = some 364 := zm_gR hM rfl rfl
theorem zm_f25 {h : zv_H} (hM : zm_M h) : zv_gR h 347 9 25 = some 365 := zm_gR hM rfl rfl
theorem zm_f26 {h : zv_H} (hM : zm_M h) : zv_gR h 347 9 26 = some 366 := zm_gR hM rfl rfl
theorem zm_f39 {h : zv_H} (hM : zm_M h) : zv_gR h 347 9 39 = some 367 := zm_gR hM rfl rfl
theorem zm_f40 {h : zv_H} (hM : zm_M h) : zv_gR h 347 9 40 = some 368 := zm_gR hM rfl rfl
theorem zm_f41 {h : zv_H} (hM : zm_M h) : zv_gR h 347 9 41 = some 369 := zm_gR hM rfl rfl
theorem zm_f44 {h : zv_H} (hM : zm_M h) : zv_gR h 347 9 44 = some 370 := zm_gR hM rfl rfl
theorem zm_f45 {h : zv_H} (hM : zm_M h) : zv_gR h 347 9 45 = some 371 := zm_gR hM rfl rfl
theorem zm_f46 {h : zv_H} (hM : zm_M h) : zv_gR h 347 9 46 = some 372 := zm_gR hM rfl rfl
/-! what may have changed: the cells A, the fields B of 347 -/
def zm_F (A B : List Nat) (h h' : zv_H) : Prop := h'.1 = h.1 ∧ h'.2.2.2.1 = h.2.2.2.1 ∧ h'.2.2.2.2 = h.2.2.2.2 ∧ (∀ r, A.contains r = false → Nat.beq r 347 = false → h'.2.1 r = h.2.1 r) ∧ (∀ k, B.contains k = false → h'.2.1 347 k = h.2.1 347 k) ∧ (∀ r k, ¬ (r = 347 ∧ k = 38 ∧ B.contains 38 = true) → h'.2.2.1 r k = h.2.2.1 r k)
theorem zm_F_r (A B : List Nat) (h : zv_H) : zm_F A B h h := ⟨rfl, rfl, rfl, fun _ _ _ => rfl, fun _ _ => rfl, fun _ _ _ => rfl⟩
theorem zm_F_t {A B : List Nat} {h h1 h2 : zv_H} (f : zm_F A B h h1) (g : zm_F A B h1 h2) : zm_F A B h h2 := by
  obtain ⟨a1, a2, a3, a4, a5, a6⟩ := f
  obtain ⟨b1, b2, b3, b4, b5, b6⟩ := g
  exact ⟨b1.trans a1, b2.trans a2, b3.trans a3, fun r x y => (b4 r x y).trans (a4 r x y), fun k x => (b5 k x).trans (a5 k x), fun r k x => (b6 r k x).trans (a6 r k x)⟩
theorem zm_ct {A A' : List Nat} (hA : (A.all fun r => A'.contains r) = true) {r : Nat} (h : A'.contains r = false) : A.contains r = false := by
  cases e : A.contains r with
  | false => rfl
  | true =>
    have h1 := List.all_eq_true.mp hA r (List.contains_iff_mem.mp e)
    exact absurd h (by rw [h1]; decide)
theorem zm_F_s {A B A' B' : List Nat} {h h1 : zv_H} (f : zm_F A B h h1) (hA : (A.all fun r => A'.contains r) = true) (hB : (B.all fun r => B'.contains r) = true) : zm_F A' B' h h1 := by
  obtain ⟨a1, a2, a3, a4, a5, a6⟩ := f
  refine ⟨a1, a2, a3, fun r x y => a4 r (zm_ct hA x) y, fun k x => a5 k (zm_ct hB x), fun r k x => a6 r k fun q => x ⟨q.1, q.2.1, ?_⟩⟩
  cases e : B'.contains 38 with
  | true => rfl
  | false => exact absurd q.2.2 (by rw [zm_ct hB e]; decide)
theorem zm_F_I {A B : List Nat} {h h1 : zv_H} (f : zm_F A B h h1) {r : Nat} (hr : A.contains r = true) (k : Nat) (v : Int) (hn : Nat.beq r 347 = false := by rfl) : zm_F A B h (zv_sI h1 r k v) := by
  obtain ⟨a1, a2, a3, a4, a5, a6⟩ := f
  refine ⟨a1, a2, a3, fun r' x y => ?_, fun k' x => ?_, a6⟩
  · refine Eq.trans ?_ (a4 r' x y)
    funext k'
    show zv_up h1.2.1 r k v r' k' = _
    unfold zv_up
    rw [if_neg]
    intro q
    rw [q.1, hr] at x
    cases x
  · refine Eq.trans ?_ (a5 k' x)
    show zv_up h1.2.1 r k v 347 k' = _
    unfold zv_up
    rw [if_neg]
    intro q
    rw [← q.1] at hn
    cases hn
theorem zm_F_f {A B : List Nat} {h h1 : zv_H} (f : zm_F A B h h1) {k : Nat} (hk : B.contains k = true) (v : Int) : zm_F A B h (zv_sI h1 347 k v) := by
  obtain ⟨a1, a2, a3, a4, a5, a6⟩ := f
  refine ⟨a1, a2, a3, fun r' x y => ?_, fun k' x => ?_, a6⟩
  · refine Eq.trans ?_ (a4 r' x y)
    funext k'
    show zv_up h1.2.1 347 k v r' k' = _
    unfold zv_up
    rw [if_neg]
    intro q
    rw [q.1] at y
    cases y
  · refine Eq.trans ?_ (a5 k' x)
    show zv_up h1.2.1 347 k v 347 k' = _
    unfold zv_up
    rw [if_neg]
    intro q
    rw [q.2, hk] at x
    cases x
theorem zm_F_k {A B : List Nat} {h h1 : zv_H} (f : zm_F A B h h1) (hk : B.contains 38 = true) (v : Int64) : zm_F A B h (zv_sJ h1 347 38 v) := by
  obtain ⟨a1, a2, a3, a4, a5, a6⟩ := f
  refine ⟨a1, a2, a3, a4, a5, fun r k x => ?_⟩
  refine Eq.trans ?_ (a6 r k x)
  show zv_up h1.2.2.1 347 38 v r k = _
  unfold zv_up
  rw [if_neg]
  intro q
  exact x ⟨q.1, q.2, hk⟩
theorem zm_F_M {A B : List Nat} {h h1 : zv_H} (f : zm_F A B h h1) (hM : zm_M h) : zm_M h1 := by
  obtain ⟨a1, a2, a3, a4, a5, a6⟩ := f
  refine ⟨?_, fun k hk => ?_⟩
  · show h1.1.1 = 372
    rw [a1]
    exact hM.1
  · show h1.2.2.2.1 347 k = _
    rw [a2]
    exact hM.2 k hk
theorem zm_F_a {A B : List Nat} {h h1 : zv_H} (f : zm_F A B h h1) (r : Nat) (hr : A.contains r = false := by rfl) (hn : Nat.beq r 347 = false := by rfl) : zv_I h1 r = zv_I h r := f.2.2.2.1 r hr hn
theorem zm_F_g {A B : List Nat} {h h1 : zv_H} (f : zm_F A B h h1) (k : Nat) (hk : B.contains k = false := by rfl) : zv_I h1 347 k = zv_I h 347 k := f.2.2.2.2.1 k hk
theorem zm_F_j {A B : List Nat} {h h1 : zv_H} (f : zm_F A B h h1) (r k : Nat) (hn : Nat.beq r 347 = false := by rfl) : zv_J h1 r k = zv_J h r k := f.2.2.2.2.2 r k fun q => by rw [q.1] at hn; cases hn
/-! reading behind a writing -/
theorem zm_ss (h : zv_H) (r k : Nat) (v : Int) : zv_I (zv_sI h r k v) r = zm_u (zv_I h r) k v := by
  funext k'
  show zv_up h.2.1 r k v r k' = _
  unfold zv_up zm_u
  by_cases e : k' = k
  · rw [if_pos ⟨rfl, e⟩, if_pos e]
  · rw [if_neg (fun q => e q.2), if_neg e]
    rfl
theorem zm_so (h : zv_H) {r r' : Nat} (k : Nat) (v : Int) (hn : Nat.beq r' r = false := by rfl) : zv_I (zv_sI h r k v) r' = zv_I h r' := by
  funext k'
  show zv_up h.2.1 r k v r' k' = _
  unfold zv_up
  rw [if_neg]
  · rfl
  · intro q
    rw [q.1, Nat.beq_refl] at hn
    cases hn
theorem zm_u_s (c : Nat → Int) (j : Nat) (v : Int) : zm_u c j v j = v := if_pos rfl
theorem zm_u_o (c : Nat → Int) {j k : Nat} (v : Int) (h : ¬ k = j) : zm_u c j v k = c k := if_neg h
end
/-! 51.read -/
section
/-! ===== the reference: small readers ===== -/
def zm_o (c : Nat → Int) (s w : Int) : Int := c (432 + 76 * s.toNat + w.toNat)
/-- a state -/
abbrev zm_st (c : Nat → Int) (s : Int) : Prop := (0 ≤ s ∧ s ≤ 47) ∧ zm_o c s 0 = 1
/-- a put or a cut -/
abbrev zm_ed (c : Nat → Int) (s : Int) : Prop := zm_o c s 2 = 0 ∨ zm_o c s 2 = 1
theorem zm_ix {s w : Int} (hs : 0 ≤ s ∧ s ≤ 48) (hw : 0 ≤ w ∧ w < 76) : zv_w (zv_w (432 + zv_w (76 * s)) + w) = ((432 + 76 * s.toNat + w.toNat : Nat) : Int) := by
  rw [zm_w (x := 76 * s) (by omega), zm_w (x := 432 + 76 * s) (by omega), zm_w (by omega)]
  omega
theorem zm_of {h : zv_H} (hM : zm_M h) (d : Nat) {s w : Int} (hs : 0 ≤ s ∧ s ≤ 48) (hw : 0 ≤ w ∧ w < 76) : C9_of (d + 1) 347 s w h = some (zm_o (zv_I h 348) s w, h) := by
  refine lC9_of (zm_ob hM) ?_
  rw [qE9_of, zm_e (zm_f0 hM), zm_ix hs hw, zm_e (zm_aI hM zm_l348 rfl (by omega) (by omega))]
  rfl
theorem zm_sets {h : zv_H} (hM : zm_M h) (d : Nat) {s w : Int} (hs : 0 ≤ s ∧ s ≤ 48) (hw : 0 ≤ w ∧ w < 76) (v : Int) : C9_sets (d + 1) 347 s w v h = some (zv_sI h 348 (432 + 76 * s.toNat + w.toNat) v) := by
  refine lC9_sets (zm_ob hM) ?_
  rw [qE9_sets, zm_e (zm_f0 hM), zm_ix hs hw, zm_e (zm_wI hM zm_l348 rfl (by omega) (by omega) v)]
  rfl
def zm_os (c : Nat → Int) (s w v : Int) : Nat → Int := zm_u c (432 + 76 * s.toNat + w.toNat) v
theorem zm_os_s (c : Nat → Int) (s w v : Int) : zm_o (zm_os c s w v) s w = v := zm_u_s _ _ _
theorem zm_os_o (c : Nat → Int) {s w s' w' : Int} (v : Int) (hs : 0 ≤ s) (hw : 0 ≤ w ∧ w < 76) (hs' : 0 ≤ s') (hw' : 0 ≤ w' ∧ w' < 76) (h : ¬ (s' = s ∧ w' = w)) : zm_o (zm_os c s w v) s' w' = zm_o c s' w' := zm_u_o _ _ (by omega)
theorem zm_isIn {h : zv_H} (d : Nat) (v a b : Int) : C9_isIn (d + 1) v a b h = some (if a ≤ v ∧ v ≤ b then 1 else 0, h) := by
  refine lC9_isIn ?_
  rw [qE9_isIn]
  by_cases h1 : v < a
  · rw [if_pos h1, if_neg (by omega)]
  · rw [if_neg h1]
    by_cases h2 : v ≤ b
    · rw [if_pos h2, if_pos (by omega)]
    · rw [if_neg h2, if_neg (by omega)]
theorem zm_isState {h : zv_H} (hM : zm_M h) (d : Nat) (s : Int) : C9_isState (d + 2) 347 s h = some (if zm_st (zv_I h 348) s then 1 else 0, h) := by
  refine lC9_isState (zm_ob hM) ?_
  rw [qE9_isState, zm_e (zm_isIn d s 0 47)]
  dsimp only
  by_cases h1 : 0 ≤ s ∧ s ≤ 47
  · rw [if_pos h1, if_neg (by decide), zm_e (zm_of hM d (by omega) (by decide))]
    dsimp only
    by_cases h2 : zm_o (zv_I h 348) s 0 = 1
    · rw [if_pos h2, if_pos ⟨h1, h2⟩]
    · rw [if_neg h2, if_neg (fun q => h2 q.2)]
  · rw [if_neg h1, if_pos rfl, if_neg (fun q => h1 q.1)]
theorem zm_isEdit {h : zv_H} (hM : zm_M h) (d : Nat) {s : Int} (hs : 0 ≤ s ∧ s ≤ 48) : C9_isEdit (d + 2) 347 s h = some (if zm_ed (zv_I h 348) s then 1 else 0, h) := by
  refine lC9_isEdit (zm_ob hM) ?_
  rw [qE9_isEdit, zm_e (zm_of hM d hs (by decide))]
  dsimp only
  by_cases h1 : zm_o (zv_I h 348) s 2 = 0
  · rw [if_pos h1, if_pos (Or.inl h1)]
  · rw [if_neg h1, zm_e (zm_of hM d hs (by decide))]
    dsimp only
    by_cases h2 : zm_o (zv_I h 348) s 2 = 1
    · rw [if_pos h2, if_pos (Or.inr h2)]
    · rw [if_neg h2, if_neg (fun q => q.elim h1 h2)]
theorem zm_here {h : zv_H} (hM : zm_M h) (d : Nat) : C9_here (d + 1) 347 h = some (zv_I h 348 0, h) := by
  refine lC9_here (zm_ob hM) ?_
  rw [qE9_here, zm_e (zm_f0 hM), zm_e (zm_aI hM zm_l348 rfl (by decide) (by decide))]
  rfl
theorem zm_refuse {h : zv_H} (hM : zm_M h) (d : Nat) (w : Int) : C9_refuse (d + 1) 347 w h = some (-1, zv_sI h 347 3 w) := by
  refine lC9_refuse (zm_ob hM) ?_
  rw [qE9_refuse, zm_e (zm_pI hM 3 w)]
theorem zm_is {h : zv_H} (hM : zm_M h) (d : Nat) (w : Int) : C9_is (d + 1) 347 w h = some (if w = 0 then 1 else 0, zv_sI (zv_sI h 347 4 0) 347 3 w) := by
  refine lC9_is (zm_ob hM) ?_
  rw [qE9_is, zm_e (zm_pI hM 4 0), zm_e (zm_pI (zm_M_sI hM) 3 w)]
  by_cases h1 : w = 0
  · rw [if_pos h1, if_pos h1]
  · rw [if_neg h1, if_neg h1]
/-- a bit of the names -/
abbrev zm_nm (c : Nat → Int) (s t : Int) : Prop := zv_and (zv_shr (zm_o c s (if t < 24 then 10 else 11)) (t.tmod 24)) 1 = 1

theorem zm_names {h : zv_H} (hM : zm_M h) (d : Nat) {s : Int} (hs : 0 ≤ s ∧ s ≤ 48) (t : Int) : C9_names (d + 2) 347 s t h = some (if zm_nm (zv_I h 348) s t then 1 else 0, h) := by
  refine lC9_names (zm_ob hM) ?_
  rw [qE9_names]
  by_cases h1 : t < 24
  · rw [if_pos h1, qL9_names_15, zm_e (zm_of hM d hs (by decide))]
    dsimp only
    by_cases h2 : zm_nm (zv_I h 348) s t
    · rw [if_pos h2]
      unfold zm_nm at h2
      rw [if_pos h1] at h2
      rw [if_pos h2]
    · rw [if_neg h2]
      unfold zm_nm at h2
      rw [if_pos h1] at h2
      rw [if_neg h2]
  · rw [if_neg h1, qL9_names_15, zm_e (zm_of hM d hs (by decide))]
    dsimp only
    by_cases h2 : zm_nm (zv_I h 348) s t
    · rw [if_pos h2]
      unfold zm_nm at h2
      rw [if_neg h1] at h2
      rw [if_pos h2]
    · rw [if_neg h2]
      unfold zm_nm at h2
      rw [if_neg h1] at h2
      rw [if_neg h2]
/-! the line of a state: from it to the start -/
def zm_Ln (c : Nat → Int) : List Int → Int → Prop
  | [], s => s < 0
  | t :: l, s => (s = t ∧ 0 ≤ t ∧ t ≤ 48) ∧ zm_Ln c l (zm_o c t 1)
theorem zm_Ln_u {c : Nat → Int} : ∀ {l l' : List Int} {s : Int}, zm_Ln c l s → zm_Ln c l' s → l = l'
  | [], [], _, _, _ => rfl
  | [], t :: l, s, h1, h2 => by
    have h3 : s < 0 := h1
    have := h2.1
    omega
  | t :: l, [], s, h1, h2 => by
    have h3 : s < 0 := h2
    have := h1.1
    omega
  | t :: l, t' :: l', s, h1, h2 => by
    have e : t = t' := h1.1.1.symm.trans h2.1.1
    subst e
    rw [zm_Ln_u h1.2 h2.2]
theorem zm_Ln_r {c : Nat → Int} : ∀ {l : List Int} {s : Int}, zm_Ln c l s → ∀ t ∈ l, 0 ≤ t ∧ t ≤ 48
  | [], _, _, t, ht => by cases ht
  | u :: l, _, h, t, ht => by
    rcases List.mem_cons.mp ht with e | e
    · rw [e]
      exact h.1.2
    · exact zm_Ln_r h.2 t e
/-- the line of one of the line is its end -/
theorem zm_Ln_s {c : Nat → Int} : ∀ {l : List Int} {s : Int}, zm_Ln c l s → ∀ t ∈ l, ∃ a b, l = a ++ t :: b ∧ zm_Ln c (t :: b) t
  | [], _, _, t, ht => by cases ht
  | u :: l, _, h, t, ht => by
    rcases List.mem_cons.mp ht with e | e
    · subst e
      exact ⟨[], l, rfl, ⟨⟨rfl, h.1.2⟩, h.2⟩⟩
    · obtain ⟨a, b, e1, e2⟩ := zm_Ln_s h.2 t e
      exact ⟨u :: a, b, by rw [e1]; rfl, e2⟩
theorem zm_isOfLine_l {h : zv_H} (hM : zm_M h) (d : Nat) (t : Int) : ∀ {l : List Int} {s : Int}, zm_Ln (zv_I h 348) l s → L9_isOfLine_2 (d + 1) 347 t s h = some (some (zv_i (if t ∈ l then 1 else 0)), h)
  | [], s, hl => by
    rw [qL9_isOfLine_2, if_pos (show s < 0 from hl), if_neg List.not_mem_nil]
  | u :: l, s, hl => by
    obtain ⟨⟨e, hu⟩, hl'⟩ := hl
    subst e
    rw [qL9_isOfLine_2, if_neg (by omega)]
    by_cases h1 : s = t
    · rw [if_pos h1, if_pos (by rw [h1]; exact List.mem_cons_self)]
    · rw [if_neg h1, zm_e (zm_of hM d hu (by decide))]
      rw [zm_isOfLine_l hM d t hl']
      by_cases h2 : t ∈ l
      · rw [if_pos h2, if_pos (List.mem_cons_of_mem _ h2)]
      · rw [if_neg h2, if_neg]
        intro q
        rcases List.mem_cons.mp q with e | e
        · exact h1 e.symm
        · exact h2 e
theorem zm_isOfLine {h : zv_H} (hM : zm_M h) (d : Nat) (t : Int) {l : List Int} {s : Int} (hl : zm_Ln (zv_I h 348) l s) : C9_isOfLine (d + 2) 347 t s h = some (if t ∈ l then 1 else 0, h) := by
  refine lC9_isOfLine (zm_ob hM) ?_
  rw [qE9_isOfLine, zm_isOfLine_l hM d t hl]
theorem zm_depth_l {h : zv_H} (hM : zm_M h) (d : Nat) : ∀ {l : List Int} {s : Int} (n : Int), zm_Ln (zv_I h 348) l s → 0 ≤ n → n + l.length < 2000000000 → L9_depthOf_9 (d + 1) 347 n s h = some (some (zv_i (n + l.length)), h)
  | [], s, n, hl, _, _ => by
    rw [qL9_depthOf_9, if_pos (show s < 0 from hl)]
    rw [show n + (([] : List Int).length : Int) = n by simp]
  | u :: l, s, n, hl, h0, h1 => by
    obtain ⟨⟨e, hu⟩, hl'⟩ := hl
    subst e
    rw [List.length_cons] at h1 ⊢
    rw [qL9_depthOf_9, if_neg (by omega), zm_e (zm_of hM d hu (by decide))]
    rw [zm_w (by omega), zm_depth_l hM d (n + 1) hl' (by omega) (by omega)]
    rw [show n + 1 + (l.length : Int) = n + ((l.length + 1 : Nat) : Int) by omega]
theorem zm_depthOf {h : zv_H} (hM : zm_M h) (d : Nat) {l : List Int} {s : Int} (hl : zm_Ln (zv_I h 348) (s :: l) s) (hn : l.length < 2000000000) : C9_depthOf (d + 2) 347 s h = some ((l.length : Int), h) := by
  refine lC9_depthOf (zm_ob hM) ?_
  rw [qE9_depthOf, zm_e (zm_of hM d hl.1.2 (by decide))]
  rw [zm_depth_l hM d 0 hl.2 (by omega) (by omega)]
  rw [Int.zero_add]
/-! how many states, a free one, children, names -/
def zm_sum (f : Nat → Int) : Nat → Int
  | 0 => 0
  | n + 1 => zm_sum f n + f n
theorem zm_sum_le {f : Nat → Int} {a b : Int} (hf : ∀ k, a ≤ f k ∧ f k ≤ b) : ∀ n, n * a ≤ zm_sum f n ∧ zm_sum f n ≤ n * b
  | 0 => by
    show ((0 : Nat) : Int) * a ≤ 0 ∧ 0 ≤ ((0 : Nat) : Int) * b
    omega
  | n + 1 => by
    have h1 := zm_sum_le hf n
    have h2 := hf n
    show ((n + 1 : Nat) : Int) * a ≤ zm_sum f n + f n ∧ zm_sum f n + f n ≤ ((n + 1 : Nat) : Int) * b
    rw [Int.natCast_add, Int.add_mul, Int.add_mul]
    omega
end
/-! 52.row -/
section
/-! ===== the reference: the row, what is in force, what one sees ===== -/
def zm_rs (t n : Int) : List (Int × Int) := (List.range n.toNat).map fun k : Nat => (t, (k : Int))
/-- the first place of a letter, -1 if it has none -/
def zm_at : List (Int × Int) → Int × Int → Int
  | [], _ => -1
  | x :: r, p => if x = p then 0 else if zm_at r p < 0 then -1 else zm_at r p + 1
theorem zm_at_ge (p : Int × Int) : ∀ r, -1 ≤ zm_at r p ∧ zm_at r p < r.length
  | [] => by
    show -1 ≤ (-1 : Int) ∧ (-1 : Int) < ((0 : Nat) : Int)
    omega
  | x :: r => by
    have h := zm_at_ge p r
    unfold zm_at
    rw [List.length_cons]
    split
    · omega
    · split
      · omega
      · omega
theorem zm_at_mem {p : Int × Int} : ∀ {r}, p ∈ r → 0 ≤ zm_at r p ∧ r[(zm_at r p).toNat]? = some p
  | [], h => by cases h
  | x :: r, h => by
    unfold zm_at
    by_cases e : x = p
    · rw [if_pos e]
      exact ⟨by omega, by rw [e]; rfl⟩
    · rw [if_neg e]
      rcases List.mem_cons.mp h with e1 | e1
      · exact absurd e1.symm e
      · have h2 := zm_at_mem e1
        rw [if_neg (by omega)]
        refine ⟨by omega, ?_⟩
        rw [show (zm_at r p + 1).toNat = (zm_at r p).toNat + 1 by omega, List.getElem?_cons_succ]
        exact h2.2
def zm_ins (c : Nat → Int) (t : Int) (row : List (Int × Int)) : List (Int × Int) :=
  row.take (if zm_o c t 8 < 0 then 0 else zm_at row (zm_o c t 8, zm_o c t 9) + 1).toNat ++ (zm_rs t (zm_o c t 5) ++ row.drop (if zm_o c t 8 < 0 then 0 else zm_at row (zm_o c t 8, zm_o c t 9) + 1).toNat)
def zm_row (c : Nat → Int) : List Int → List (Int × Int)
  | [] => []
  | t :: l => match l with
    | [] => zm_rs t (zm_o c t 5)
    | _ :: _ => if zm_o c t 2 = 0 then zm_ins c t (zm_row c l) else zm_row c l
/-- in force: 1 or 0 -/
def zm_fc (c : Nat → Int) : List Int → Int → Int
  | [], _ => 0
  | t :: l, x => match l with
    | [] => if x = t then 1 else 0
    | _ :: _ => if ¬ zm_ed c t ∧ zm_nm c t x then (if zm_o c t 2 = 3 then 1 else 0) else if x = t then (if zm_ed c t then 1 else 0) else zm_fc c l x
/-- the letters that one takes -/
def zm_tk (c : Nat → Int) (t : Int) : List (Int × Int) := (List.range (zm_o c t 5).toNat).map fun i : Nat => (zm_o c t (52 + 2 * (i : Int)), zm_o c t (52 + 2 * (i : Int) + 1))
def zm_cb (c : Nat → Int) (l0 b : List Int) (p : Int × Int) : Bool := b.any fun t => decide (zm_o c t 2 = 1) && (decide (zm_fc c l0 t = 1) && (zm_tk c t).contains p)
def zm_sn (c : Nat → Int) (l : List Int) (p : Int × Int) : Bool := decide (zm_fc c l p.1 = 1) && !(zm_cb c l l p)
theorem zm_rs_len (t n : Int) : (zm_rs t n).length = n.toNat := by
  unfold zm_rs
  rw [List.length_map, List.length_range]
theorem zm_rs_get (t n : Int) {k : Nat} (hk : k < n.toNat) : (zm_rs t n)[k]? = some (t, (k : Int)) := by
  unfold zm_rs
  rw [List.getElem?_map, List.getElem?_range hk]
  rfl
theorem zm_ins_len (c : Nat → Int) (t : Int) (row : List (Int × Int)) : (zm_ins c t row).length = row.length + (zm_o c t 5).toNat := by
  unfold zm_ins
  generalize (if zm_o c t 8 < 0 then 0 else zm_at row (zm_o c t 8, zm_o c t 9) + 1).toNat = n
  rw [List.length_append, List.length_append, zm_rs_len, List.length_take, List.length_drop]
  omega
/-- the row stands in its cells -/
def zm_rw (h : zv_H) (row : List (Int × Int)) : Prop := zv_I h 347 11 = row.length ∧ ∀ (k : Nat) (x : Int × Int), row[k]? = some x → zv_I h 352 k = x.1 ∧ zv_I h 353 k = x.2
theorem zm_rw_of {h h' : zv_H} {row : List (Int × Int)} (r : zm_rw h row) (e1 : zv_I h' 347 11 = zv_I h 347 11) (e2 : zv_I h' 352 = zv_I h 352) (e3 : zv_I h' 353 = zv_I h 353) : zm_rw h' row := by
  refine ⟨e1.trans r.1, fun k x hx => ?_⟩
  rw [e2, e3]
  exact r.2 k x hx
theorem zm_rowOf_l {h : zv_H} (hM : zm_M h) (d : Nat) (p : Int × Int) : ∀ (b a : List (Int × Int)), zm_rw h (a ++ b) → (a ++ b).length ≤ 640 → L9_rowOf_2 d 347 p.1 p.2 (a.length : Int) h = some (some (zv_i (if zm_at b p < 0 then -1 else a.length + zm_at b p)), h)
  | [], a, hr, _ => by
    rw [List.append_nil] at hr
    rw [qL9_rowOf_2, zm_e (zm_gI hM 11), hr.1, if_neg (by omega)]
    rw [show zm_at [] p = -1 from rfl, if_pos (by decide)]
  | x :: b, a, hr, hn => by
    have hl : (a ++ x :: b).length = a.length + (b.length + 1) := by rw [List.length_append, List.length_cons]
    have hx : (a ++ x :: b)[a.length]? = some x := by
      rw [List.getElem?_append_right (Nat.le_refl _), Nat.sub_self]
      rfl
    have h1 := hr.2 _ _ hx
    have ih := zm_rowOf_l hM d p b (a ++ [x]) (by rw [List.append_assoc]; exact hr) (by rw [List.append_assoc]; exact hn)
    have e1 : (((a ++ [x]).length : Nat) : Int) = (a.length : Int) + 1 := by
      rw [List.length_append]
      rfl
    have h3 := zm_at_ge p b
    have e2 : L9_rowOf_2 d 347 p.1 p.2 (zv_w ((a.length : Int) + 1)) h = some (some (zv_i (if zm_at b p < 0 then -1 else a.length + 1 + zm_at b p)), h) := by
      rw [zm_w (by omega), ← e1, ih, e1]
    rw [qL9_rowOf_2, zm_e (zm_gI hM 11), hr.1, if_pos (by omega), zm_e (zm_f6 hM), zm_e (zm_aI hM zm_l352 rfl (by omega) (by omega))]
    rw [show ((a.length : Int)).toNat = a.length by omega, h1.1]
    by_cases c1 : x.1 = p.1
    · rw [if_pos c1, zm_e (zm_f7 hM), zm_e (zm_aI hM zm_l353 rfl (by omega) (by omega))]
      rw [show ((a.length : Int)).toNat = a.length by omega, h1.2]
      by_cases c2 : x.2 = p.2
      · have e : x = p := Prod.ext c1 c2
        rw [if_pos c2, show zm_at (x :: b) p = 0 from if_pos e, if_neg (by omega), Int.add_zero]
      · have e : ¬ x = p := fun q => c2 (by rw [q])
        rw [if_neg c2, e2, show zm_at (x :: b) p = if zm_at b p < 0 then -1 else zm_at b p + 1 from if_neg e]
        by_cases c3 : zm_at b p < 0
        · rw [if_pos c3, if_pos c3, if_pos (by decide)]
        · rw [if_neg c3, if_neg c3, if_neg (by omega), show (a.length : Int) + 1 + zm_at b p = a.length + (zm_at b p + 1) by omega]
    · have e : ¬ x = p := fun q => c1 (by rw [q])
      rw [if_neg c1, e2, show zm_at (x :: b) p = if zm_at b p < 0 then -1 else zm_at b p + 1 from if_neg e]
      by_cases c3 : zm_at b p < 0
      · rw [if_pos c3, if_pos c3, if_pos (by decide)]
      · rw [if_neg c3, if_neg c3, if_neg (by omega), show (a.length : Int) + 1 + zm_at b p = a.length + (zm_at b p + 1) by omega]
theorem zm_rowOf {h : zv_H} (hM : zm_M h) (d : Nat) (x y : Int) {row : List (Int × Int)} (hr : zm_rw h row) (hn : row.length ≤ 640) : C9_rowOf (d + 1) 347 x y h = some (zm_at row (x, y), h) := by
  refine lC9_rowOf (zm_ob hM) ?_
  have h1 := zm_rowOf_l hM d (x, y) row [] hr hn
  have h2 := zm_at_ge (x, y) row
  rw [qE9_rowOf, show (0 : Int) = ((([] : List (Int × Int)).length : Nat) : Int) from rfl, h1]
  by_cases c : zm_at row (x, y) < 0
  · rw [if_pos c, show zm_at row (x, y) = -1 by omega]
  · rw [if_neg c, show ((([] : List (Int × Int)).length : Nat) : Int) = 0 from rfl, Int.zero_add]
/-! a word goes into the row -/
theorem zm_lets50 (d : Nat) (s at_ : Int) (n : Nat) (R1 R2 : Nat → Int) {L : Nat} (hL : L + n ≤ 640) (h0 : 0 ≤ at_) : ∀ (m : Nat) (h : zv_H), zm_M h → (m : Int) + at_ ≤ L → zv_I h 352 = (fun k : Nat => if at_ + m + n ≤ k ∧ k < L + n then R1 (k - n) else R1 k) → zv_I h 353 = (fun k : Nat => if at_ + m + n ≤ k ∧ k < L + n then R2 (k - n) else R2 k) →
    ∃ h', L9_letsIn_50 d 347 s at_ n (at_ + m - 1) h = L9_letsIn_50 d 347 s at_ n (at_ - 1) h' ∧ zm_F [352, 353] [] h h' ∧ zv_I h' 352 = (fun k : Nat => if at_ + n ≤ k ∧ k < L + n then R1 (k - n) else R1 k) ∧ zv_I h' 353 = (fun k : Nat => if at_ + n ≤ k ∧ k < L + n then R2 (k - n) else R2 k)
  | 0, h, _, _, e1, e2 => ⟨h, by rw [show at_ + ((0 : Nat) : Int) - 1 = at_ - 1 by omega], zm_F_r _ _ h, by rw [e1]; funext k; rw [show at_ + ((0 : Nat) : Int) + n = at_ + n by omega], by rw [e2]; funext k; rw [show at_ + ((0 : Nat) : Int) + n = at_ + n by omega]⟩
  | m + 1, h, hM, hm, e1, e2 => by
    have a1 : zv_aI h 352 (at_ + ((m + 1 : Nat) : Int) - 1) = some (R1 (at_ + m).toNat) := by
      rw [zm_aI hM zm_l352 rfl (by omega) (by omega), e1]
      dsimp only
      rw [if_neg (by omega)]
      rw [show (at_ + ((m + 1 : Nat) : Int) - 1).toNat = (at_ + m).toNat by omega]
    have hM1 := zm_M_sI (r := 352) (k := (at_ + m + n).toNat) (v := R1 (at_ + m).toNat) hM
    have a2 : zv_aI (zv_sI h 352 (at_ + m + n).toNat (R1 (at_ + m).toNat)) 353 (at_ + ((m + 1 : Nat) : Int) - 1) = some (R2 (at_ + m).toNat) := by
      rw [zm_aI hM1 zm_l353 rfl (by omega) (by omega), zm_so h _ _, e2]
      dsimp only
      rw [if_neg (by omega)]
      rw [show (at_ + ((m + 1 : Nat) : Int) - 1).toNat = (at_ + m).toNat by omega]
    have w1 : zv_w (at_ + ((m + 1 : Nat) : Int) - 1 + n) = at_ + m + n := by
      rw [zm_w (by omega)]
      omega
    have w2 : zv_w (at_ + ((m + 1 : Nat) : Int) - 1 + -1) = at_ + m - 1 := by
      rw [zm_w (by omega)]
      omega
    rw [qL9_letsIn_50, if_neg (by omega), zm_e (zm_f6 hM), zm_e (zm_f6 hM), zm_e a1, w1, zm_e (zm_wI hM zm_l352 rfl (by omega) (by omega) _), zm_e (zm_f7 hM1), zm_e (zm_f7 hM1), zm_e a2, zm_e (zm_wI hM1 zm_l353 rfl (by omega) (by omega) _), w2]
    obtain ⟨h', i1, i2, i3, i4⟩ := zm_lets50 d s at_ n R1 R2 hL h0 m (zv_sI (zv_sI h 352 (at_ + m + n).toNat (R1 (at_ + m).toNat)) 353 (at_ + m + n).toNat (R2 (at_ + m).toNat)) hM1 (by omega) (by
        rw [zm_so _ _ _, zm_ss, e1]
        funext k
        unfold zm_u
        dsimp only
        by_cases c : k = (at_ + m + n).toNat
        · rw [if_pos c, if_pos (by omega), show k - n = (at_ + m).toNat by omega]
        · rw [if_neg c]
          by_cases c2 : at_ + ((m + 1 : Nat) : Int) + n ≤ k ∧ k < L + n
          · rw [if_pos c2, if_pos (by omega)]
          · rw [if_neg c2, if_neg (by omega)]) (by
        rw [zm_ss, zm_so _ _ _, e2]
        funext k
        unfold zm_u
        dsimp only
        by_cases c : k = (at_ + m + n).toNat
        · rw [if_pos c, if_pos (by omega), show k - n = (at_ + m).toNat by omega]
        · rw [if_neg c]
          by_cases c2 : at_ + ((m + 1 : Nat) : Int) + n ≤ k ∧ k < L + n
          · rw [if_pos c2, if_pos (by omega)]
          · rw [if_neg c2, if_neg (by omega)])
    exact ⟨h', i1, zm_F_t (zm_F_I (zm_F_I (zm_F_r _ _ h) rfl _ _) rfl _ _) i2, i3, i4⟩
theorem zm_lets97 (d : Nat) (s at_ : Int) (n : Nat) (h0 : 0 ≤ at_) (hn : at_ + n ≤ 640) (R1 R2 : Nat → Int) : ∀ (m i : Nat) (h : zv_H), i + m = n → zm_M h → zv_I h 352 = (fun k : Nat => if at_ ≤ k ∧ k < at_ + i then s else R1 k) → zv_I h 353 = (fun k : Nat => if at_ ≤ k ∧ k < at_ + i then (k : Int) - at_ else R2 k) →
    ∃ h', L9_letsIn_97 d 347 s at_ n i h = L9_letsIn_97 d 347 s at_ n n h' ∧ zm_F [352, 353] [] h h' ∧ zv_I h' 352 = (fun k : Nat => if at_ ≤ k ∧ k < at_ + n then s else R1 k) ∧ zv_I h' 353 = (fun k : Nat => if at_ ≤ k ∧ k < at_ + n then (k : Int) - at_ else R2 k)
  | 0, i, h, hi, _, e1, e2 => by
    have e : i = n := by omega
    subst e
    exact ⟨h, rfl, zm_F_r _ _ h, e1, e2⟩
  | m + 1, i, h, hi, hM, e1, e2 => by
    have hM1 := zm_M_sI (r := 352) (k := (at_ + i).toNat) (v := s) hM
    have w1 : zv_w (at_ + (i : Int)) = at_ + i := zm_w (by omega)
    have w2 : zv_w ((i : Int) + 1) = ((i + 1 : Nat) : Int) := by
      rw [zm_w (by omega)]
      rfl
    rw [qL9_letsIn_97, if_pos (by omega), zm_e (zm_f6 hM), w1, zm_e (zm_wI hM zm_l352 rfl (by omega) (by omega) _), zm_e (zm_f7 hM1), zm_e (zm_wI hM1 zm_l353 rfl (by omega) (by omega) _), w2]
    obtain ⟨h', i1, i2, i3, i4⟩ := zm_lets97 d s at_ n h0 hn R1 R2 m (i + 1) (zv_sI (zv_sI h 352 (at_ + i).toNat s) 353 (at_ + i).toNat i) (by omega) hM1 (by
        rw [zm_so _ _ _, zm_ss, e1]
        funext k
        unfold zm_u
        dsimp only
        by_cases c : k = (at_ + i).toNat
        · rw [if_pos c, if_pos (by omega)]
        · rw [if_neg c]
          by_cases c2 : at_ ≤ (k : Int) ∧ (k : Int) < at_ + i
          · rw [if_pos c2, if_pos (by omega)]
          · rw [if_neg c2, if_neg (by omega)]) (by
        rw [zm_ss, zm_so _ _ _, e2]
        funext k
        unfold zm_u
        dsimp only
        by_cases c : k = (at_ + i).toNat
        · rw [if_pos c, if_pos (by omega)]
          omega
        · rw [if_neg c]
          by_cases c2 : at_ ≤ (k : Int) ∧ (k : Int) < at_ + i
          · rw [if_pos c2, if_pos (by omega)]
          · rw [if_neg c2, if_neg (by omega)])
    exact ⟨h', i1, zm_F_t (zm_F_I (zm_F_I (zm_F_r _ _ h) rfl _ _) rfl _ _) i2, i3, i4⟩
end
