theorem zk_0 : zv_chk 0 mc0_init = true := zy_chk_ok (by decide +kernel)
theorem zq_0 : zv_vM mc0_init ∧ zv_vP (some 0) mc0_init := ⟨zv_vM_of (ci := 0) rfl rfl zv_vPl_0 zk_0, rfl, (by decide +kernel), fun ci h => (by cases h; exact Or.inr ⟨_, (by decide), rfl, rfl⟩)⟩
theorem zk_1 : zv_chk 0 mc0_begin = true := zy_chk_ok (by decide +kernel)
theorem zq_1 : zv_vM mc0_begin ∧ zv_vP (some 0) mc0_begin := ⟨zv_vM_of (ci := 0) rfl rfl zv_vPl_0 zk_1, rfl, (by decide +kernel), fun ci h => (by cases h; exact Or.inr ⟨_, (by decide), rfl, rfl⟩)⟩
theorem zk_2 : zv_chk 0 mc0_startWith = true := zy_chk_ok (by decide +kernel)
theorem zq_2 : zv_vM mc0_startWith ∧ zv_vP (some 0) mc0_startWith := ⟨zv_vM_of (ci := 0) rfl rfl zv_vPl_0 zk_2, rfl, (by decide +kernel), fun ci h => (by cases h; exact Or.inr ⟨_, (by decide), rfl, rfl⟩)⟩
theorem zk_3 : zv_chk 0 mc0_at = true := zy_chk_ok (by decide +kernel)
theorem zq_3 : zv_vM mc0_at ∧ zv_vP (some 0) mc0_at := ⟨zv_vM_of (ci := 0) rfl rfl zv_vPl_0 zk_3, rfl, (by decide +kernel), fun ci h => (by cases h; exact Or.inr ⟨_, (by decide), rfl, rfl⟩)⟩
theorem zk_4 : zv_chk 0 mc0_glyph = true := zy_chk_ok (by decide +kernel)
theorem zq_4 : zv_vM mc0_glyph ∧ zv_vP (some 0) mc0_glyph := ⟨zv_vM_of (ci := 0) rfl rfl zv_vPl_0 zk_4, rfl, (by decide +kernel), fun ci h => (by cases h; exact Or.inr ⟨_, (by decide), rfl, rfl⟩)⟩
theorem zk_5 : zv_chk 0 mc0_setGlyph = true := zy_chk_ok (by decide +kernel)
theorem zq_5 : zv_vM mc0_setGlyph ∧ zv_vP (some 0) mc0_setGlyph := ⟨zv_vM_of (ci := 0) rfl rfl zv_vPl_0 zk_5, rfl, (by decide +kernel), fun ci h => (by cases h; exact Or.inr ⟨_, (by decide), rfl, rfl⟩)⟩
theorem zk_6 : zv_chk 0 mc0_letterAt = true := zy_chk_ok (by decide +kernel)
theorem zq_6 : zv_vM mc0_letterAt ∧ zv_vP (some 0) mc0_letterAt := ⟨zv_vM_of (ci := 0) rfl rfl zv_vPl_0 zk_6, rfl, (by decide +kernel), fun ci h => (by cases h; exact Or.inr ⟨_, (by decide), rfl, rfl⟩)⟩
theorem zk_7 : zv_chk 0 mc0_rowOfHere = true := zy_chk_ok (by decide +kernel)
theorem zq_7 : zv_vM mc0_rowOfHere ∧ zv_vP (some 0) mc0_rowOfHere := ⟨zv_vM_of (ci := 0) rfl rfl zv_vPl_0 zk_7, rfl, (by decide +kernel), fun ci h => (by cases h; exact Or.inr ⟨_, (by decide), rfl, rfl⟩)⟩
theorem zk_8 : zv_chk 0 mc0_leaves = true := zy_chk_ok (by decide +kernel)
theorem zq_8 : zv_vM mc0_leaves ∧ zv_vP (some 0) mc0_leaves := ⟨zv_vM_of (ci := 0) rfl rfl zv_vPl_0 zk_8, rfl, (by decide +kernel), fun ci h => (by cases h; exact Or.inr ⟨_, (by decide), rfl, rfl⟩)⟩
theorem zk_9 : zv_chk 0 mc0_groups = true := zy_chk_ok (by decide +kernel)
theorem zq_9 : zv_vM mc0_groups ∧ zv_vP (some 0) mc0_groups := ⟨zv_vM_of (ci := 0) rfl rfl zv_vPl_0 zk_9, rfl, (by decide +kernel), fun ci h => (by cases h; exact Or.inr ⟨_, (by decide), rfl, rfl⟩)⟩
theorem zk_10 : zv_chk 0 mc0_childOf = true := zy_chk_ok (by decide +kernel)
theorem zq_10 : zv_vM mc0_childOf ∧ zv_vP (some 0) mc0_childOf := ⟨zv_vM_of (ci := 0) rfl rfl zv_vPl_0 zk_10, rfl, (by decide +kernel), fun ci h => (by cases h; exact Or.inr ⟨_, (by decide), rfl, rfl⟩)⟩
theorem zk_11 : zv_chk 0 mc0_findNewest = true := zy_chk_ok (by decide +kernel)
theorem zq_11 : zv_vM mc0_findNewest ∧ zv_vP (some 0) mc0_findNewest := ⟨zv_vM_of (ci := 0) rfl rfl zv_vPl_0 zk_11, rfl, (by decide +kernel), fun ci h => (by cases h; exact Or.inr ⟨_, (by decide), rfl, rfl⟩)⟩
theorem zk_12 : zv_chk 0 mc0_newestChild = true := zy_chk_ok (by decide +kernel)
theorem zq_12 : zv_vM mc0_newestChild ∧ zv_vP (some 0) mc0_newestChild := ⟨zv_vM_of (ci := 0) rfl rfl zv_vPl_0 zk_12, rfl, (by decide +kernel), fun ci h => (by cases h; exact Or.inr ⟨_, (by decide), rfl, rfl⟩)⟩
theorem zk_13 : zv_chk 0 mc0_onLine = true := zy_chk_ok (by decide +kernel)
theorem zq_13 : zv_vM mc0_onLine ∧ zv_vP none mc0_onLine := ⟨zv_vM_of (ci := 0) rfl rfl zv_vPl_0 zk_13, rfl, (by decide +kernel), fun ci h => (by cases h)⟩
theorem zk_14 : zv_chk 0 mc0_above = true := zy_chk_ok (by decide +kernel)
theorem zq_14 : zv_vM mc0_above ∧ zv_vP none mc0_above := ⟨zv_vM_of (ci := 0) rfl rfl zv_vPl_0 zk_14, rfl, (by decide +kernel), fun ci h => (by cases h)⟩
theorem zk_15 : zv_chk 0 mc0_lettersOfHereBy = true := zy_chk_ok (by decide +kernel)
theorem zq_15 : zv_vM mc0_lettersOfHereBy ∧ zv_vP (some 0) mc0_lettersOfHereBy := ⟨zv_vM_of (ci := 0) rfl rfl zv_vPl_0 zk_15, rfl, (by decide +kernel), fun ci h => (by cases h; exact Or.inr ⟨_, (by decide), rfl, rfl⟩)⟩
theorem zk_16 : zv_chk 0 mc0_moveTo = true := zy_chk_ok (by decide +kernel)
theorem zq_16 : zv_vM mc0_moveTo ∧ zv_vP (some 0) mc0_moveTo := ⟨zv_vM_of (ci := 0) rfl rfl zv_vPl_0 zk_16, rfl, (by decide +kernel), fun ci h => (by cases h; exact Or.inr ⟨_, (by decide), rfl, rfl⟩)⟩
theorem zk_17 : zv_chk 0 mc0_grow = true := zy_chk_ok (by decide +kernel)
theorem zq_17 : zv_vM mc0_grow ∧ zv_vP (some 0) mc0_grow := ⟨zv_vM_of (ci := 0) rfl rfl zv_vPl_0 zk_17, rfl, (by decide +kernel), fun ci h => (by cases h; exact Or.inr ⟨_, (by decide), rfl, rfl⟩)⟩
theorem zk_18 : zv_chk 0 mc0_putWord = true := zy_chk_ok (by decide +kernel)
theorem zq_18 : zv_vM mc0_putWord ∧ zv_vP (some 0) mc0_putWord := ⟨zv_vM_of (ci := 0) rfl rfl zv_vPl_0 zk_18, rfl, (by decide +kernel), fun ci h => (by cases h; exact Or.inr ⟨_, (by decide), rfl, rfl⟩)⟩
theorem zk_19 : zv_chk 0 mc0_cutOut = true := zy_chk_ok (by decide +kernel)
theorem zq_19 : zv_vM mc0_cutOut ∧ zv_vP (some 0) mc0_cutOut := ⟨zv_vM_of (ci := 0) rfl rfl zv_vPl_0 zk_19, rfl, (by decide +kernel), fun ci h => (by cases h; exact Or.inr ⟨_, (by decide), rfl, rfl⟩)⟩
theorem zk_20 : zv_chk 0 mc0_baseOf = true := zy_chk_ok (by decide +kernel)
theorem zq_20 : zv_vM mc0_baseOf ∧ zv_vP none mc0_baseOf := ⟨zv_vM_of (ci := 0) rfl rfl zv_vPl_0 zk_20, rfl, (by decide +kernel), fun ci h => (by cases h)⟩
theorem zk_21 : zv_chk 0 mc0_joinGroup = true := zy_chk_ok (by decide +kernel)
theorem zq_21 : zv_vM mc0_joinGroup ∧ zv_vP (some 0) mc0_joinGroup := ⟨zv_vM_of (ci := 0) rfl rfl zv_vPl_0 zk_21, rfl, (by decide +kernel), fun ci h => (by cases h; exact Or.inr ⟨_, (by decide), rfl, rfl⟩)⟩
theorem zk_22 : zv_chk 0 mc0_isNear = true := zy_chk_ok (by decide +kernel)
theorem zq_22 : zv_vM mc0_isNear ∧ zv_vP none mc0_isNear := ⟨zv_vM_of (ci := 0) rfl rfl zv_vPl_0 zk_22, rfl, (by decide +kernel), fun ci h => (by cases h)⟩
theorem zk_23 : zv_chk 0 mc0_passTime = true := zy_chk_ok (by decide +kernel)
theorem zq_23 : zv_vM mc0_passTime ∧ zv_vP (some 0) mc0_passTime := ⟨zv_vM_of (ci := 0) rfl rfl zv_vPl_0 zk_23, rfl, (by decide +kernel), fun ci h => (by cases h; exact Or.inr ⟨_, (by decide), rfl, rfl⟩)⟩
theorem zk_24 : zv_chk 0 mc0_behind = true := zy_chk_ok (by decide +kernel)
theorem zq_24 : zv_vM mc0_behind ∧ zv_vP (some 0) mc0_behind := ⟨zv_vM_of (ci := 0) rfl rfl zv_vPl_0 zk_24, rfl, (by decide +kernel), fun ci h => (by cases h; exact Or.inr ⟨_, (by decide), rfl, rfl⟩)⟩
theorem zk_25 : zv_chk 0 mc0_stepBack = true := zy_chk_ok (by decide +kernel)
theorem zq_25 : zv_vM mc0_stepBack ∧ zv_vP (some 0) mc0_stepBack := ⟨zv_vM_of (ci := 0) rfl rfl zv_vPl_0 zk_25, rfl, (by decide +kernel), fun ci h => (by cases h; exact Or.inr ⟨_, (by decide), rfl, rfl⟩)⟩
theorem zk_26 : zv_chk 0 mc0_stepOn = true := zy_chk_ok (by decide +kernel)
theorem zq_26 : zv_vM mc0_stepOn ∧ zv_vP (some 0) mc0_stepOn := ⟨zv_vM_of (ci := 0) rfl rfl zv_vPl_0 zk_26, rfl, (by decide +kernel), fun ci h => (by cases h; exact Or.inr ⟨_, (by decide), rfl, rfl⟩)⟩
theorem zk_27 : zv_chk 0 mc0_goTo = true := zy_chk_ok (by decide +kernel)
theorem zq_27 : zv_vM mc0_goTo ∧ zv_vP (some 0) mc0_goTo := ⟨zv_vM_of (ci := 0) rfl rfl zv_vPl_0 zk_27, rfl, (by decide +kernel), fun ci h => (by cases h; exact Or.inr ⟨_, (by decide), rfl, rfl⟩)⟩
theorem zk_28 : zv_chk 0 mc0_nameHere = true := zy_chk_ok (by decide +kernel)
theorem zq_28 : zv_vM mc0_nameHere ∧ zv_vP (some 0) mc0_nameHere := ⟨zv_vM_of (ci := 0) rfl rfl zv_vPl_0 zk_28, rfl, (by decide +kernel), fun ci h => (by cases h; exact Or.inr ⟨_, (by decide), rfl, rfl⟩)⟩
theorem zk_29 : zv_chk 0 mc0_dropName = true := zy_chk_ok (by decide +kernel)
theorem zq_29 : zv_vM mc0_dropName ∧ zv_vP (some 0) mc0_dropName := ⟨zv_vM_of (ci := 0) rfl rfl zv_vPl_0 zk_29, rfl, (by decide +kernel), fun ci h => (by cases h; exact Or.inr ⟨_, (by decide), rfl, rfl⟩)⟩
theorem zk_30 : zv_chk 0 mc0_takeBack = true := zy_chk_ok (by decide +kernel)
theorem zq_30 : zv_vM mc0_takeBack ∧ zv_vP (some 0) mc0_takeBack := ⟨zv_vM_of (ci := 0) rfl rfl zv_vPl_0 zk_30, rfl, (by decide +kernel), fun ci h => (by cases h; exact Or.inr ⟨_, (by decide), rfl, rfl⟩)⟩
theorem zk_31 : zv_chk 0 mc0_giveBack = true := zy_chk_ok (by decide +kernel)
theorem zq_31 : zv_vM mc0_giveBack ∧ zv_vP (some 0) mc0_giveBack := ⟨zv_vM_of (ci := 0) rfl rfl zv_vPl_0 zk_31, rfl, (by decide +kernel), fun ci h => (by cases h; exact Or.inr ⟨_, (by decide), rfl, rfl⟩)⟩
theorem zk_32 : zv_chk 0 mc0_turn = true := zy_chk_ok (by decide +kernel)
theorem zq_32 : zv_vM mc0_turn ∧ zv_vP (some 0) mc0_turn := ⟨zv_vM_of (ci := 0) rfl rfl zv_vPl_0 zk_32, rfl, (by decide +kernel), fun ci h => (by cases h; exact Or.inr ⟨_, (by decide), rfl, rfl⟩)⟩
theorem zk_33 : zv_chk 0 mc0_carryOver = true := zy_chk_ok (by decide +kernel)
theorem zq_33 : zv_vM mc0_carryOver ∧ zv_vP (some 0) mc0_carryOver := ⟨zv_vM_of (ci := 0) rfl rfl zv_vPl_0 zk_33, rfl, (by decide +kernel), fun ci h => (by cases h; exact Or.inr ⟨_, (by decide), rfl, rfl⟩)⟩
theorem zk_34 : zv_chk 0 mc0_standForThemselves = true := zy_chk_ok (by decide +kernel)
theorem zq_34 : zv_vM mc0_standForThemselves ∧ zv_vP (some 0) mc0_standForThemselves := ⟨zv_vM_of (ci := 0) rfl rfl zv_vPl_0 zk_34, rfl, (by decide +kernel), fun ci h => (by cases h; exact Or.inr ⟨_, (by decide), rfl, rfl⟩)⟩
theorem zk_35 : zv_chk 0 mc0_standOf = true := zy_chk_ok (by decide +kernel)
theorem zq_35 : zv_vM mc0_standOf ∧ zv_vP (some 0) mc0_standOf := ⟨zv_vM_of (ci := 0) rfl rfl zv_vPl_0 zk_35, rfl, (by decide +kernel), fun ci h => (by cases h; exact Or.inr ⟨_, (by decide), rfl, rfl⟩)⟩
theorem zk_36 : zv_chk 0 mc0_carryOne = true := zy_chk_ok (by decide +kernel)
theorem zq_36 : zv_vM mc0_carryOne ∧ zv_vP (some 0) mc0_carryOne := ⟨zv_vM_of (ci := 0) rfl rfl zv_vPl_0 zk_36, rfl, (by decide +kernel), fun ci h => (by cases h; exact Or.inr ⟨_, (by decide), rfl, rfl⟩)⟩
theorem zk_37 : zv_chk 0 mc0_firstTaken = true := zy_chk_ok (by decide +kernel)
theorem zq_37 : zv_vM mc0_firstTaken ∧ zv_vP (some 0) mc0_firstTaken := ⟨zv_vM_of (ci := 0) rfl rfl zv_vPl_0 zk_37, rfl, (by decide +kernel), fun ci h => (by cases h; exact Or.inr ⟨_, (by decide), rfl, rfl⟩)⟩
theorem zk_38 : zv_chk 0 mc0_takenFrom = true := zy_chk_ok (by decide +kernel)
theorem zq_38 : zv_vM mc0_takenFrom ∧ zv_vP (some 0) mc0_takenFrom := ⟨zv_vM_of (ci := 0) rfl rfl zv_vPl_0 zk_38, rfl, (by decide +kernel), fun ci h => (by cases h; exact Or.inr ⟨_, (by decide), rfl, rfl⟩)⟩
theorem zk_39 : zv_chk 0 mc0_takes = true := zy_chk_ok (by decide +kernel)
theorem zq_39 : zv_vM mc0_takes ∧ zv_vP (some 0) mc0_takes := ⟨zv_vM_of (ci := 0) rfl rfl zv_vPl_0 zk_39, rfl, (by decide +kernel), fun ci h => (by cases h; exact Or.inr ⟨_, (by decide), rfl, rfl⟩)⟩
theorem zk_40 : zv_chk 0 mc0_mergeIn = true := zy_chk_ok (by decide +kernel)
theorem zq_40 : zv_vM mc0_mergeIn ∧ zv_vP (some 0) mc0_mergeIn := ⟨zv_vM_of (ci := 0) rfl rfl zv_vPl_0 zk_40, rfl, (by decide +kernel), fun ci h => (by cases h; exact Or.inr ⟨_, (by decide), rfl, rfl⟩)⟩
theorem zk_41 : zv_chk 0 mc0_mergeOnPaper = true := zy_chk_ok (by decide +kernel)
theorem zq_41 : zv_vM mc0_mergeOnPaper ∧ zv_vP (some 0) mc0_mergeOnPaper := ⟨zv_vM_of (ci := 0) rfl rfl zv_vPl_0 zk_41, rfl, (by decide +kernel), fun ci h => (by cases h; exact Or.inr ⟨_, (by decide), rfl, rfl⟩)⟩
theorem zk_42 : zv_chk 0 mc0_remove = true := zy_chk_ok (by decide +kernel)
theorem zq_42 : zv_vM mc0_remove ∧ zv_vP (some 0) mc0_remove := ⟨zv_vM_of (ci := 0) rfl rfl zv_vPl_0 zk_42, rfl, (by decide +kernel), fun ci h => (by cases h; exact Or.inr ⟨_, (by decide), rfl, rfl⟩)⟩
theorem zk_43 : zv_chk 0 mc0_nextToGo = true := zy_chk_ok (by decide +kernel)
theorem zq_43 : zv_vM mc0_nextToGo ∧ zv_vP (some 0) mc0_nextToGo := ⟨zv_vM_of (ci := 0) rfl rfl zv_vPl_0 zk_43, rfl, (by decide +kernel), fun ci h => (by cases h; exact Or.inr ⟨_, (by decide), rfl, rfl⟩)⟩
theorem zk_44 : zv_chk 0 mc0_pruneTo = true := zy_chk_ok (by decide +kernel)
theorem zq_44 : zv_vM mc0_pruneTo ∧ zv_vP (some 0) mc0_pruneTo := ⟨zv_vM_of (ci := 0) rfl rfl zv_vPl_0 zk_44, rfl, (by decide +kernel), fun ci h => (by cases h; exact Or.inr ⟨_, (by decide), rfl, rfl⟩)⟩
theorem zk_45 : zv_chk 0 mc0_nearest = true := zy_chk_ok (by decide +kernel)
theorem zq_45 : zv_vM mc0_nearest ∧ zv_vP none mc0_nearest := ⟨zv_vM_of (ci := 0) rfl rfl zv_vPl_0 zk_45, rfl, (by decide +kernel), fun ci h => (by cases h)⟩
theorem zk_46 : zv_chk 0 mc0_wayLength = true := zy_chk_ok (by decide +kernel)
theorem zq_46 : zv_vM mc0_wayLength ∧ zv_vP none mc0_wayLength := ⟨zv_vM_of (ci := 0) rfl rfl zv_vPl_0 zk_46, rfl, (by decide +kernel), fun ci h => (by cases h)⟩
theorem zk_47 : zv_chk 0 mc0_onWay = true := zy_chk_ok (by decide +kernel)
theorem zq_47 : zv_vM mc0_onWay ∧ zv_vP none mc0_onWay := ⟨zv_vM_of (ci := 0) rfl rfl zv_vPl_0 zk_47, rfl, (by decide +kernel), fun ci h => (by cases h)⟩
theorem zk_48 : zv_chk 0 mc0_keptOf = true := zy_chk_ok (by decide +kernel)
theorem zq_48 : zv_vM mc0_keptOf ∧ zv_vP (some 0) mc0_keptOf := ⟨zv_vM_of (ci := 0) rfl rfl zv_vPl_0 zk_48, rfl, (by decide +kernel), fun ci h => (by cases h; exact Or.inr ⟨_, (by decide), rfl, rfl⟩)⟩
theorem zk_49 : zv_chk 0 mc0_firstDifference = true := zy_chk_ok (by decide +kernel)
theorem zq_49 : zv_vM mc0_firstDifference ∧ zv_vP (some 0) mc0_firstDifference := ⟨zv_vM_of (ci := 0) rfl rfl zv_vPl_0 zk_49, rfl, (by decide +kernel), fun ci h => (by cases h; exact Or.inr ⟨_, (by decide), rfl, rfl⟩)⟩
theorem zk_50 : zv_chk 0 mc0_longestCommon = true := zy_chk_ok (by decide +kernel)
theorem zq_50 : zv_vM mc0_longestCommon ∧ zv_vP (some 0) mc0_longestCommon := ⟨zv_vM_of (ci := 0) rfl rfl zv_vPl_0 zk_50, rfl, (by decide +kernel), fun ci h => (by cases h; exact Or.inr ⟨_, (by decide), rfl, rfl⟩)⟩
theorem zk_51 : zv_chk 0 mc0_placeIn = true := zy_chk_ok (by decide +kernel)
theorem zq_51 : zv_vM mc0_placeIn ∧ zv_vP (some 0) mc0_placeIn := ⟨zv_vM_of (ci := 0) rfl rfl zv_vPl_0 zk_51, rfl, (by decide +kernel), fun ci h => (by cases h; exact Or.inr ⟨_, (by decide), rfl, rfl⟩)⟩
theorem zk_52 : zv_chk 0 mc0_leastWith = true := zy_chk_ok (by decide +kernel)
theorem zq_52 : zv_vM mc0_leastWith ∧ zv_vP (some 0) mc0_leastWith := ⟨zv_vM_of (ci := 0) rfl rfl zv_vPl_0 zk_52, rfl, (by decide +kernel), fun ci h => (by cases h; exact Or.inr ⟨_, (by decide), rfl, rfl⟩)⟩
theorem zk_53 : zv_chk 0 mc0_statesWith = true := zy_chk_ok (by decide +kernel)
theorem zq_53 : zv_vM mc0_statesWith ∧ zv_vP (some 0) mc0_statesWith := ⟨zv_vM_of (ci := 0) rfl rfl zv_vPl_0 zk_53, rfl, (by decide +kernel), fun ci h => (by cases h; exact Or.inr ⟨_, (by decide), rfl, rfl⟩)⟩
theorem zk_54 : zv_chk 0 mc0_twinOf = true := zy_chk_ok (by decide +kernel)
theorem zq_54 : zv_vM mc0_twinOf ∧ zv_vP (some 0) mc0_twinOf := ⟨zv_vM_of (ci := 0) rfl rfl zv_vPl_0 zk_54, rfl, (by decide +kernel), fun ci h => (by cases h; exact Or.inr ⟨_, (by decide), rfl, rfl⟩)⟩
theorem zk_55 : zv_chk 1 mc1_init = true := zy_chk_ok (by decide +kernel)
theorem zq_55 : zv_vM mc1_init ∧ zv_vP (some 1) mc1_init := ⟨zv_vM_of (ci := 1) rfl rfl zv_vPl_1 zk_55, rfl, (by decide +kernel), fun ci h => (by cases h; exact Or.inr ⟨_, (by decide), rfl, rfl⟩)⟩
theorem zk_56 : zv_chk 1 mc1_clear = true := zy_chk_ok (by decide +kernel)
theorem zq_56 : zv_vM mc1_clear ∧ zv_vP (some 1) mc1_clear := ⟨zv_vM_of (ci := 1) rfl rfl zv_vPl_1 zk_56, rfl, (by decide +kernel), fun ci h => (by cases h; exact Or.inr ⟨_, (by decide), rfl, rfl⟩)⟩
theorem zk_57 : zv_chk 1 mc1_usual = true := zy_chk_ok (by decide +kernel)
theorem zq_57 : zv_vM mc1_usual ∧ zv_vP (some 1) mc1_usual := ⟨zv_vM_of (ci := 1) rfl rfl zv_vPl_1 zk_57, rfl, (by decide +kernel), fun ci h => (by cases h; exact Or.inr ⟨_, (by decide), rfl, rfl⟩)⟩
theorem zk_58 : zv_chk 1 mc1_compare = true := zy_chk_ok (by decide +kernel)
theorem zq_58 : zv_vM mc1_compare ∧ zv_vP (some 1) mc1_compare := ⟨zv_vM_of (ci := 1) rfl rfl zv_vPl_1 zk_58, rfl, (by decide +kernel), fun ci h => (by cases h; exact Or.inr ⟨_, (by decide), rfl, rfl⟩)⟩
theorem zk_59 : zv_chk 1 mc1_add = true := zy_chk_ok (by decide +kernel)
theorem zq_59 : zv_vM mc1_add ∧ zv_vP (some 1) mc1_add := ⟨zv_vM_of (ci := 1) rfl rfl zv_vPl_1 zk_59, rfl, (by decide +kernel), fun ci h => (by cases h; exact Or.inr ⟨_, (by decide), rfl, rfl⟩)⟩
theorem zk_60 : zv_chk 1 mc1_set = true := zy_chk_ok (by decide +kernel)
theorem zq_60 : zv_vM mc1_set ∧ zv_vP (some 1) mc1_set := ⟨zv_vM_of (ci := 1) rfl rfl zv_vPl_1 zk_60, rfl, (by decide +kernel), fun ci h => (by cases h; exact Or.inr ⟨_, (by decide), rfl, rfl⟩)⟩
theorem zk_61 : zv_chk 1 mc1_holds = true := zy_chk_ok (by decide +kernel)
theorem zq_61 : zv_vM mc1_holds ∧ zv_vP (some 1) mc1_holds := ⟨zv_vM_of (ci := 1) rfl rfl zv_vPl_1 zk_61, rfl, (by decide +kernel), fun ci h => (by cases h; exact Or.inr ⟨_, (by decide), rfl, rfl⟩)⟩
theorem zk_62 : zv_chk 2 mc2_init = true := zy_chk_ok (by decide +kernel)
theorem zq_62 : zv_vM mc2_init ∧ zv_vP (some 2) mc2_init := ⟨zv_vM_of (ci := 2) rfl rfl zv_vPl_2 zk_62, rfl, (by decide +kernel), fun ci h => (by cases h; exact Or.inr ⟨_, (by decide), rfl, rfl⟩)⟩
theorem zk_63 : zv_chk 2 mc2_indexOf = true := zy_chk_ok (by decide +kernel)
theorem zq_63 : zv_vM mc2_indexOf ∧ zv_vP (some 2) mc2_indexOf := ⟨zv_vM_of (ci := 2) rfl rfl zv_vPl_2 zk_63, rfl, (by decide +kernel), fun ci h => (by cases h; exact Or.inr ⟨_, (by decide), rfl, rfl⟩)⟩
theorem zk_64 : zv_chk 2 mc2_keyAt = true := zy_chk_ok (by decide +kernel)
theorem zq_64 : zv_vM mc2_keyAt ∧ zv_vP (some 2) mc2_keyAt := ⟨zv_vM_of (ci := 2) rfl rfl zv_vPl_2 zk_64, rfl, (by decide +kernel), fun ci h => (by cases h; exact Or.inr ⟨_, (by decide), rfl, rfl⟩)⟩
theorem zk_65 : zv_chk 2 mc2_ownerAt = true := zy_chk_ok (by decide +kernel)
theorem zq_65 : zv_vM mc2_ownerAt ∧ zv_vP (some 2) mc2_ownerAt := ⟨zv_vM_of (ci := 2) rfl rfl zv_vPl_2 zk_65, rfl, (by decide +kernel), fun ci h => (by cases h; exact Or.inr ⟨_, (by decide), rfl, rfl⟩)⟩
theorem zk_66 : zv_chk 2 mc2_countOf = true := zy_chk_ok (by decide +kernel)
theorem zq_66 : zv_vM mc2_countOf ∧ zv_vP (some 2) mc2_countOf := ⟨zv_vM_of (ci := 2) rfl rfl zv_vPl_2 zk_66, rfl, (by decide +kernel), fun ci h => (by cases h; exact Or.inr ⟨_, (by decide), rfl, rfl⟩)⟩
theorem zk_67 : zv_chk 2 mc2_own = true := zy_chk_ok (by decide +kernel)
theorem zq_67 : zv_vM mc2_own ∧ zv_vP (some 2) mc2_own := ⟨zv_vM_of (ci := 2) rfl rfl zv_vPl_2 zk_67, rfl, (by decide +kernel), fun ci h => (by cases h; exact Or.inr ⟨_, (by decide), rfl, rfl⟩)⟩
theorem zk_68 : zv_chk 2 mc2_drop = true := zy_chk_ok (by decide +kernel)
theorem zq_68 : zv_vM mc2_drop ∧ zv_vP (some 2) mc2_drop := ⟨zv_vM_of (ci := 2) rfl rfl zv_vPl_2 zk_68, rfl, (by decide +kernel), fun ci h => (by cases h; exact Or.inr ⟨_, (by decide), rfl, rfl⟩)⟩
theorem zk_69 : zv_chk 3 mc3_init = true := zy_chk_ok (by decide +kernel)
theorem zq_69 : zv_vM mc3_init ∧ zv_vP (some 3) mc3_init := ⟨zv_vM_of (ci := 3) rfl rfl zv_vPl_3 zk_69, rfl, (by decide +kernel), fun ci h => (by cases h; exact Or.inr ⟨_, (by decide), rfl, rfl⟩)⟩
theorem zk_70 : zv_chk 3 mc3_addByte = true := zy_chk_ok (by decide +kernel)
theorem zq_70 : zv_vM mc3_addByte ∧ zv_vP (some 3) mc3_addByte := ⟨zv_vM_of (ci := 3) rfl rfl zv_vPl_3 zk_70, rfl, (by decide +kernel), fun ci h => (by cases h; exact Or.inr ⟨_, (by decide), rfl, rfl⟩)⟩
theorem zk_71 : zv_chk 3 mc3_byteAt = true := zy_chk_ok (by decide +kernel)
theorem zq_71 : zv_vM mc3_byteAt ∧ zv_vP (some 3) mc3_byteAt := ⟨zv_vM_of (ci := 3) rfl rfl zv_vPl_3 zk_71, rfl, (by decide +kernel), fun ci h => (by cases h; exact Or.inr ⟨_, (by decide), rfl, rfl⟩)⟩
theorem zk_72 : zv_chk 3 mc3_fail = true := zy_chk_ok (by decide +kernel)
theorem zq_72 : zv_vM mc3_fail ∧ zv_vP (some 3) mc3_fail := ⟨zv_vM_of (ci := 3) rfl rfl zv_vPl_3 zk_72, rfl, (by decide +kernel), fun ci h => (by cases h; exact Or.inr ⟨_, (by decide), rfl, rfl⟩)⟩
theorem zk_73 : zv_chk 3 mc3_more = true := zy_chk_ok (by decide +kernel)
theorem zq_73 : zv_vM mc3_more ∧ zv_vP (some 3) mc3_more := ⟨zv_vM_of (ci := 3) rfl rfl zv_vPl_3 zk_73, rfl, (by decide +kernel), fun ci h => (by cases h; exact Or.inr ⟨_, (by decide), rfl, rfl⟩)⟩
theorem zk_74 : zv_chk 3 mc3_begin = true := zy_chk_ok (by decide +kernel)
theorem zq_74 : zv_vM mc3_begin ∧ zv_vP (some 3) mc3_begin := ⟨zv_vM_of (ci := 3) rfl rfl zv_vPl_3 zk_74, rfl, (by decide +kernel), fun ci h => (by cases h; exact Or.inr ⟨_, (by decide), rfl, rfl⟩)⟩
theorem zk_75 : zv_chk 3 mc3_next = true := zy_chk_ok (by decide +kernel)
theorem zq_75 : zv_vM mc3_next ∧ zv_vP (some 3) mc3_next := ⟨zv_vM_of (ci := 3) rfl rfl zv_vPl_3 zk_75, rfl, (by decide +kernel), fun ci h => (by cases h; exact Or.inr ⟨_, (by decide), rfl, rfl⟩)⟩
theorem zk_76 : zv_chk 3 mc3_isSmall = true := zy_chk_ok (by decide +kernel)
theorem zq_76 : zv_vM mc3_isSmall ∧ zv_vP none mc3_isSmall := ⟨zv_vM_of (ci := 3) rfl rfl zv_vPl_3 zk_76, rfl, (by decide +kernel), fun ci h => (by cases h)⟩
theorem zk_77 : zv_chk 3 mc3_isDigit = true := zy_chk_ok (by decide +kernel)
theorem zq_77 : zv_vM mc3_isDigit ∧ zv_vP none mc3_isDigit := ⟨zv_vM_of (ci := 3) rfl rfl zv_vPl_3 zk_77, rfl, (by decide +kernel), fun ci h => (by cases h)⟩
theorem zk_78 : zv_chk 3 mc3_is = true := zy_chk_ok (by decide +kernel)
theorem zq_78 : zv_vM mc3_is ∧ zv_vP (some 3) mc3_is := ⟨zv_vM_of (ci := 3) rfl rfl zv_vPl_3 zk_78, rfl, (by decide +kernel), fun ci h => (by cases h; exact Or.inr ⟨_, (by decide), rfl, rfl⟩)⟩
theorem zk_79 : zv_chk 3 mc3_isSign = true := zy_chk_ok (by decide +kernel)
theorem zq_79 : zv_vM mc3_isSign ∧ zv_vP (some 3) mc3_isSign := ⟨zv_vM_of (ci := 3) rfl rfl zv_vPl_3 zk_79, rfl, (by decide +kernel), fun ci h => (by cases h; exact Or.inr ⟨_, (by decide), rfl, rfl⟩)⟩
theorem zk_80 : zv_chk 3 mc3_head = true := zy_chk_ok (by decide +kernel)
theorem zq_80 : zv_vM mc3_head ∧ zv_vP (some 3) mc3_head := ⟨zv_vM_of (ci := 3) rfl rfl zv_vPl_3 zk_80, rfl, (by decide +kernel), fun ci h => (by cases h; exact Or.inr ⟨_, (by decide), rfl, rfl⟩)⟩
theorem zk_81 : zv_chk 3 mc3_closed = true := zy_chk_ok (by decide +kernel)
theorem zq_81 : zv_vM mc3_closed ∧ zv_vP (some 3) mc3_closed := ⟨zv_vM_of (ci := 3) rfl rfl zv_vPl_3 zk_81, rfl, (by decide +kernel), fun ci h => (by cases h; exact Or.inr ⟨_, (by decide), rfl, rfl⟩)⟩
theorem zk_82 : zv_chk 3 mc3_spelled = true := zy_chk_ok (by decide +kernel)
theorem zq_82 : zv_vM mc3_spelled ∧ zv_vP (some 3) mc3_spelled := ⟨zv_vM_of (ci := 3) rfl rfl zv_vPl_3 zk_82, rfl, (by decide +kernel), fun ci h => (by cases h; exact Or.inr ⟨_, (by decide), rfl, rfl⟩)⟩
theorem zk_83 : zv_chk 3 mc3_test = true := zy_chk_ok (by decide +kernel)
theorem zq_83 : zv_vM mc3_test ∧ zv_vP (some 3) mc3_test := ⟨zv_vM_of (ci := 3) rfl rfl zv_vPl_3 zk_83, rfl, (by decide +kernel), fun ci h => (by cases h; exact Or.inr ⟨_, (by decide), rfl, rfl⟩)⟩
theorem zk_84 : zv_chk 3 mc3_side = true := zy_chk_ok (by decide +kernel)
theorem zq_84 : zv_vM mc3_side ∧ zv_vP (some 3) mc3_side := ⟨zv_vM_of (ci := 3) rfl rfl zv_vPl_3 zk_84, rfl, (by decide +kernel), fun ci h => (by cases h; exact Or.inr ⟨_, (by decide), rfl, rfl⟩)⟩
theorem zk_85 : zv_chk 3 mc3_fact = true := zy_chk_ok (by decide +kernel)
theorem zq_85 : zv_vM mc3_fact ∧ zv_vP (some 3) mc3_fact := ⟨zv_vM_of (ci := 3) rfl rfl zv_vPl_3 zk_85, rfl, (by decide +kernel), fun ci h => (by cases h; exact Or.inr ⟨_, (by decide), rfl, rfl⟩)⟩
theorem zk_86 : zv_chk 3 mc3_comparison = true := zy_chk_ok (by decide +kernel)
theorem zq_86 : zv_vM mc3_comparison ∧ zv_vP (some 3) mc3_comparison := ⟨zv_vM_of (ci := 3) rfl rfl zv_vPl_3 zk_86, rfl, (by decide +kernel), fun ci h => (by cases h; exact Or.inr ⟨_, (by decide), rfl, rfl⟩)⟩
theorem zk_87 : zv_chk 3 mc3_asked = true := zy_chk_ok (by decide +kernel)
theorem zq_87 : zv_vM mc3_asked ∧ zv_vP (some 3) mc3_asked := ⟨zv_vM_of (ci := 3) rfl rfl zv_vPl_3 zk_87, rfl, (by decide +kernel), fun ci h => (by cases h; exact Or.inr ⟨_, (by decide), rfl, rfl⟩)⟩
theorem zk_88 : zv_chk 3 mc3_line = true := zy_chk_ok (by decide +kernel)
theorem zq_88 : zv_vM mc3_line ∧ zv_vP (some 3) mc3_line := ⟨zv_vM_of (ci := 3) rfl rfl zv_vPl_3 zk_88, rfl, (by decide +kernel), fun ci h => (by cases h; exact Or.inr ⟨_, (by decide), rfl, rfl⟩)⟩
theorem zk_89 : zv_chk 3 mc3_verbHere = true := zy_chk_ok (by decide +kernel)
theorem zq_89 : zv_vM mc3_verbHere ∧ zv_vP (some 3) mc3_verbHere := ⟨zv_vM_of (ci := 3) rfl rfl zv_vPl_3 zk_89, rfl, (by decide +kernel), fun ci h => (by cases h; exact Or.inr ⟨_, (by decide), rfl, rfl⟩)⟩
theorem zk_90 : zv_chk 4 mc4_init = true := zy_chk_ok (by decide +kernel)
theorem zq_90 : zv_vM mc4_init ∧ zv_vP (some 4) mc4_init := ⟨zv_vM_of (ci := 4) rfl rfl zv_vPl_4 zk_90, rfl, (by decide +kernel), fun ci h => (by cases h; exact Or.inr ⟨_, (by decide), rfl, rfl⟩)⟩
theorem zk_91 : zv_chk 4 mc4_id = true := zy_chk_ok (by decide +kernel)
theorem zq_91 : zv_vM mc4_id ∧ zv_vP none mc4_id := ⟨zv_vM_of (ci := 4) rfl rfl zv_vPl_4 zk_91, rfl, (by decide +kernel), fun ci h => (by cases h)⟩
theorem zk_92 : zv_chk 4 mc4_putter = true := zy_chk_ok (by decide +kernel)
theorem zq_92 : zv_vM mc4_putter ∧ zv_vP none mc4_putter := ⟨zv_vM_of (ci := 4) rfl rfl zv_vPl_4 zk_92, rfl, (by decide +kernel), fun ci h => (by cases h)⟩
theorem zk_93 : zv_chk 4 mc4_order = true := zy_chk_ok (by decide +kernel)
theorem zq_93 : zv_vM mc4_order ∧ zv_vP none mc4_order := ⟨zv_vM_of (ci := 4) rfl rfl zv_vPl_4 zk_93, rfl, (by decide +kernel), fun ci h => (by cases h)⟩
theorem zk_94 : zv_chk 4 mc4_isId = true := zy_chk_ok (by decide +kernel)
theorem zq_94 : zv_vM mc4_isId ∧ zv_vP none mc4_isId := ⟨zv_vM_of (ci := 4) rfl rfl zv_vPl_4 zk_94, rfl, (by decide +kernel), fun ci h => (by cases h)⟩
theorem zk_95 : zv_chk 4 mc4_lay = true := zy_chk_ok (by decide +kernel)
theorem zq_95 : zv_vM mc4_lay ∧ zv_vP (some 4) mc4_lay := ⟨zv_vM_of (ci := 4) rfl rfl zv_vPl_4 zk_95, rfl, (by decide +kernel), fun ci h => (by cases h; exact Or.inr ⟨_, (by decide), rfl, rfl⟩)⟩
theorem zk_96 : zv_chk 4 mc4_walk = true := zy_chk_ok (by decide +kernel)
theorem zq_96 : zv_vM mc4_walk ∧ zv_vP (some 4) mc4_walk := ⟨zv_vM_of (ci := 4) rfl rfl zv_vPl_4 zk_96, rfl, (by decide +kernel), fun ci h => (by cases h; exact Or.inr ⟨_, (by decide), rfl, rfl⟩)⟩
theorem zk_97 : zv_chk 4 mc4_link = true := zy_chk_ok (by decide +kernel)
theorem zq_97 : zv_vM mc4_link ∧ zv_vP (some 4) mc4_link := ⟨zv_vM_of (ci := 4) rfl rfl zv_vPl_4 zk_97, rfl, (by decide +kernel), fun ci h => (by cases h; exact Or.inr ⟨_, (by decide), rfl, rfl⟩)⟩
theorem zk_98 : zv_chk 4 mc4_look = true := zy_chk_ok (by decide +kernel)
theorem zq_98 : zv_vM mc4_look ∧ zv_vP (some 4) mc4_look := ⟨zv_vM_of (ci := 4) rfl rfl zv_vPl_4 zk_98, rfl, (by decide +kernel), fun ci h => (by cases h; exact Or.inr ⟨_, (by decide), rfl, rfl⟩)⟩
theorem zk_99 : zv_chk 4 mc4_numberAt = true := zy_chk_ok (by decide +kernel)
theorem zq_99 : zv_vM mc4_numberAt ∧ zv_vP (some 4) mc4_numberAt := ⟨zv_vM_of (ci := 4) rfl rfl zv_vPl_4 zk_99, rfl, (by decide +kernel), fun ci h => (by cases h; exact Or.inr ⟨_, (by decide), rfl, rfl⟩)⟩
theorem zk_100 : zv_chk 4 mc4_idAt = true := zy_chk_ok (by decide +kernel)
theorem zq_100 : zv_vM mc4_idAt ∧ zv_vP (some 4) mc4_idAt := ⟨zv_vM_of (ci := 4) rfl rfl zv_vPl_4 zk_100, rfl, (by decide +kernel), fun ci h => (by cases h; exact Or.inr ⟨_, (by decide), rfl, rfl⟩)⟩
theorem zk_101 : zv_chk 4 mc4_seesAt = true := zy_chk_ok (by decide +kernel)
theorem zq_101 : zv_vM mc4_seesAt ∧ zv_vP (some 4) mc4_seesAt := ⟨zv_vM_of (ci := 4) rfl rfl zv_vPl_4 zk_101, rfl, (by decide +kernel), fun ci h => (by cases h; exact Or.inr ⟨_, (by decide), rfl, rfl⟩)⟩
theorem zk_102 : zv_chk 4 mc4_placeOf = true := zy_chk_ok (by decide +kernel)
theorem zq_102 : zv_vM mc4_placeOf ∧ zv_vP (some 4) mc4_placeOf := ⟨zv_vM_of (ci := 4) rfl rfl zv_vPl_4 zk_102, rfl, (by decide +kernel), fun ci h => (by cases h; exact Or.inr ⟨_, (by decide), rfl, rfl⟩)⟩
theorem zk_103 : zv_chk 4 mc4_seenUpTo = true := zy_chk_ok (by decide +kernel)
theorem zq_103 : zv_vM mc4_seenUpTo ∧ zv_vP (some 4) mc4_seenUpTo := ⟨zv_vM_of (ci := 4) rfl rfl zv_vPl_4 zk_103, rfl, (by decide +kernel), fun ci h => (by cases h; exact Or.inr ⟨_, (by decide), rfl, rfl⟩)⟩
theorem zk_104 : zv_chk 4 mc4_outOfForce = true := zy_chk_ok (by decide +kernel)
theorem zq_104 : zv_vM mc4_outOfForce ∧ zv_vP (some 4) mc4_outOfForce := ⟨zv_vM_of (ci := 4) rfl rfl zv_vPl_4 zk_104, rfl, (by decide +kernel), fun ci h => (by cases h; exact Or.inr ⟨_, (by decide), rfl, rfl⟩)⟩
theorem zk_105 : zv_chk 4 mc4_cutsInForce = true := zy_chk_ok (by decide +kernel)
theorem zq_105 : zv_vM mc4_cutsInForce ∧ zv_vP (some 4) mc4_cutsInForce := ⟨zv_vM_of (ci := 4) rfl rfl zv_vPl_4 zk_105, rfl, (by decide +kernel), fun ci h => (by cases h; exact Or.inr ⟨_, (by decide), rfl, rfl⟩)⟩
theorem zk_106 : zv_chk 4 mc4_lastCut = true := zy_chk_ok (by decide +kernel)
theorem zq_106 : zv_vM mc4_lastCut ∧ zv_vP (some 4) mc4_lastCut := ⟨zv_vM_of (ci := 4) rfl rfl zv_vPl_4 zk_106, rfl, (by decide +kernel), fun ci h => (by cases h; exact Or.inr ⟨_, (by decide), rfl, rfl⟩)⟩
theorem zk_107 : zv_chk 4 mc4_leaningOn = true := zy_chk_ok (by decide +kernel)
theorem zq_107 : zv_vM mc4_leaningOn ∧ zv_vP (some 4) mc4_leaningOn := ⟨zv_vM_of (ci := 4) rfl rfl zv_vPl_4 zk_107, rfl, (by decide +kernel), fun ci h => (by cases h; exact Or.inr ⟨_, (by decide), rfl, rfl⟩)⟩
theorem zk_108 : zv_chk 4 mc4_groundOf = true := zy_chk_ok (by decide +kernel)
theorem zq_108 : zv_vM mc4_groundOf ∧ zv_vP (some 4) mc4_groundOf := ⟨zv_vM_of (ci := 4) rfl rfl zv_vPl_4 zk_108, rfl, (by decide +kernel), fun ci h => (by cases h; exact Or.inr ⟨_, (by decide), rfl, rfl⟩)⟩
theorem zk_109 : zv_chk 5 mc5_init = true := zy_chk_ok (by decide +kernel)
theorem zq_109 : zv_vM mc5_init ∧ zv_vP (some 5) mc5_init := ⟨zv_vM_of (ci := 5) rfl rfl zv_vPl_5 zk_109, rfl, (by decide +kernel), fun ci h => (by cases h; exact Or.inr ⟨_, (by decide), rfl, rfl⟩)⟩
theorem zk_110 : zv_chk 5 mc5_open = true := zy_chk_ok (by decide +kernel)
theorem zq_110 : zv_vM mc5_open ∧ zv_vP (some 5) mc5_open := ⟨zv_vM_of (ci := 5) rfl rfl zv_vPl_5 zk_110, rfl, (by decide +kernel), fun ci h => (by cases h; exact Or.inr ⟨_, (by decide), rfl, rfl⟩)⟩
theorem zk_111 : zv_chk 5 mc5_bit = true := zy_chk_ok (by decide +kernel)
theorem zq_111 : zv_vM mc5_bit ∧ zv_vP (some 5) mc5_bit := ⟨zv_vM_of (ci := 5) rfl rfl zv_vPl_5 zk_111, rfl, (by decide +kernel), fun ci h => (by cases h; exact Or.inr ⟨_, (by decide), rfl, rfl⟩)⟩
theorem zk_112 : zv_chk 5 mc5_edits = true := zy_chk_ok (by decide +kernel)
theorem zq_112 : zv_vM mc5_edits ∧ zv_vP (some 5) mc5_edits := ⟨zv_vM_of (ci := 5) rfl rfl zv_vPl_5 zk_112, rfl, (by decide +kernel), fun ci h => (by cases h; exact Or.inr ⟨_, (by decide), rfl, rfl⟩)⟩
theorem zk_113 : zv_chk 5 mc5_brings = true := zy_chk_ok (by decide +kernel)
theorem zq_113 : zv_vM mc5_brings ∧ zv_vP (some 5) mc5_brings := ⟨zv_vM_of (ci := 5) rfl rfl zv_vPl_5 zk_113, rfl, (by decide +kernel), fun ci h => (by cases h; exact Or.inr ⟨_, (by decide), rfl, rfl⟩)⟩
theorem zk_114 : zv_chk 5 mc5_idAt = true := zy_chk_ok (by decide +kernel)
theorem zq_114 : zv_vM mc5_idAt ∧ zv_vP (some 5) mc5_idAt := ⟨zv_vM_of (ci := 5) rfl rfl zv_vPl_5 zk_114, rfl, (by decide +kernel), fun ci h => (by cases h; exact Or.inr ⟨_, (by decide), rfl, rfl⟩)⟩
theorem zk_115 : zv_chk 5 mc5_addId = true := zy_chk_ok (by decide +kernel)
theorem zq_115 : zv_vM mc5_addId ∧ zv_vP (some 5) mc5_addId := ⟨zv_vM_of (ci := 5) rfl rfl zv_vPl_5 zk_115, rfl, (by decide +kernel), fun ci h => (by cases h; exact Or.inr ⟨_, (by decide), rfl, rfl⟩)⟩
theorem zk_116 : zv_chk 5 mc5_tookAt = true := zy_chk_ok (by decide +kernel)
theorem zq_116 : zv_vM mc5_tookAt ∧ zv_vP (some 5) mc5_tookAt := ⟨zv_vM_of (ci := 5) rfl rfl zv_vPl_5 zk_116, rfl, (by decide +kernel), fun ci h => (by cases h; exact Or.inr ⟨_, (by decide), rfl, rfl⟩)⟩
theorem zk_117 : zv_chk 5 mc5_tookIt = true := zy_chk_ok (by decide +kernel)
theorem zq_117 : zv_vM mc5_tookIt ∧ zv_vP (some 5) mc5_tookIt := ⟨zv_vM_of (ci := 5) rfl rfl zv_vPl_5 zk_117, rfl, (by decide +kernel), fun ci h => (by cases h; exact Or.inr ⟨_, (by decide), rfl, rfl⟩)⟩
theorem zk_118 : zv_chk 6 mc6_init = true := zy_chk_ok (by decide +kernel)
theorem zq_118 : zv_vM mc6_init ∧ zv_vP (some 6) mc6_init := ⟨zv_vM_of (ci := 6) rfl rfl zv_vPl_6 zk_118, rfl, (by decide +kernel), fun ci h => (by cases h; exact Or.inr ⟨_, (by decide), rfl, rfl⟩)⟩
theorem zk_119 : zv_chk 6 mc6_add = true := zy_chk_ok (by decide +kernel)
theorem zq_119 : zv_vM mc6_add ∧ zv_vP (some 6) mc6_add := ⟨zv_vM_of (ci := 6) rfl rfl zv_vPl_6 zk_119, rfl, (by decide +kernel), fun ci h => (by cases h; exact Or.inr ⟨_, (by decide), rfl, rfl⟩)⟩
theorem zk_120 : zv_chk 6 mc6_slot = true := zy_chk_ok (by decide +kernel)
theorem zq_120 : zv_vM mc6_slot ∧ zv_vP (some 6) mc6_slot := ⟨zv_vM_of (ci := 6) rfl rfl zv_vPl_6 zk_120, rfl, (by decide +kernel), fun ci h => (by cases h; exact Or.inr ⟨_, (by decide), rfl, rfl⟩)⟩
theorem zk_121 : zv_chk 6 mc6_stateAt = true := zy_chk_ok (by decide +kernel)
theorem zq_121 : zv_vM mc6_stateAt ∧ zv_vP (some 6) mc6_stateAt := ⟨zv_vM_of (ci := 6) rfl rfl zv_vPl_6 zk_121, rfl, (by decide +kernel), fun ci h => (by cases h; exact Or.inr ⟨_, (by decide), rfl, rfl⟩)⟩
theorem zk_122 : zv_chk 6 mc6_timeAt = true := zy_chk_ok (by decide +kernel)
theorem zq_122 : zv_vM mc6_timeAt ∧ zv_vP (some 6) mc6_timeAt := ⟨zv_vM_of (ci := 6) rfl rfl zv_vPl_6 zk_122, rfl, (by decide +kernel), fun ci h => (by cases h; exact Or.inr ⟨_, (by decide), rfl, rfl⟩)⟩
theorem zk_123 : zv_chk 6 mc6_forget = true := zy_chk_ok (by decide +kernel)
theorem zq_123 : zv_vM mc6_forget ∧ zv_vP (some 6) mc6_forget := ⟨zv_vM_of (ci := 6) rfl rfl zv_vPl_6 zk_123, rfl, (by decide +kernel), fun ci h => (by cases h; exact Or.inr ⟨_, (by decide), rfl, rfl⟩)⟩
theorem zk_124 : zv_chk 6 mc6_keep = true := zy_chk_ok (by decide +kernel)
theorem zq_124 : zv_vM mc6_keep ∧ zv_vP (some 6) mc6_keep := ⟨zv_vM_of (ci := 6) rfl rfl zv_vPl_6 zk_124, rfl, (by decide +kernel), fun ci h => (by cases h; exact Or.inr ⟨_, (by decide), rfl, rfl⟩)⟩
theorem zk_125 : zv_chk 6 mc6_giveBack = true := zy_chk_ok (by decide +kernel)
theorem zq_125 : zv_vM mc6_giveBack ∧ zv_vP (some 6) mc6_giveBack := ⟨zv_vM_of (ci := 6) rfl rfl zv_vPl_6 zk_125, rfl, (by decide +kernel), fun ci h => (by cases h; exact Or.inr ⟨_, (by decide), rfl, rfl⟩)⟩
theorem zk_126 : zv_chk 7 mc7_init = true := zy_chk_ok (by decide +kernel)
theorem zq_126 : zv_vM mc7_init ∧ zv_vP (some 7) mc7_init := ⟨zv_vM_of (ci := 7) rfl rfl zv_vPl_7 zk_126, rfl, (by decide +kernel), fun ci h => (by cases h; exact Or.inr ⟨_, (by decide), rfl, rfl⟩)⟩
theorem zk_127 : zv_chk 7 mc7_clear = true := zy_chk_ok (by decide +kernel)
theorem zq_127 : zv_vM mc7_clear ∧ zv_vP (some 7) mc7_clear := ⟨zv_vM_of (ci := 7) rfl rfl zv_vPl_7 zk_127, rfl, (by decide +kernel), fun ci h => (by cases h; exact Or.inr ⟨_, (by decide), rfl, rfl⟩)⟩
theorem zk_128 : zv_chk 7 mc7_add = true := zy_chk_ok (by decide +kernel)
theorem zq_128 : zv_vM mc7_add ∧ zv_vP (some 7) mc7_add := ⟨zv_vM_of (ci := 7) rfl rfl zv_vPl_7 zk_128, rfl, (by decide +kernel), fun ci h => (by cases h; exact Or.inr ⟨_, (by decide), rfl, rfl⟩)⟩
theorem zk_129 : zv_chk 7 mc7_at = true := zy_chk_ok (by decide +kernel)
theorem zq_129 : zv_vM mc7_at ∧ zv_vP (some 7) mc7_at := ⟨zv_vM_of (ci := 7) rfl rfl zv_vPl_7 zk_129, rfl, (by decide +kernel), fun ci h => (by cases h; exact Or.inr ⟨_, (by decide), rfl, rfl⟩)⟩
theorem zk_130 : zv_chk 7 mc7_key = true := zy_chk_ok (by decide +kernel)
theorem zq_130 : zv_vM mc7_key ∧ zv_vP (some 7) mc7_key := ⟨zv_vM_of (ci := 7) rfl rfl zv_vPl_7 zk_130, rfl, (by decide +kernel), fun ci h => (by cases h; exact Or.inr ⟨_, (by decide), rfl, rfl⟩)⟩
theorem zk_131 : zv_chk 8 mc8_init = true := zy_chk_ok (by decide +kernel)
theorem zq_131 : zv_vM mc8_init ∧ zv_vP (some 8) mc8_init := ⟨zv_vM_of (ci := 8) rfl rfl zv_vPl_8 zk_131, rfl, (by decide +kernel), fun ci h => (by cases h; exact Or.inr ⟨_, (by decide), rfl, rfl⟩)⟩
theorem zk_132 : zv_chk 8 mc8_refused = true := zy_chk_ok (by decide +kernel)
theorem zq_132 : zv_vM mc8_refused ∧ zv_vP (some 8) mc8_refused := ⟨zv_vM_of (ci := 8) rfl rfl zv_vPl_8 zk_132, rfl, (by decide +kernel), fun ci h => (by cases h; exact Or.inr ⟨_, (by decide), rfl, rfl⟩)⟩
theorem zk_133 : zv_chk 8 mc8_given = true := zy_chk_ok (by decide +kernel)
theorem zq_133 : zv_vM mc8_given ∧ zv_vP (some 8) mc8_given := ⟨zv_vM_of (ci := 8) rfl rfl zv_vPl_8 zk_133, rfl, (by decide +kernel), fun ci h => (by cases h; exact Or.inr ⟨_, (by decide), rfl, rfl⟩)⟩
theorem zk_134 : zv_chk 8 mc8_answered = true := zy_chk_ok (by decide +kernel)
theorem zq_134 : zv_vM mc8_answered ∧ zv_vP (some 8) mc8_answered := ⟨zv_vM_of (ci := 8) rfl rfl zv_vPl_8 zk_134, rfl, (by decide +kernel), fun ci h => (by cases h; exact Or.inr ⟨_, (by decide), rfl, rfl⟩)⟩
theorem zk_135 : zv_chk 8 mc8_within = true := zy_chk_ok (by decide +kernel)
theorem zq_135 : zv_vM mc8_within ∧ zv_vP none mc8_within := ⟨zv_vM_of (ci := 8) rfl rfl zv_vPl_8 zk_135, rfl, (by decide +kernel), fun ci h => (by cases h)⟩
theorem zk_136 : zv_chk 8 mc8_status = true := zy_chk_ok (by decide +kernel)
theorem zq_136 : zv_vM mc8_status ∧ zv_vP (some 8) mc8_status := ⟨zv_vM_of (ci := 8) rfl rfl zv_vPl_8 zk_136, rfl, (by decide +kernel), fun ci h => (by cases h; exact Or.inr ⟨_, (by decide), rfl, rfl⟩)⟩
theorem zk_137 : zv_chk 8 mc8_feed = true := zy_chk_ok (by decide +kernel)
theorem zq_137 : zv_vM mc8_feed ∧ zv_vP (some 8) mc8_feed := ⟨zv_vM_of (ci := 8) rfl rfl zv_vPl_8 zk_137, rfl, (by decide +kernel), fun ci h => (by cases h; exact Or.inr ⟨_, (by decide), rfl, rfl⟩)⟩
theorem zk_138 : zv_chk 8 mc8_feedInt = true := zy_chk_ok (by decide +kernel)
theorem zq_138 : zv_vM mc8_feedInt ∧ zv_vP (some 8) mc8_feedInt := ⟨zv_vM_of (ci := 8) rfl rfl zv_vPl_8 zk_138, rfl, (by decide +kernel), fun ci h => (by cases h; exact Or.inr ⟨_, (by decide), rfl, rfl⟩)⟩
theorem zk_139 : zv_chk 8 mc8_fault = true := zy_chk_ok (by decide +kernel)
theorem zq_139 : zv_vM mc8_fault ∧ zv_vP (some 8) mc8_fault := ⟨zv_vM_of (ci := 8) rfl rfl zv_vPl_8 zk_139, rfl, (by decide +kernel), fun ci h => (by cases h; exact Or.inr ⟨_, (by decide), rfl, rfl⟩)⟩
theorem zk_140 : zv_chk 8 mc8_type = true := zy_chk_ok (by decide +kernel)
theorem zq_140 : zv_vM mc8_type ∧ zv_vP (some 8) mc8_type := ⟨zv_vM_of (ci := 8) rfl rfl zv_vPl_8 zk_140, rfl, (by decide +kernel), fun ci h => (by cases h; exact Or.inr ⟨_, (by decide), rfl, rfl⟩)⟩
theorem zk_141 : zv_chk 8 mc8_typedLetter = true := zy_chk_ok (by decide +kernel)
theorem zq_141 : zv_vM mc8_typedLetter ∧ zv_vP none mc8_typedLetter := ⟨zv_vM_of (ci := 8) rfl rfl zv_vPl_8 zk_141, rfl, (by decide +kernel), fun ci h => (by cases h)⟩
theorem zk_142 : zv_chk 8 mc8_load = true := zy_chk_ok (by decide +kernel)
theorem zq_142 : zv_vM mc8_load ∧ zv_vP (some 8) mc8_load := ⟨zv_vM_of (ci := 8) rfl rfl zv_vPl_8 zk_142, rfl, (by decide +kernel), fun ci h => (by cases h; exact Or.inr ⟨_, (by decide), rfl, rfl⟩)⟩
theorem zk_143 : zv_chk 8 mc8_done = true := zy_chk_ok (by decide +kernel)
theorem zq_143 : zv_vM mc8_done ∧ zv_vP (some 8) mc8_done := ⟨zv_vM_of (ci := 8) rfl rfl zv_vPl_8 zk_143, rfl, (by decide +kernel), fun ci h => (by cases h; exact Or.inr ⟨_, (by decide), rfl, rfl⟩)⟩
theorem zk_144 : zv_chk 8 mc8_many = true := zy_chk_ok (by decide +kernel)
theorem zq_144 : zv_vM mc8_many ∧ zv_vP (some 8) mc8_many := ⟨zv_vM_of (ci := 8) rfl rfl zv_vPl_8 zk_144, rfl, (by decide +kernel), fun ci h => (by cases h; exact Or.inr ⟨_, (by decide), rfl, rfl⟩)⟩
theorem zk_145 : zv_chk 8 mc8_letter = true := zy_chk_ok (by decide +kernel)
theorem zq_145 : zv_vM mc8_letter ∧ zv_vP (some 8) mc8_letter := ⟨zv_vM_of (ci := 8) rfl rfl zv_vPl_8 zk_145, rfl, (by decide +kernel), fun ci h => (by cases h; exact Or.inr ⟨_, (by decide), rfl, rfl⟩)⟩
theorem zk_146 : zv_chk 8 mc8_state = true := zy_chk_ok (by decide +kernel)
theorem zq_146 : zv_vM mc8_state ∧ zv_vP (some 8) mc8_state := ⟨zv_vM_of (ci := 8) rfl rfl zv_vPl_8 zk_146, rfl, (by decide +kernel), fun ci h => (by cases h; exact Or.inr ⟨_, (by decide), rfl, rfl⟩)⟩
theorem zk_147 : zv_chk 8 mc8_child = true := zy_chk_ok (by decide +kernel)
theorem zq_147 : zv_vM mc8_child ∧ zv_vP (some 8) mc8_child := ⟨zv_vM_of (ci := 8) rfl rfl zv_vPl_8 zk_147, rfl, (by decide +kernel), fun ci h => (by cases h; exact Or.inr ⟨_, (by decide), rfl, rfl⟩)⟩
theorem zk_148 : zv_chk 8 mc8_force = true := zy_chk_ok (by decide +kernel)
theorem zq_148 : zv_vM mc8_force ∧ zv_vP (some 8) mc8_force := ⟨zv_vM_of (ci := 8) rfl rfl zv_vPl_8 zk_148, rfl, (by decide +kernel), fun ci h => (by cases h; exact Or.inr ⟨_, (by decide), rfl, rfl⟩)⟩
theorem zk_149 : zv_chk 8 mc8_blame = true := zy_chk_ok (by decide +kernel)
theorem zq_149 : zv_vM mc8_blame ∧ zv_vP (some 8) mc8_blame := ⟨zv_vM_of (ci := 8) rfl rfl zv_vPl_8 zk_149, rfl, (by decide +kernel), fun ci h => (by cases h; exact Or.inr ⟨_, (by decide), rfl, rfl⟩)⟩
theorem zk_150 : zv_chk 8 mc8_row = true := zy_chk_ok (by decide +kernel)
theorem zq_150 : zv_vM mc8_row ∧ zv_vP (some 8) mc8_row := ⟨zv_vM_of (ci := 8) rfl rfl zv_vPl_8 zk_150, rfl, (by decide +kernel), fun ci h => (by cases h; exact Or.inr ⟨_, (by decide), rfl, rfl⟩)⟩
theorem zk_151 : zv_chk 8 mc8_visit = true := zy_chk_ok (by decide +kernel)
theorem zq_151 : zv_vM mc8_visit ∧ zv_vP (some 8) mc8_visit := ⟨zv_vM_of (ci := 8) rfl rfl zv_vPl_8 zk_151, rfl, (by decide +kernel), fun ci h => (by cases h; exact Or.inr ⟨_, (by decide), rfl, rfl⟩)⟩
theorem zk_152 : zv_chk 8 mc8_named = true := zy_chk_ok (by decide +kernel)
theorem zq_152 : zv_vM mc8_named ∧ zv_vP (some 8) mc8_named := ⟨zv_vM_of (ci := 8) rfl rfl zv_vPl_8 zk_152, rfl, (by decide +kernel), fun ci h => (by cases h; exact Or.inr ⟨_, (by decide), rfl, rfl⟩)⟩
theorem zk_153 : zv_chk 8 mc8_leans = true := zy_chk_ok (by decide +kernel)
theorem zq_153 : zv_vM mc8_leans ∧ zv_vP (some 8) mc8_leans := ⟨zv_vM_of (ci := 8) rfl rfl zv_vPl_8 zk_153, rfl, (by decide +kernel), fun ci h => (by cases h; exact Or.inr ⟨_, (by decide), rfl, rfl⟩)⟩
theorem zk_154 : zv_chk 8 mc8_put = true := zy_chk_ok (by decide +kernel)
theorem zq_154 : zv_vM mc8_put ∧ zv_vP (some 8) mc8_put := ⟨zv_vM_of (ci := 8) rfl rfl zv_vPl_8 zk_154, rfl, (by decide +kernel), fun ci h => (by cases h; exact Or.inr ⟨_, (by decide), rfl, rfl⟩)⟩
theorem zk_155 : zv_chk 8 mc8_cut = true := zy_chk_ok (by decide +kernel)
theorem zq_155 : zv_vM mc8_cut ∧ zv_vP (some 8) mc8_cut := ⟨zv_vM_of (ci := 8) rfl rfl zv_vPl_8 zk_155, rfl, (by decide +kernel), fun ci h => (by cases h; exact Or.inr ⟨_, (by decide), rfl, rfl⟩)⟩
theorem zk_156 : zv_chk 8 mc8_wait = true := zy_chk_ok (by decide +kernel)
theorem zq_156 : zv_vM mc8_wait ∧ zv_vP (some 8) mc8_wait := ⟨zv_vM_of (ci := 8) rfl rfl zv_vPl_8 zk_156, rfl, (by decide +kernel), fun ci h => (by cases h; exact Or.inr ⟨_, (by decide), rfl, rfl⟩)⟩
theorem zk_157 : zv_chk 8 mc8_undo = true := zy_chk_ok (by decide +kernel)
theorem zq_157 : zv_vM mc8_undo ∧ zv_vP (some 8) mc8_undo := ⟨zv_vM_of (ci := 8) rfl rfl zv_vPl_8 zk_157, rfl, (by decide +kernel), fun ci h => (by cases h; exact Or.inr ⟨_, (by decide), rfl, rfl⟩)⟩
theorem zk_158 : zv_chk 8 mc8_redo = true := zy_chk_ok (by decide +kernel)
theorem zq_158 : zv_vM mc8_redo ∧ zv_vP (some 8) mc8_redo := ⟨zv_vM_of (ci := 8) rfl rfl zv_vPl_8 zk_158, rfl, (by decide +kernel), fun ci h => (by cases h; exact Or.inr ⟨_, (by decide), rfl, rfl⟩)⟩
theorem zk_159 : zv_chk 8 mc8_go = true := zy_chk_ok (by decide +kernel)
theorem zq_159 : zv_vM mc8_go ∧ zv_vP (some 8) mc8_go := ⟨zv_vM_of (ci := 8) rfl rfl zv_vPl_8 zk_159, rfl, (by decide +kernel), fun ci h => (by cases h; exact Or.inr ⟨_, (by decide), rfl, rfl⟩)⟩
theorem zk_160 : zv_chk 8 mc8_name = true := zy_chk_ok (by decide +kernel)
theorem zq_160 : zv_vM mc8_name ∧ zv_vP (some 8) mc8_name := ⟨zv_vM_of (ci := 8) rfl rfl zv_vPl_8 zk_160, rfl, (by decide +kernel), fun ci h => (by cases h; exact Or.inr ⟨_, (by decide), rfl, rfl⟩)⟩
theorem zk_161 : zv_chk 8 mc8_unname = true := zy_chk_ok (by decide +kernel)
theorem zq_161 : zv_vM mc8_unname ∧ zv_vP (some 8) mc8_unname := ⟨zv_vM_of (ci := 8) rfl rfl zv_vPl_8 zk_161, rfl, (by decide +kernel), fun ci h => (by cases h; exact Or.inr ⟨_, (by decide), rfl, rfl⟩)⟩
theorem zk_162 : zv_chk 8 mc8_withdraw = true := zy_chk_ok (by decide +kernel)
theorem zq_162 : zv_vM mc8_withdraw ∧ zv_vP (some 8) mc8_withdraw := ⟨zv_vM_of (ci := 8) rfl rfl zv_vPl_8 zk_162, rfl, (by decide +kernel), fun ci h => (by cases h; exact Or.inr ⟨_, (by decide), rfl, rfl⟩)⟩
theorem zk_163 : zv_chk 8 mc8_restore = true := zy_chk_ok (by decide +kernel)
theorem zq_163 : zv_vM mc8_restore ∧ zv_vP (some 8) mc8_restore := ⟨zv_vM_of (ci := 8) rfl rfl zv_vPl_8 zk_163, rfl, (by decide +kernel), fun ci h => (by cases h; exact Or.inr ⟨_, (by decide), rfl, rfl⟩)⟩
theorem zk_164 : zv_chk 8 mc8_carry = true := zy_chk_ok (by decide +kernel)
theorem zq_164 : zv_vM mc8_carry ∧ zv_vP (some 8) mc8_carry := ⟨zv_vM_of (ci := 8) rfl rfl zv_vPl_8 zk_164, rfl, (by decide +kernel), fun ci h => (by cases h; exact Or.inr ⟨_, (by decide), rfl, rfl⟩)⟩
