theorem zySL_law : zy_srt 0 mcL_law.2.1 = true := by decide +kernel
set_option maxRecDepth 100000 in
theorem qEL_law (d : Nat) (a0 : Nat) (h : zv_H) : EL_law d a0 h =
  ((zv_nO h 8).bind fun g1 =>
  ((C8_init d (zv_n h + 1) g1).bind fun g2 =>
  ((zv_nO g2 9).bind fun g3 =>
  ((C9_init d (zv_n g2 + 1) g3).bind fun g4 =>
  LL_law_18 d a0 (zv_n h + 1) (zv_n g2 + 1) (0 : Int) g4)))) := by
  refine (zy_lim_eq zySL_law _ _ _ _).trans ?_
  rfl
set_option maxRecDepth 100000 in
theorem qLL_law_18 (d : Nat) (a0 : Nat) (a1 : Nat) (a2 : Nat) (a3 : Int) (h : zv_H) : LL_law_18 d a0 a1 a2 a3 h =
  ((zv_al h a0).bind fun v1 =>
  (if a3 ≤ (zv_w (v1 - (6 : Int))) then
    ((zv_aI h a0 a3).bind fun v2 =>
    (if (zv_and v2 (63 : Int)) = (0 : Int) then
      ((C8_status d a1 h).bind fun q3 =>
      ((C9_status d a2 q3.2).bind fun q4 =>
      LL_law_18 d a0 a1 a2 (zv_w (a3 + 6)) q4.2))
    else
    if (zv_and v2 (63 : Int)) = (1 : Int) then
      ((zv_aI h a0 (zv_w (a3 + (1 : Int)))).bind fun v5 =>
      ((zv_aI h a0 (zv_w (a3 + (2 : Int)))).bind fun v6 =>
      ((zv_aI h a0 (zv_w (a3 + (3 : Int)))).bind fun v7 =>
      ((zv_aI h a0 (zv_w (a3 + (4 : Int)))).bind fun v8 =>
      ((zv_aI h a0 (zv_w (a3 + (5 : Int)))).bind fun v9 =>
      ((C8_feed d a1 v5 v6 v7 v8 v9 h).bind fun q10 =>
      ((zv_aI q10.2 a0 (zv_w (a3 + (1 : Int)))).bind fun v11 =>
      ((zv_aI q10.2 a0 (zv_w (a3 + (2 : Int)))).bind fun v12 =>
      ((zv_aI q10.2 a0 (zv_w (a3 + (3 : Int)))).bind fun v13 =>
      ((zv_aI q10.2 a0 (zv_w (a3 + (4 : Int)))).bind fun v14 =>
      ((zv_aI q10.2 a0 (zv_w (a3 + (5 : Int)))).bind fun v15 =>
      ((C9_feed d a2 v11 v12 v13 v14 v15 q10.2).bind fun q16 =>
      LL_law_18 d a0 a1 a2 (zv_w (a3 + 6)) q16.2))))))))))))
    else
    if (zv_and v2 (63 : Int)) = (2 : Int) then
      ((zv_aI h a0 (zv_w (a3 + (1 : Int)))).bind fun v17 =>
      ((C8_load d a1 v17 h).bind fun q18 =>
      ((zv_aI q18.2 a0 (zv_w (a3 + (1 : Int)))).bind fun v19 =>
      ((C9_load d a2 v19 q18.2).bind fun q20 =>
      LL_law_18 d a0 a1 a2 (zv_w (a3 + 6)) q20.2))))
    else
    if (zv_and v2 (63 : Int)) = (3 : Int) then
      ((zv_aI h a0 (zv_w (a3 + (1 : Int)))).bind fun v21 =>
      ((C8_fault d a1 v21 h).bind fun q22 =>
      ((zv_aI q22.2 a0 (zv_w (a3 + (1 : Int)))).bind fun v23 =>
      ((C9_fault d a2 v23 q22.2).bind fun q24 =>
      LL_law_18 d a0 a1 a2 (zv_w (a3 + 6)) q24.2))))
    else
    if (zv_and v2 (63 : Int)) = (4 : Int) then
      ((zv_aI h a0 (zv_w (a3 + (1 : Int)))).bind fun v25 =>
      ((zv_aI h a0 (zv_w (a3 + (2 : Int)))).bind fun v26 =>
      ((C8_type d a1 v25 v26 h).bind fun q27 =>
      ((zv_aI q27.2 a0 (zv_w (a3 + (1 : Int)))).bind fun v28 =>
      ((zv_aI q27.2 a0 (zv_w (a3 + (2 : Int)))).bind fun v29 =>
      ((C9_type d a2 v28 v29 q27.2).bind fun q30 =>
      LL_law_18 d a0 a1 a2 (zv_w (a3 + 6)) q30.2))))))
    else
    if (zv_and v2 (63 : Int)) = (5 : Int) then
      ((zv_aI h a0 (zv_w (a3 + (1 : Int)))).bind fun v31 =>
      ((C8_many d a1 v31 h).bind fun q32 =>
      ((zv_aI q32.2 a0 (zv_w (a3 + (1 : Int)))).bind fun v33 =>
      ((C9_many d a2 v33 q32.2).bind fun q34 =>
      LL_law_18 d a0 a1 a2 (zv_w (a3 + 6)) q34.2))))
    else
    if (zv_and v2 (63 : Int)) = (6 : Int) then
      ((zv_aI h a0 (zv_w (a3 + (1 : Int)))).bind fun v35 =>
      ((zv_aI h a0 (zv_w (a3 + (2 : Int)))).bind fun v36 =>
      ((C8_letter d a1 v35 v36 h).bind fun q37 =>
      ((zv_aI q37.2 a0 (zv_w (a3 + (1 : Int)))).bind fun v38 =>
      ((zv_aI q37.2 a0 (zv_w (a3 + (2 : Int)))).bind fun v39 =>
      ((C9_letter d a2 v38 v39 q37.2).bind fun q40 =>
      LL_law_18 d a0 a1 a2 (zv_w (a3 + 6)) q40.2))))))
    else
    if (zv_and v2 (63 : Int)) = (7 : Int) then
      ((zv_aI h a0 (zv_w (a3 + (1 : Int)))).bind fun v41 =>
      ((zv_aI h a0 (zv_w (a3 + (2 : Int)))).bind fun v42 =>
      ((C8_state d a1 v41 v42 h).bind fun q43 =>
      ((zv_aI q43.2 a0 (zv_w (a3 + (1 : Int)))).bind fun v44 =>
      ((zv_aI q43.2 a0 (zv_w (a3 + (2 : Int)))).bind fun v45 =>
      ((C9_state d a2 v44 v45 q43.2).bind fun q46 =>
      LL_law_18 d a0 a1 a2 (zv_w (a3 + 6)) q46.2))))))
    else
    if (zv_and v2 (63 : Int)) = (8 : Int) then
      ((zv_aI h a0 (zv_w (a3 + (1 : Int)))).bind fun v47 =>
      ((zv_aI h a0 (zv_w (a3 + (2 : Int)))).bind fun v48 =>
      ((C8_child d a1 v47 v48 h).bind fun q49 =>
      ((zv_aI q49.2 a0 (zv_w (a3 + (1 : Int)))).bind fun v50 =>
      ((zv_aI q49.2 a0 (zv_w (a3 + (2 : Int)))).bind fun v51 =>
      ((C9_child d a2 v50 v51 q49.2).bind fun q52 =>
      LL_law_18 d a0 a1 a2 (zv_w (a3 + 6)) q52.2))))))
    else
    if (zv_and v2 (63 : Int)) = (9 : Int) then
      ((zv_aI h a0 (zv_w (a3 + (1 : Int)))).bind fun v53 =>
      ((zv_aI h a0 (zv_w (a3 + (2 : Int)))).bind fun v54 =>
      ((C8_force d a1 v53 v54 h).bind fun q55 =>
      ((zv_aI q55.2 a0 (zv_w (a3 + (1 : Int)))).bind fun v56 =>
      ((zv_aI q55.2 a0 (zv_w (a3 + (2 : Int)))).bind fun v57 =>
      ((C9_force d a2 v56 v57 q55.2).bind fun q58 =>
      LL_law_18 d a0 a1 a2 (zv_w (a3 + 6)) q58.2))))))
    else
    if (zv_and v2 (63 : Int)) = (10 : Int) then
      ((zv_aI h a0 (zv_w (a3 + (1 : Int)))).bind fun v59 =>
      ((zv_aI h a0 (zv_w (a3 + (2 : Int)))).bind fun v60 =>
      ((C8_blame d a1 v59 v60 h).bind fun q61 =>
      ((zv_aI q61.2 a0 (zv_w (a3 + (1 : Int)))).bind fun v62 =>
      ((zv_aI q61.2 a0 (zv_w (a3 + (2 : Int)))).bind fun v63 =>
      ((C9_blame d a2 v62 v63 q61.2).bind fun q64 =>
      LL_law_18 d a0 a1 a2 (zv_w (a3 + 6)) q64.2))))))
    else
    if (zv_and v2 (63 : Int)) = (11 : Int) then
      ((zv_aI h a0 (zv_w (a3 + (1 : Int)))).bind fun v65 =>
      ((zv_aI h a0 (zv_w (a3 + (2 : Int)))).bind fun v66 =>
      ((C8_row d a1 v65 v66 h).bind fun q67 =>
      ((zv_aI q67.2 a0 (zv_w (a3 + (1 : Int)))).bind fun v68 =>
      ((zv_aI q67.2 a0 (zv_w (a3 + (2 : Int)))).bind fun v69 =>
      ((C9_row d a2 v68 v69 q67.2).bind fun q70 =>
      (if q67.1 = q70.1 then
        LL_law_18 d a0 a1 a2 (zv_w (a3 + 6)) q70.2
      else
        (some (some (zv_i (0 : Int)), q70.2)))))))))
    else
    if (zv_and v2 (63 : Int)) = (12 : Int) then
      ((zv_aI h a0 (zv_w (a3 + (1 : Int)))).bind fun v71 =>
      ((zv_aI h a0 (zv_w (a3 + (2 : Int)))).bind fun v72 =>
      ((C8_visit d a1 v71 v72 h).bind fun q73 =>
      ((zv_aI q73.2 a0 (zv_w (a3 + (1 : Int)))).bind fun v74 =>
      ((zv_aI q73.2 a0 (zv_w (a3 + (2 : Int)))).bind fun v75 =>
      ((C9_visit d a2 v74 v75 q73.2).bind fun q76 =>
      LL_law_18 d a0 a1 a2 (zv_w (a3 + 6)) q76.2))))))
    else
    if (zv_and v2 (63 : Int)) = (13 : Int) then
      ((C8_named d a1 h).bind fun q77 =>
      ((C9_named d a2 q77.2).bind fun q78 =>
      LL_law_18 d a0 a1 a2 (zv_w (a3 + 6)) q78.2))
    else
    if (zv_and v2 (63 : Int)) = (14 : Int) then
      ((zv_aI h a0 (zv_w (a3 + (1 : Int)))).bind fun v79 =>
      ((zv_aI h a0 (zv_w (a3 + (2 : Int)))).bind fun v80 =>
      ((C8_leans d a1 v79 v80 h).bind fun q81 =>
      ((zv_aI q81.2 a0 (zv_w (a3 + (1 : Int)))).bind fun v82 =>
      ((zv_aI q81.2 a0 (zv_w (a3 + (2 : Int)))).bind fun v83 =>
      ((C9_leans d a2 v82 v83 q81.2).bind fun q84 =>
      LL_law_18 d a0 a1 a2 (zv_w (a3 + 6)) q84.2))))))
    else
    if (zv_and v2 (63 : Int)) = (15 : Int) then
      ((zv_aI h a0 (zv_w (a3 + (1 : Int)))).bind fun v85 =>
      ((C8_put d a1 v85 h).bind fun q86 =>
      ((zv_aI q86.2 a0 (zv_w (a3 + (1 : Int)))).bind fun v87 =>
      ((C9_put d a2 v87 q86.2).bind fun q88 =>
      LL_law_18 d a0 a1 a2 (zv_w (a3 + 6)) q88.2))))
    else
    if (zv_and v2 (63 : Int)) = (16 : Int) then
      ((zv_aI h a0 (zv_w (a3 + (1 : Int)))).bind fun v89 =>
      ((zv_aI h a0 (zv_w (a3 + (2 : Int)))).bind fun v90 =>
      ((C8_cut d a1 v89 v90 h).bind fun q91 =>
      ((zv_aI q91.2 a0 (zv_w (a3 + (1 : Int)))).bind fun v92 =>
      ((zv_aI q91.2 a0 (zv_w (a3 + (2 : Int)))).bind fun v93 =>
      ((C9_cut d a2 v92 v93 q91.2).bind fun q94 =>
      LL_law_18 d a0 a1 a2 (zv_w (a3 + 6)) q94.2))))))
    else
    if (zv_and v2 (63 : Int)) = (17 : Int) then
      ((zv_aI h a0 (zv_w (a3 + (1 : Int)))).bind fun v95 =>
      ((C8_wait d a1 v95 h).bind fun q96 =>
      ((zv_aI q96.2 a0 (zv_w (a3 + (1 : Int)))).bind fun v97 =>
      ((C9_wait d a2 v97 q96.2).bind fun q98 =>
      LL_law_18 d a0 a1 a2 (zv_w (a3 + 6)) q98.2))))
    else
    if (zv_and v2 (63 : Int)) = (18 : Int) then
      ((C8_undo d a1 h).bind fun q99 =>
      ((C9_undo d a2 q99.2).bind fun q100 =>
      LL_law_18 d a0 a1 a2 (zv_w (a3 + 6)) q100.2))
    else
    if (zv_and v2 (63 : Int)) = (19 : Int) then
      ((C8_redo d a1 h).bind fun q101 =>
      ((C9_redo d a2 q101.2).bind fun q102 =>
      LL_law_18 d a0 a1 a2 (zv_w (a3 + 6)) q102.2))
    else
    if (zv_and v2 (63 : Int)) = (20 : Int) then
      ((zv_aI h a0 (zv_w (a3 + (1 : Int)))).bind fun v103 =>
      ((C8_go d a1 v103 h).bind fun q104 =>
      ((zv_aI q104.2 a0 (zv_w (a3 + (1 : Int)))).bind fun v105 =>
      ((C9_go d a2 v105 q104.2).bind fun q106 =>
      LL_law_18 d a0 a1 a2 (zv_w (a3 + 6)) q106.2))))
    else
    if (zv_and v2 (63 : Int)) = (21 : Int) then
      ((C8_name d a1 h).bind fun q107 =>
      ((C9_name d a2 q107.2).bind fun q108 =>
      LL_law_18 d a0 a1 a2 (zv_w (a3 + 6)) q108.2))
    else
    if (zv_and v2 (63 : Int)) = (22 : Int) then
      ((C8_unname d a1 h).bind fun q109 =>
      ((C9_unname d a2 q109.2).bind fun q110 =>
      LL_law_18 d a0 a1 a2 (zv_w (a3 + 6)) q110.2))
    else
    if (zv_and v2 (63 : Int)) = (23 : Int) then
      ((zv_aI h a0 (zv_w (a3 + (1 : Int)))).bind fun v111 =>
      ((C8_withdraw d a1 v111 h).bind fun q112 =>
      ((zv_aI q112.2 a0 (zv_w (a3 + (1 : Int)))).bind fun v113 =>
      ((C9_withdraw d a2 v113 q112.2).bind fun q114 =>
      LL_law_18 d a0 a1 a2 (zv_w (a3 + 6)) q114.2))))
    else
    if (zv_and v2 (63 : Int)) = (24 : Int) then
      ((zv_aI h a0 (zv_w (a3 + (1 : Int)))).bind fun v115 =>
      ((C8_restore d a1 v115 h).bind fun q116 =>
      ((zv_aI q116.2 a0 (zv_w (a3 + (1 : Int)))).bind fun v117 =>
      ((C9_restore d a2 v117 q116.2).bind fun q118 =>
      LL_law_18 d a0 a1 a2 (zv_w (a3 + 6)) q118.2))))
    else
    if (zv_and v2 (63 : Int)) = (25 : Int) then
      ((zv_aI h a0 (zv_w (a3 + (1 : Int)))).bind fun v119 =>
      ((C8_carry d a1 v119 h).bind fun q120 =>
      ((zv_aI q120.2 a0 (zv_w (a3 + (1 : Int)))).bind fun v121 =>
      ((C9_carry d a2 v121 q120.2).bind fun q122 =>
      LL_law_18 d a0 a1 a2 (zv_w (a3 + 6)) q122.2))))
    else
    if (zv_and v2 (63 : Int)) = (26 : Int) then
      ((zv_aI h a0 (zv_w (a3 + (1 : Int)))).bind fun v123 =>
      ((C8_merge d a1 v123 h).bind fun q124 =>
      ((zv_aI q124.2 a0 (zv_w (a3 + (1 : Int)))).bind fun v125 =>
      ((C9_merge d a2 v125 q124.2).bind fun q126 =>
      LL_law_18 d a0 a1 a2 (zv_w (a3 + 6)) q126.2))))
    else
    if (zv_and v2 (63 : Int)) = (27 : Int) then
      ((zv_aI h a0 (zv_w (a3 + (1 : Int)))).bind fun v127 =>
      ((C8_prune d a1 v127 h).bind fun q128 =>
      ((zv_aI q128.2 a0 (zv_w (a3 + (1 : Int)))).bind fun v129 =>
      ((C9_prune d a2 v129 q128.2).bind fun q130 =>
      LL_law_18 d a0 a1 a2 (zv_w (a3 + 6)) q130.2))))
    else
    if (zv_and v2 (63 : Int)) = (28 : Int) then
      ((zv_aI h a0 (zv_w (a3 + (1 : Int)))).bind fun v131 =>
      ((zv_aI h a0 (zv_w (a3 + (2 : Int)))).bind fun v132 =>
      ((C8_common d a1 v131 v132 h).bind fun q133 =>
      ((zv_aI q133.2 a0 (zv_w (a3 + (1 : Int)))).bind fun v134 =>
      ((zv_aI q133.2 a0 (zv_w (a3 + (2 : Int)))).bind fun v135 =>
      ((C9_common d a2 v134 v135 q133.2).bind fun q136 =>
      LL_law_18 d a0 a1 a2 (zv_w (a3 + 6)) q136.2))))))
    else
    if (zv_and v2 (63 : Int)) = (29 : Int) then
      ((zv_aI h a0 (zv_w (a3 + (1 : Int)))).bind fun v137 =>
      ((zv_aI h a0 (zv_w (a3 + (2 : Int)))).bind fun v138 =>
      ((zv_aI h a0 (zv_w (a3 + (3 : Int)))).bind fun v139 =>
      ((C8_way d a1 v137 v138 v139 h).bind fun q140 =>
      ((zv_aI q140.2 a0 (zv_w (a3 + (1 : Int)))).bind fun v141 =>
      ((zv_aI q140.2 a0 (zv_w (a3 + (2 : Int)))).bind fun v142 =>
      ((zv_aI q140.2 a0 (zv_w (a3 + (3 : Int)))).bind fun v143 =>
      ((C9_way d a2 v141 v142 v143 q140.2).bind fun q144 =>
      LL_law_18 d a0 a1 a2 (zv_w (a3 + 6)) q144.2))))))))
    else
    if (zv_and v2 (63 : Int)) = (30 : Int) then
      ((zv_aI h a0 (zv_w (a3 + (1 : Int)))).bind fun v145 =>
      ((zv_aI h a0 (zv_w (a3 + (2 : Int)))).bind fun v146 =>
      ((zv_aI h a0 (zv_w (a3 + (3 : Int)))).bind fun v147 =>
      ((C8_between d a1 v145 v146 v147 h).bind fun q148 =>
      ((zv_aI q148.2 a0 (zv_w (a3 + (1 : Int)))).bind fun v149 =>
      ((zv_aI q148.2 a0 (zv_w (a3 + (2 : Int)))).bind fun v150 =>
      ((zv_aI q148.2 a0 (zv_w (a3 + (3 : Int)))).bind fun v151 =>
      ((C9_between d a2 v149 v150 v151 q148.2).bind fun q152 =>
      LL_law_18 d a0 a1 a2 (zv_w (a3 + 6)) q152.2))))))))
    else
    if (zv_and v2 (63 : Int)) = (31 : Int) then
      ((zv_aI h a0 (zv_w (a3 + (1 : Int)))).bind fun v153 =>
      ((zv_aI h a0 (zv_w (a3 + (2 : Int)))).bind fun v154 =>
      ((C8_least d a1 v153 v154 h).bind fun q155 =>
      ((zv_aI q155.2 a0 (zv_w (a3 + (1 : Int)))).bind fun v156 =>
      ((zv_aI q155.2 a0 (zv_w (a3 + (2 : Int)))).bind fun v157 =>
      ((C9_least d a2 v156 v157 q155.2).bind fun q158 =>
      LL_law_18 d a0 a1 a2 (zv_w (a3 + 6)) q158.2))))))
    else
    if (zv_and v2 (63 : Int)) = (32 : Int) then
      ((zv_aI h a0 (zv_w (a3 + (1 : Int)))).bind fun v159 =>
      ((zv_aI h a0 (zv_w (a3 + (2 : Int)))).bind fun v160 =>
      ((C8_merges d a1 v159 v160 h).bind fun q161 =>
      ((zv_aI q161.2 a0 (zv_w (a3 + (1 : Int)))).bind fun v162 =>
      ((zv_aI q161.2 a0 (zv_w (a3 + (2 : Int)))).bind fun v163 =>
      ((C9_merges d a2 v162 v163 q161.2).bind fun q164 =>
      LL_law_18 d a0 a1 a2 (zv_w (a3 + 6)) q164.2))))))
    else
    if (zv_and v2 (63 : Int)) = (33 : Int) then
      ((zv_aI h a0 (zv_w (a3 + (1 : Int)))).bind fun v165 =>
      ((C8_tell d a1 v165 h).bind fun q166 =>
      ((zv_aI q166.2 a0 (zv_w (a3 + (1 : Int)))).bind fun v167 =>
      ((C9_tell d a2 v167 q166.2).bind fun q168 =>
      LL_law_18 d a0 a1 a2 (zv_w (a3 + 6)) q168.2))))
    else
    if (zv_and v2 (63 : Int)) = (34 : Int) then
      ((zv_aI h a0 (zv_w (a3 + (1 : Int)))).bind fun v169 =>
      ((C8_out d a1 v169 h).bind fun q170 =>
      ((zv_aI q170.2 a0 (zv_w (a3 + (1 : Int)))).bind fun v171 =>
      ((C9_out d a2 v171 q170.2).bind fun q172 =>
      LL_law_18 d a0 a1 a2 (zv_w (a3 + 6)) q172.2))))
    else
    if (zv_and v2 (63 : Int)) = (35 : Int) then
      ((zv_aI h a0 (zv_w (a3 + (1 : Int)))).bind fun v173 =>
      ((zv_aI h a0 (zv_w (a3 + (2 : Int)))).bind fun v174 =>
      ((C8_leaning d a1 v173 v174 h).bind fun q175 =>
      ((zv_aI q175.2 a0 (zv_w (a3 + (1 : Int)))).bind fun v176 =>
      ((zv_aI q175.2 a0 (zv_w (a3 + (2 : Int)))).bind fun v177 =>
      ((C9_leaning d a2 v176 v177 q175.2).bind fun q178 =>
      LL_law_18 d a0 a1 a2 (zv_w (a3 + 6)) q178.2))))))
    else
    if (zv_and v2 (63 : Int)) = (36 : Int) then
      ((zv_aI h a0 (zv_w (a3 + (1 : Int)))).bind fun v179 =>
      ((C8_find d a1 v179 h).bind fun q180 =>
      ((zv_aI q180.2 a0 (zv_w (a3 + (1 : Int)))).bind fun v181 =>
      ((C9_find d a2 v181 q180.2).bind fun q182 =>
      LL_law_18 d a0 a1 a2 (zv_w (a3 + 6)) q182.2))))
    else
    if (zv_and v2 (63 : Int)) = (37 : Int) then
      ((C8_first d a1 h).bind fun q183 =>
      ((C9_first d a2 q183.2).bind fun q184 =>
      LL_law_18 d a0 a1 a2 (zv_w (a3 + 6)) q184.2))
    else
    if (zv_and v2 (63 : Int)) = (38 : Int) then
      ((zv_aI h a0 (zv_w (a3 + (1 : Int)))).bind fun v185 =>
      ((C8_twin d a1 v185 h).bind fun q186 =>
      ((zv_aI q186.2 a0 (zv_w (a3 + (1 : Int)))).bind fun v187 =>
      ((C9_twin d a2 v187 q186.2).bind fun q188 =>
      LL_law_18 d a0 a1 a2 (zv_w (a3 + 6)) q188.2))))
    else
    if (zv_and v2 (63 : Int)) = (39 : Int) then
      ((zv_aI h a0 (zv_w (a3 + (1 : Int)))).bind fun v189 =>
      ((C8_back d a1 v189 h).bind fun q190 =>
      ((zv_aI q190.2 a0 (zv_w (a3 + (1 : Int)))).bind fun v191 =>
      ((C9_back d a2 v191 q190.2).bind fun q192 =>
      LL_law_18 d a0 a1 a2 (zv_w (a3 + 6)) q192.2))))
    else
      LL_law_18 d a0 a1 a2 (zv_w (a3 + 6)) h))
  else
    (some (some (zv_i (1 : Int)), h)))) := by
  refine (zy_lim_eq zySL_law _ _ _ _).trans ?_
  rfl
