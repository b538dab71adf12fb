theorem zyc_0 : "BranchedText$History" ≠ "java/lang/invoke/MethodHandle" ∧ "BranchedText$History" ≠ "java/lang/invoke/VarHandle" := ⟨(by decide +kernel), (by decide +kernel)⟩
theorem zyi_0 : Cond.initialized "BranchedText$History" ∈ zv_tb := (zv_tbk_1 4 rfl rfl)
theorem zyc_1 : "BranchedText$JoinTest" ≠ "java/lang/invoke/MethodHandle" ∧ "BranchedText$JoinTest" ≠ "java/lang/invoke/VarHandle" := ⟨(by decide +kernel), (by decide +kernel)⟩
theorem zyi_1 : Cond.initialized "BranchedText$JoinTest" ∈ zv_tb := (zv_tbk_1 9 rfl rfl)
theorem zyc_2 : "BranchedText$Names" ≠ "java/lang/invoke/MethodHandle" ∧ "BranchedText$Names" ≠ "java/lang/invoke/VarHandle" := ⟨(by decide +kernel), (by decide +kernel)⟩
theorem zyi_2 : Cond.initialized "BranchedText$Names" ∈ zv_tb := (zv_tbk_1 7 rfl rfl)
theorem zyc_3 : "BranchedText$Reader" ≠ "java/lang/invoke/MethodHandle" ∧ "BranchedText$Reader" ≠ "java/lang/invoke/VarHandle" := ⟨(by decide +kernel), (by decide +kernel)⟩
theorem zyi_3 : Cond.initialized "BranchedText$Reader" ∈ zv_tb := (zv_tbk_1 3 rfl rfl)
theorem zyc_4 : "BranchedText$Row" ≠ "java/lang/invoke/MethodHandle" ∧ "BranchedText$Row" ≠ "java/lang/invoke/VarHandle" := ⟨(by decide +kernel), (by decide +kernel)⟩
theorem zyi_4 : Cond.initialized "BranchedText$Row" ∈ zv_tb := (zv_tbk_1 6 rfl rfl)
theorem zyc_5 : "BranchedText$State" ≠ "java/lang/invoke/MethodHandle" ∧ "BranchedText$State" ≠ "java/lang/invoke/VarHandle" := ⟨(by decide +kernel), (by decide +kernel)⟩
theorem zyi_5 : Cond.initialized "BranchedText$State" ∈ zv_tb := (zv_tbk_1 5 rfl rfl)
theorem zyc_6 : "BranchedText$Visits" ≠ "java/lang/invoke/MethodHandle" ∧ "BranchedText$Visits" ≠ "java/lang/invoke/VarHandle" := ⟨(by decide +kernel), (by decide +kernel)⟩
theorem zyi_6 : Cond.initialized "BranchedText$Visits" ∈ zv_tb := (zv_tbk_1 8 rfl rfl)
theorem zyc_7 : "BranchedText$Word" ≠ "java/lang/invoke/MethodHandle" ∧ "BranchedText$Word" ≠ "java/lang/invoke/VarHandle" := ⟨(by decide +kernel), (by decide +kernel)⟩
theorem zyi_7 : Cond.initialized "BranchedText$Word" ∈ zv_tb := (zv_tbk_1 2 rfl rfl)
theorem zyc_8 : "BranchedText" ≠ "java/lang/invoke/MethodHandle" ∧ "BranchedText" ≠ "java/lang/invoke/VarHandle" := ⟨(by decide +kernel), (by decide +kernel)⟩
theorem zyi_8 : Cond.initialized "BranchedText" ∈ zv_tb := (zv_tbk_1 1 rfl rfl)
theorem zyc_9 : "BranchedTextModel" ≠ "java/lang/invoke/MethodHandle" ∧ "BranchedTextModel" ≠ "java/lang/invoke/VarHandle" := ⟨(by decide +kernel), (by decide +kernel)⟩
theorem zyi_9 : Cond.initialized "BranchedTextModel" ∈ zv_tb := (zv_tbk_1 10 rfl rfl)
theorem zyc_10 : "java/lang/Long" ≠ "java/lang/invoke/MethodHandle" ∧ "java/lang/Long" ≠ "java/lang/invoke/VarHandle" := ⟨(by decide +kernel), (by decide +kernel)⟩
theorem zyi_10 : Cond.initialized "java/lang/Long" ∈ zv_tb := (zv_tbk_1 16 rfl rfl)
theorem zyc_11 : "java/lang/String" ≠ "java/lang/invoke/MethodHandle" ∧ "java/lang/String" ≠ "java/lang/invoke/VarHandle" := ⟨(by decide +kernel), (by decide +kernel)⟩
theorem zyi_11 : Cond.initialized "java/lang/String" ∈ zv_tb := (zv_tbk_1 12 rfl rfl)
theorem zyc_12 : "java/lang/StringLatin1" ≠ "java/lang/invoke/MethodHandle" ∧ "java/lang/StringLatin1" ≠ "java/lang/invoke/VarHandle" := ⟨(by decide +kernel), (by decide +kernel)⟩
theorem zyi_12 : Cond.initialized "java/lang/StringLatin1" ∈ zv_tb := (zv_tbk_1 13 rfl rfl)
abbrev zy_0 : MethodName := ⟨"BranchedText$History", "<init>", "()V"⟩
theorem zd_0 : zv_inf 0 = some (zy_0, (prog_2_method_1_code, (2, none))) ∧ zv_vD zy_0 prog_2_method_1_code 2 none := ⟨rfl, (zv_tbk_1 102 rfl rfl), zyi_0, zyc_0, Nat.le_of_ble_eq_true rfl⟩
theorem ze_0 : Cond.instanceMethod zy_0 ∈ zv_tb ∧ True ∧ (parseMethodDescriptor zy_0.desc).map (fun d => d.parameters.length + 1) = some 1 ∧ zv_isI 0 = true := ⟨(zv_tbk_1 101 rfl rfl), trivial, (by decide +kernel), rfl⟩
abbrev zy_1 : MethodName := ⟨"BranchedText$History", "begin", "()V"⟩
theorem zd_1 : zv_inf 1 = some (zy_1, (prog_2_method_2_code, (2, none))) ∧ zv_vD zy_1 prog_2_method_2_code 2 none := ⟨rfl, (zv_tbk_2 81 rfl rfl), zyi_0, zyc_0, Nat.le_of_ble_eq_true rfl⟩
theorem ze_1 : Cond.instanceMethod zy_1 ∈ zv_tb ∧ Cond.selects zy_1.cls zy_1 zy_1 ∈ zv_tb ∧ (parseMethodDescriptor zy_1.desc).map (fun d => d.parameters.length + 1) = some 1 ∧ zv_isI 1 = true := ⟨(zv_tbk_2 79 rfl rfl), (zv_tbk_2 80 rfl rfl), (by decide +kernel), rfl⟩
abbrev zy_2 : MethodName := ⟨"BranchedText$History", "startWith", "(LBranchedText$Word;)V"⟩
theorem zd_2 : zv_inf 2 = some (zy_2, (prog_2_method_3_code, (4, none))) ∧ zv_vD zy_2 prog_2_method_3_code 4 none := ⟨rfl, (zv_tbk_3 83 rfl rfl), zyi_0, zyc_0, Nat.le_of_ble_eq_true rfl⟩
theorem ze_2 : Cond.instanceMethod zy_2 ∈ zv_tb ∧ Cond.selects zy_2.cls zy_2 zy_2 ∈ zv_tb ∧ (parseMethodDescriptor zy_2.desc).map (fun d => d.parameters.length + 1) = some 2 ∧ zv_isI 2 = true := ⟨(zv_tbk_3 81 rfl rfl), (zv_tbk_3 82 rfl rfl), (by decide +kernel), rfl⟩
abbrev zy_3 : MethodName := ⟨"BranchedText$History", "at", "(I)LBranchedText$State;"⟩
theorem zd_3 : zv_inf 3 = some (zy_3, (prog_2_method_4_code, (3, (some (.object "BranchedText$State"))))) ∧ zv_vD zy_3 prog_2_method_4_code 3 (some (.object "BranchedText$State")) := ⟨rfl, (zv_tbk_3 171 rfl rfl), zyi_0, zyc_0, Nat.le_of_ble_eq_true rfl⟩
theorem ze_3 : Cond.instanceMethod zy_3 ∈ zv_tb ∧ Cond.selects zy_3.cls zy_3 zy_3 ∈ zv_tb ∧ (parseMethodDescriptor zy_3.desc).map (fun d => d.parameters.length + 1) = some 2 ∧ zv_isI 3 = true := ⟨(zv_tbk_3 169 rfl rfl), (zv_tbk_3 170 rfl rfl), (by decide +kernel), rfl⟩
abbrev zy_4 : MethodName := ⟨"BranchedText$History", "glyph", "(I)I"⟩
theorem zd_4 : zv_inf 4 = some (zy_4, (prog_2_method_5_code, (2, (some .int)))) ∧ zv_vD zy_4 prog_2_method_5_code 2 (some .int) := ⟨rfl, (zv_tbk_4 163 rfl rfl), zyi_0, zyc_0, Nat.le_of_ble_eq_true rfl⟩
theorem ze_4 : Cond.instanceMethod zy_4 ∈ zv_tb ∧ Cond.selects zy_4.cls zy_4 zy_4 ∈ zv_tb ∧ (parseMethodDescriptor zy_4.desc).map (fun d => d.parameters.length + 1) = some 2 ∧ zv_isI 4 = true := ⟨(zv_tbk_4 161 rfl rfl), (zv_tbk_4 162 rfl rfl), (by decide +kernel), rfl⟩
abbrev zy_5 : MethodName := ⟨"BranchedText$History", "setGlyph", "(II)V"⟩
theorem zd_5 : zv_inf 5 = some (zy_5, (prog_2_method_6_code, (3, none))) ∧ zv_vD zy_5 prog_2_method_6_code 3 none := ⟨rfl, (zv_tbk_3 94 rfl rfl), zyi_0, zyc_0, Nat.le_of_ble_eq_true rfl⟩
theorem ze_5 : Cond.instanceMethod zy_5 ∈ zv_tb ∧ Cond.selects zy_5.cls zy_5 zy_5 ∈ zv_tb ∧ (parseMethodDescriptor zy_5.desc).map (fun d => d.parameters.length + 1) = some 3 ∧ zv_isI 5 = true := ⟨(zv_tbk_3 93 rfl rfl), (zv_tb_sel (List.mem_of_getElem? (i := 7) rfl) rfl), (by decide +kernel), rfl⟩
abbrev zy_6 : MethodName := ⟨"BranchedText$History", "letterAt", "(LBranchedText$State;I)I"⟩
theorem zd_6 : zv_inf 6 = some (zy_6, (prog_2_method_7_code, (3, (some .int)))) ∧ zv_vD zy_6 prog_2_method_7_code 3 (some .int) := ⟨rfl, (zv_tbk_4 230 rfl rfl), zyi_0, zyc_0, Nat.le_of_ble_eq_true rfl⟩
theorem ze_6 : Cond.instanceMethod zy_6 ∈ zv_tb ∧ Cond.selects zy_6.cls zy_6 zy_6 ∈ zv_tb ∧ (parseMethodDescriptor zy_6.desc).map (fun d => d.parameters.length + 1) = some 3 ∧ zv_isI 6 = true := ⟨(zv_tbk_4 228 rfl rfl), (zv_tbk_4 229 rfl rfl), (by decide +kernel), rfl⟩
abbrev zy_7 : MethodName := ⟨"BranchedText$History", "rowOfHere", "()LBranchedText$Row;"⟩
theorem zd_7 : zv_inf 7 = some (zy_7, (prog_2_method_8_code, (1, (some (.object "BranchedText$Row"))))) ∧ zv_vD zy_7 prog_2_method_8_code 1 (some (.object "BranchedText$Row")) := ⟨rfl, (zv_tbk_4 208 rfl rfl), zyi_0, zyc_0, Nat.le_of_ble_eq_true rfl⟩
theorem ze_7 : Cond.instanceMethod zy_7 ∈ zv_tb ∧ Cond.selects zy_7.cls zy_7 zy_7 ∈ zv_tb ∧ (parseMethodDescriptor zy_7.desc).map (fun d => d.parameters.length + 1) = some 1 ∧ zv_isI 7 = true := ⟨(zv_tbk_4 206 rfl rfl), (zv_tbk_4 207 rfl rfl), (by decide +kernel), rfl⟩
abbrev zy_8 : MethodName := ⟨"BranchedText$History", "leaves", "()I"⟩
theorem zd_8 : zv_inf 8 = some (zy_8, (prog_2_method_9_code, (4, (some .int)))) ∧ zv_vD zy_8 prog_2_method_9_code 4 (some .int) := ⟨rfl, (zv_tbk_4 212 rfl rfl), zyi_0, zyc_0, Nat.le_of_ble_eq_true rfl⟩
theorem ze_8 : Cond.instanceMethod zy_8 ∈ zv_tb ∧ Cond.selects zy_8.cls zy_8 zy_8 ∈ zv_tb ∧ (parseMethodDescriptor zy_8.desc).map (fun d => d.parameters.length + 1) = some 1 ∧ zv_isI 8 = true := ⟨(zv_tbk_4 210 rfl rfl), (zv_tbk_4 211 rfl rfl), (by decide +kernel), rfl⟩
abbrev zy_9 : MethodName := ⟨"BranchedText$History", "groups", "()I"⟩
theorem zd_9 : zv_inf 9 = some (zy_9, (prog_2_method_10_code, (3, (some .int)))) ∧ zv_vD zy_9 prog_2_method_10_code 3 (some .int) := ⟨rfl, (zv_tbk_4 216 rfl rfl), zyi_0, zyc_0, Nat.le_of_ble_eq_true rfl⟩
theorem ze_9 : Cond.instanceMethod zy_9 ∈ zv_tb ∧ Cond.selects zy_9.cls zy_9 zy_9 ∈ zv_tb ∧ (parseMethodDescriptor zy_9.desc).map (fun d => d.parameters.length + 1) = some 1 ∧ zv_isI 9 = true := ⟨(zv_tbk_4 214 rfl rfl), (zv_tbk_4 215 rfl rfl), (by decide +kernel), rfl⟩
abbrev zy_10 : MethodName := ⟨"BranchedText$History", "childOf", "(LBranchedText$State;I)LBranchedText$State;"⟩
theorem zd_10 : zv_inf 10 = some (zy_10, (prog_2_method_11_code, (6, (some (.object "BranchedText$State"))))) ∧ zv_vD zy_10 prog_2_method_11_code 6 (some (.object "BranchedText$State")) := ⟨rfl, (zv_tbk_3 234 rfl rfl), zyi_0, zyc_0, Nat.le_of_ble_eq_true rfl⟩
theorem ze_10 : Cond.instanceMethod zy_10 ∈ zv_tb ∧ Cond.selects zy_10.cls zy_10 zy_10 ∈ zv_tb ∧ (parseMethodDescriptor zy_10.desc).map (fun d => d.parameters.length + 1) = some 3 ∧ zv_isI 10 = true := ⟨(zv_tbk_3 232 rfl rfl), (zv_tbk_3 233 rfl rfl), (by decide +kernel), rfl⟩
abbrev zy_11 : MethodName := ⟨"BranchedText$History", "findNewest", "()V"⟩
theorem zd_11 : zv_inf 11 = some (zy_11, (prog_2_method_12_code, (4, none))) ∧ zv_vD zy_11 prog_2_method_12_code 4 none := ⟨rfl, (zv_tbk_3 238 rfl rfl), zyi_0, zyc_0, Nat.le_of_ble_eq_true rfl⟩
theorem ze_11 : Cond.instanceMethod zy_11 ∈ zv_tb ∧ Cond.selects zy_11.cls zy_11 zy_11 ∈ zv_tb ∧ (parseMethodDescriptor zy_11.desc).map (fun d => d.parameters.length + 1) = some 1 ∧ zv_isI 11 = true := ⟨(zv_tbk_3 237 rfl rfl), (zv_tb_sel (List.mem_of_getElem? (i := 18) rfl) rfl), (by decide +kernel), rfl⟩
abbrev zy_12 : MethodName := ⟨"BranchedText$History", "newestChild", "(LBranchedText$State;I)LBranchedText$State;"⟩
theorem zd_12 : zv_inf 12 = some (zy_12, (prog_2_method_13_code, (6, (some (.object "BranchedText$State"))))) ∧ zv_vD zy_12 prog_2_method_13_code 6 (some (.object "BranchedText$State")) := ⟨rfl, (zv_tbk_4 5 rfl rfl), zyi_0, zyc_0, Nat.le_of_ble_eq_true rfl⟩
theorem ze_12 : Cond.instanceMethod zy_12 ∈ zv_tb ∧ Cond.selects zy_12.cls zy_12 zy_12 ∈ zv_tb ∧ (parseMethodDescriptor zy_12.desc).map (fun d => d.parameters.length + 1) = some 3 ∧ zv_isI 12 = true := ⟨(zv_tbk_4 4 rfl rfl), (zv_tb_sel (List.mem_of_getElem? (i := 19) rfl) rfl), (by decide +kernel), rfl⟩
abbrev zy_13 : MethodName := ⟨"BranchedText$History", "onLine", "(LBranchedText$State;LBranchedText$State;)Z"⟩
theorem zd_13 : zv_inf 13 = some (zy_13, (prog_2_method_14_code, (3, (some .boolean)))) ∧ zv_vD zy_13 prog_2_method_14_code 3 (some .boolean) := ⟨rfl, (zv_tbk_4 18 rfl rfl), zyi_0, zyc_0, Nat.le_of_ble_eq_true rfl⟩
theorem ze_13 : Cond.static zy_13 ∈ zv_tb ∧ (parseMethodDescriptor zy_13.desc).map (fun d => d.parameters.length) = some 2 := ⟨(zv_tbk_4 17 rfl rfl), (by decide +kernel)⟩
abbrev zy_14 : MethodName := ⟨"BranchedText$History", "above", "(LBranchedText$State;I)LBranchedText$State;"⟩
theorem zd_14 : zv_inf 14 = some (zy_14, (prog_2_method_15_code, (3, (some (.object "BranchedText$State"))))) ∧ zv_vD zy_14 prog_2_method_15_code 3 (some (.object "BranchedText$State")) := ⟨rfl, (zv_tbk_4 173 rfl rfl), zyi_0, zyc_0, Nat.le_of_ble_eq_true rfl⟩
theorem ze_14 : Cond.static zy_14 ∈ zv_tb ∧ (parseMethodDescriptor zy_14.desc).map (fun d => d.parameters.length) = some 2 := ⟨(zv_tbk_4 172 rfl rfl), (by decide +kernel)⟩
abbrev zy_15 : MethodName := ⟨"BranchedText$History", "lettersOfHereBy", "(J)I"⟩
theorem zd_15 : zv_inf 15 = some (zy_15, (prog_2_method_16_code, (5, (some .int)))) ∧ zv_vD zy_15 prog_2_method_16_code 5 (some .int) := ⟨rfl, (zv_tbk_5 225 rfl rfl), zyi_0, zyc_0, Nat.le_of_ble_eq_true rfl⟩
theorem ze_15 : Cond.instanceMethod zy_15 ∈ zv_tb ∧ Cond.selects zy_15.cls zy_15 zy_15 ∈ zv_tb ∧ (parseMethodDescriptor zy_15.desc).map (fun d => d.parameters.length + 1) = some 2 ∧ zv_isI 15 = true := ⟨(zv_tbk_5 223 rfl rfl), (zv_tbk_5 224 rfl rfl), (by decide +kernel), rfl⟩
abbrev zy_16 : MethodName := ⟨"BranchedText$History", "moveTo", "(LBranchedText$State;)V"⟩
theorem zd_16 : zv_inf 16 = some (zy_16, (prog_2_method_17_code, (2, none))) ∧ zv_vD zy_16 prog_2_method_17_code 2 none := ⟨rfl, (zv_tbk_3 226 rfl rfl), zyi_0, zyc_0, Nat.le_of_ble_eq_true rfl⟩
theorem ze_16 : Cond.instanceMethod zy_16 ∈ zv_tb ∧ Cond.selects zy_16.cls zy_16 zy_16 ∈ zv_tb ∧ (parseMethodDescriptor zy_16.desc).map (fun d => d.parameters.length + 1) = some 2 ∧ zv_isI 16 = true := ⟨(zv_tbk_3 225 rfl rfl), (zv_tb_sel (List.mem_of_getElem? (i := 17) rfl) rfl), (by decide +kernel), rfl⟩
abbrev zy_17 : MethodName := ⟨"BranchedText$History", "grow", "(III)LBranchedText$State;"⟩
theorem zd_17 : zv_inf 17 = some (zy_17, (prog_2_method_18_code, (6, (some (.object "BranchedText$State"))))) ∧ zv_vD zy_17 prog_2_method_18_code 6 (some (.object "BranchedText$State")) := ⟨rfl, (zv_tbk_3 167 rfl rfl), zyi_0, zyc_0, Nat.le_of_ble_eq_true rfl⟩
theorem ze_17 : Cond.instanceMethod zy_17 ∈ zv_tb ∧ Cond.selects zy_17.cls zy_17 zy_17 ∈ zv_tb ∧ (parseMethodDescriptor zy_17.desc).map (fun d => d.parameters.length + 1) = some 4 ∧ zv_isI 17 = true := ⟨(zv_tbk_3 166 rfl rfl), (zv_tb_sel (List.mem_of_getElem? (i := 15) rfl) rfl), (by decide +kernel), rfl⟩
abbrev zy_18 : MethodName := ⟨"BranchedText$History", "putWord", "(ILBranchedText$Word;)I"⟩
theorem zd_18 : zv_inf 18 = some (zy_18, (prog_2_method_19_code, (7, (some .int)))) ∧ zv_vD zy_18 prog_2_method_19_code 7 (some .int) := ⟨rfl, (zv_tbk_3 163 rfl rfl), zyi_0, zyc_0, Nat.le_of_ble_eq_true rfl⟩
theorem ze_18 : Cond.instanceMethod zy_18 ∈ zv_tb ∧ Cond.selects zy_18.cls zy_18 zy_18 ∈ zv_tb ∧ (parseMethodDescriptor zy_18.desc).map (fun d => d.parameters.length + 1) = some 3 ∧ zv_isI 18 = true := ⟨(zv_tbk_3 161 rfl rfl), (zv_tbk_3 162 rfl rfl), (by decide +kernel), rfl⟩
abbrev zy_19 : MethodName := ⟨"BranchedText$History", "cutOut", "(II)I"⟩
theorem zd_19 : zv_inf 19 = some (zy_19, (prog_2_method_20_code, (8, (some .int)))) ∧ zv_vD zy_19 prog_2_method_20_code 8 (some .int) := ⟨rfl, (zv_tbk_3 209 rfl rfl), zyi_0, zyc_0, Nat.le_of_ble_eq_true rfl⟩
theorem ze_19 : Cond.instanceMethod zy_19 ∈ zv_tb ∧ Cond.selects zy_19.cls zy_19 zy_19 ∈ zv_tb ∧ (parseMethodDescriptor zy_19.desc).map (fun d => d.parameters.length + 1) = some 3 ∧ zv_isI 19 = true := ⟨(zv_tbk_3 207 rfl rfl), (zv_tbk_3 208 rfl rfl), (by decide +kernel), rfl⟩
abbrev zy_20 : MethodName := ⟨"BranchedText$History", "baseOf", "(I)J"⟩
theorem zd_20 : zv_inf 20 = some (zy_20, (prog_2_method_21_code, (1, (some .long)))) ∧ zv_vD zy_20 prog_2_method_21_code 1 (some .long) := ⟨rfl, (zv_tbk_3 182 rfl rfl), zyi_0, zyc_0, Nat.le_of_ble_eq_true rfl⟩
theorem ze_20 : Cond.static zy_20 ∈ zv_tb ∧ (parseMethodDescriptor zy_20.desc).map (fun d => d.parameters.length) = some 1 := ⟨(zv_tbk_3 181 rfl rfl), (by decide +kernel)⟩
abbrev zy_21 : MethodName := ⟨"BranchedText$History", "joinGroup", "(LBranchedText$State;LBranchedText$State;)V"⟩
theorem zd_21 : zv_inf 21 = some (zy_21, (prog_2_method_22_code, (3, none))) ∧ zv_vD zy_21 prog_2_method_22_code 3 none := ⟨rfl, (zv_tbk_3 189 rfl rfl), zyi_0, zyc_0, Nat.le_of_ble_eq_true rfl⟩
theorem ze_21 : Cond.instanceMethod zy_21 ∈ zv_tb ∧ Cond.selects zy_21.cls zy_21 zy_21 ∈ zv_tb ∧ (parseMethodDescriptor zy_21.desc).map (fun d => d.parameters.length + 1) = some 3 ∧ zv_isI 21 = true := ⟨(zv_tbk_3 188 rfl rfl), (zv_tb_sel (List.mem_of_getElem? (i := 16) rfl) rfl), (by decide +kernel), rfl⟩
abbrev zy_22 : MethodName := ⟨"BranchedText$History", "isNear", "(LBranchedText$State;LBranchedText$State;)Z"⟩
theorem zd_22 : zv_inf 22 = some (zy_22, (prog_2_method_23_code, (3, (some .boolean)))) ∧ zv_vD zy_22 prog_2_method_23_code 3 (some .boolean) := ⟨rfl, (zv_tbk_3 200 rfl rfl), zyi_0, zyc_0, Nat.le_of_ble_eq_true rfl⟩
theorem ze_22 : Cond.static zy_22 ∈ zv_tb ∧ (parseMethodDescriptor zy_22.desc).map (fun d => d.parameters.length) = some 2 := ⟨(zv_tbk_3 199 rfl rfl), (by decide +kernel)⟩
abbrev zy_23 : MethodName := ⟨"BranchedText$History", "passTime", "(I)I"⟩
theorem zd_23 : zv_inf 23 = some (zy_23, (prog_2_method_24_code, (2, (some .int)))) ∧ zv_vD zy_23 prog_2_method_24_code 2 (some .int) := ⟨rfl, (zv_tbk_3 214 rfl rfl), zyi_0, zyc_0, Nat.le_of_ble_eq_true rfl⟩
theorem ze_23 : Cond.instanceMethod zy_23 ∈ zv_tb ∧ Cond.selects zy_23.cls zy_23 zy_23 ∈ zv_tb ∧ (parseMethodDescriptor zy_23.desc).map (fun d => d.parameters.length + 1) = some 2 ∧ zv_isI 23 = true := ⟨(zv_tbk_3 212 rfl rfl), (zv_tbk_3 213 rfl rfl), (by decide +kernel), rfl⟩
abbrev zy_24 : MethodName := ⟨"BranchedText$History", "behind", "(I)LBranchedText$State;"⟩
theorem zd_24 : zv_inf 24 = some (zy_24, (prog_2_method_25_code, (4, (some (.object "BranchedText$State"))))) ∧ zv_vD zy_24 prog_2_method_25_code 4 (some (.object "BranchedText$State")) := ⟨rfl, (zv_tbk_3 222 rfl rfl), zyi_0, zyc_0, Nat.le_of_ble_eq_true rfl⟩
theorem ze_24 : Cond.instanceMethod zy_24 ∈ zv_tb ∧ Cond.selects zy_24.cls zy_24 zy_24 ∈ zv_tb ∧ (parseMethodDescriptor zy_24.desc).map (fun d => d.parameters.length + 1) = some 2 ∧ zv_isI 24 = true := ⟨(zv_tbk_3 220 rfl rfl), (zv_tbk_3 221 rfl rfl), (by decide +kernel), rfl⟩
abbrev zy_25 : MethodName := ⟨"BranchedText$History", "stepBack", "()I"⟩
theorem zd_25 : zv_inf 25 = some (zy_25, (prog_2_method_26_code, (2, (some .int)))) ∧ zv_vD zy_25 prog_2_method_26_code 2 (some .int) := ⟨rfl, (zv_tbk_3 218 rfl rfl), zyi_0, zyc_0, Nat.le_of_ble_eq_true rfl⟩
theorem ze_25 : Cond.instanceMethod zy_25 ∈ zv_tb ∧ Cond.selects zy_25.cls zy_25 zy_25 ∈ zv_tb ∧ (parseMethodDescriptor zy_25.desc).map (fun d => d.parameters.length + 1) = some 1 ∧ zv_isI 25 = true := ⟨(zv_tbk_3 216 rfl rfl), (zv_tbk_3 217 rfl rfl), (by decide +kernel), rfl⟩
abbrev zy_26 : MethodName := ⟨"BranchedText$History", "stepOn", "()I"⟩
theorem zd_26 : zv_inf 26 = some (zy_26, (prog_2_method_27_code, (4, (some .int)))) ∧ zv_vD zy_26 prog_2_method_27_code 4 (some .int) := ⟨rfl, (zv_tbk_3 230 rfl rfl), zyi_0, zyc_0, Nat.le_of_ble_eq_true rfl⟩
theorem ze_26 : Cond.instanceMethod zy_26 ∈ zv_tb ∧ Cond.selects zy_26.cls zy_26 zy_26 ∈ zv_tb ∧ (parseMethodDescriptor zy_26.desc).map (fun d => d.parameters.length + 1) = some 1 ∧ zv_isI 26 = true := ⟨(zv_tbk_3 228 rfl rfl), (zv_tbk_3 229 rfl rfl), (by decide +kernel), rfl⟩
abbrev zy_27 : MethodName := ⟨"BranchedText$History", "goTo", "(I)I"⟩
theorem zd_27 : zv_inf 27 = some (zy_27, (prog_2_method_28_code, (4, (some .int)))) ∧ zv_vD zy_27 prog_2_method_28_code 4 (some .int) := ⟨rfl, (zv_tbk_4 9 rfl rfl), zyi_0, zyc_0, Nat.le_of_ble_eq_true rfl⟩
theorem ze_27 : Cond.instanceMethod zy_27 ∈ zv_tb ∧ Cond.selects zy_27.cls zy_27 zy_27 ∈ zv_tb ∧ (parseMethodDescriptor zy_27.desc).map (fun d => d.parameters.length + 1) = some 2 ∧ zv_isI 27 = true := ⟨(zv_tbk_4 7 rfl rfl), (zv_tbk_4 8 rfl rfl), (by decide +kernel), rfl⟩
abbrev zy_28 : MethodName := ⟨"BranchedText$History", "nameHere", "(I)I"⟩
theorem zd_28 : zv_inf 28 = some (zy_28, (prog_2_method_29_code, (3, (some .int)))) ∧ zv_vD zy_28 prog_2_method_29_code 3 (some .int) := ⟨rfl, (zv_tbk_4 28 rfl rfl), zyi_0, zyc_0, Nat.le_of_ble_eq_true rfl⟩
theorem ze_28 : Cond.instanceMethod zy_28 ∈ zv_tb ∧ Cond.selects zy_28.cls zy_28 zy_28 ∈ zv_tb ∧ (parseMethodDescriptor zy_28.desc).map (fun d => d.parameters.length + 1) = some 2 ∧ zv_isI 28 = true := ⟨(zv_tbk_4 26 rfl rfl), (zv_tbk_4 27 rfl rfl), (by decide +kernel), rfl⟩
abbrev zy_29 : MethodName := ⟨"BranchedText$History", "dropName", "(I)I"⟩
theorem zd_29 : zv_inf 29 = some (zy_29, (prog_2_method_30_code, (3, (some .int)))) ∧ zv_vD zy_29 prog_2_method_30_code 3 (some .int) := ⟨rfl, (zv_tbk_5 102 rfl rfl), zyi_0, zyc_0, Nat.le_of_ble_eq_true rfl⟩
theorem ze_29 : Cond.instanceMethod zy_29 ∈ zv_tb ∧ Cond.selects zy_29.cls zy_29 zy_29 ∈ zv_tb ∧ (parseMethodDescriptor zy_29.desc).map (fun d => d.parameters.length + 1) = some 2 ∧ zv_isI 29 = true := ⟨(zv_tbk_5 100 rfl rfl), (zv_tbk_5 101 rfl rfl), (by decide +kernel), rfl⟩
abbrev zy_30 : MethodName := ⟨"BranchedText$History", "takeBack", "(I)I"⟩
theorem zd_30 : zv_inf 30 = some (zy_30, (prog_2_method_31_code, (5, (some .int)))) ∧ zv_vD zy_30 prog_2_method_31_code 5 (some .int) := ⟨rfl, (zv_tbk_4 46 rfl rfl), zyi_0, zyc_0, Nat.le_of_ble_eq_true rfl⟩
theorem ze_30 : Cond.instanceMethod zy_30 ∈ zv_tb ∧ Cond.selects zy_30.cls zy_30 zy_30 ∈ zv_tb ∧ (parseMethodDescriptor zy_30.desc).map (fun d => d.parameters.length + 1) = some 2 ∧ zv_isI 30 = true := ⟨(zv_tbk_4 44 rfl rfl), (zv_tbk_4 45 rfl rfl), (by decide +kernel), rfl⟩
abbrev zy_31 : MethodName := ⟨"BranchedText$History", "giveBack", "(I)I"⟩
theorem zd_31 : zv_inf 31 = some (zy_31, (prog_2_method_32_code, (5, (some .int)))) ∧ zv_vD zy_31 prog_2_method_32_code 5 (some .int) := ⟨rfl, (zv_tbk_4 111 rfl rfl), zyi_0, zyc_0, Nat.le_of_ble_eq_true rfl⟩
theorem ze_31 : Cond.instanceMethod zy_31 ∈ zv_tb ∧ Cond.selects zy_31.cls zy_31 zy_31 ∈ zv_tb ∧ (parseMethodDescriptor zy_31.desc).map (fun d => d.parameters.length + 1) = some 2 ∧ zv_isI 31 = true := ⟨(zv_tbk_4 109 rfl rfl), (zv_tbk_4 110 rfl rfl), (by decide +kernel), rfl⟩
abbrev zy_32 : MethodName := ⟨"BranchedText$History", "turn", "(IJJ)I"⟩
theorem zd_32 : zv_inf 32 = some (zy_32, (prog_2_method_33_code, (8, (some .int)))) ∧ zv_vD zy_32 prog_2_method_33_code 8 (some .int) := ⟨rfl, (zv_tbk_4 92 rfl rfl), zyi_0, zyc_0, Nat.le_of_ble_eq_true rfl⟩
theorem ze_32 : Cond.instanceMethod zy_32 ∈ zv_tb ∧ Cond.selects zy_32.cls zy_32 zy_32 ∈ zv_tb ∧ (parseMethodDescriptor zy_32.desc).map (fun d => d.parameters.length + 1) = some 4 ∧ zv_isI 32 = true := ⟨(zv_tbk_4 91 rfl rfl), (zv_tb_sel (List.mem_of_getElem? (i := 21) rfl) rfl), (by decide +kernel), rfl⟩
abbrev zy_33 : MethodName := ⟨"BranchedText$History", "carryOver", "(I)I"⟩
theorem zd_33 : zv_inf 33 = some (zy_33, (prog_2_method_34_code, (3, (some .int)))) ∧ zv_vD zy_33 prog_2_method_34_code 3 (some .int) := ⟨rfl, (zv_tbk_4 119 rfl rfl), zyi_0, zyc_0, Nat.le_of_ble_eq_true rfl⟩
theorem ze_33 : Cond.instanceMethod zy_33 ∈ zv_tb ∧ Cond.selects zy_33.cls zy_33 zy_33 ∈ zv_tb ∧ (parseMethodDescriptor zy_33.desc).map (fun d => d.parameters.length + 1) = some 2 ∧ zv_isI 33 = true := ⟨(zv_tbk_4 117 rfl rfl), (zv_tbk_4 118 rfl rfl), (by decide +kernel), rfl⟩
abbrev zy_34 : MethodName := ⟨"BranchedText$History", "standForThemselves", "()V"⟩
theorem zd_34 : zv_inf 34 = some (zy_34, (prog_2_method_35_code, (2, none))) ∧ zv_vD zy_34 prog_2_method_35_code 2 none := ⟨rfl, (zv_tbk_4 123 rfl rfl), zyi_0, zyc_0, Nat.le_of_ble_eq_true rfl⟩
theorem ze_34 : Cond.instanceMethod zy_34 ∈ zv_tb ∧ Cond.selects zy_34.cls zy_34 zy_34 ∈ zv_tb ∧ (parseMethodDescriptor zy_34.desc).map (fun d => d.parameters.length + 1) = some 1 ∧ zv_isI 34 = true := ⟨(zv_tbk_4 122 rfl rfl), (zv_tb_sel (List.mem_of_getElem? (i := 22) rfl) rfl), (by decide +kernel), rfl⟩
abbrev zy_35 : MethodName := ⟨"BranchedText$History", "standOf", "(I)I"⟩
theorem zd_35 : zv_inf 35 = some (zy_35, (prog_2_method_36_code, (3, (some .int)))) ∧ zv_vD zy_35 prog_2_method_36_code 3 (some .int) := ⟨rfl, (zv_tbk_4 140 rfl rfl), zyi_0, zyc_0, Nat.le_of_ble_eq_true rfl⟩
theorem ze_35 : Cond.instanceMethod zy_35 ∈ zv_tb ∧ Cond.selects zy_35.cls zy_35 zy_35 ∈ zv_tb ∧ (parseMethodDescriptor zy_35.desc).map (fun d => d.parameters.length + 1) = some 2 ∧ zv_isI 35 = true := ⟨(zv_tbk_4 139 rfl rfl), (zv_tb_sel (List.mem_of_getElem? (i := 26) rfl) rfl), (by decide +kernel), rfl⟩
abbrev zy_36 : MethodName := ⟨"BranchedText$History", "carryOne", "(LBranchedText$State;)I"⟩
theorem zd_36 : zv_inf 36 = some (zy_36, (prog_2_method_37_code, (4, (some .int)))) ∧ zv_vD zy_36 prog_2_method_37_code 4 (some .int) := ⟨rfl, (zv_tbk_4 127 rfl rfl), zyi_0, zyc_0, Nat.le_of_ble_eq_true rfl⟩
theorem ze_36 : Cond.instanceMethod zy_36 ∈ zv_tb ∧ Cond.selects zy_36.cls zy_36 zy_36 ∈ zv_tb ∧ (parseMethodDescriptor zy_36.desc).map (fun d => d.parameters.length + 1) = some 2 ∧ zv_isI 36 = true := ⟨(zv_tbk_4 126 rfl rfl), (zv_tb_sel (List.mem_of_getElem? (i := 23) rfl) rfl), (by decide +kernel), rfl⟩
abbrev zy_37 : MethodName := ⟨"BranchedText$History", "firstTaken", "(LBranchedText$State;)I"⟩
theorem zd_37 : zv_inf 37 = some (zy_37, (prog_2_method_38_code, (3, (some .int)))) ∧ zv_vD zy_37 prog_2_method_38_code 3 (some .int) := ⟨rfl, (zv_tbk_4 131 rfl rfl), zyi_0, zyc_0, Nat.le_of_ble_eq_true rfl⟩
theorem ze_37 : Cond.instanceMethod zy_37 ∈ zv_tb ∧ Cond.selects zy_37.cls zy_37 zy_37 ∈ zv_tb ∧ (parseMethodDescriptor zy_37.desc).map (fun d => d.parameters.length + 1) = some 2 ∧ zv_isI 37 = true := ⟨(zv_tbk_4 130 rfl rfl), (zv_tb_sel (List.mem_of_getElem? (i := 24) rfl) rfl), (by decide +kernel), rfl⟩
abbrev zy_38 : MethodName := ⟨"BranchedText$History", "takenFrom", "(LBranchedText$State;I)I"⟩
theorem zd_38 : zv_inf 38 = some (zy_38, (prog_2_method_39_code, (5, (some .int)))) ∧ zv_vD zy_38 prog_2_method_39_code 5 (some .int) := ⟨rfl, (zv_tbk_4 147 rfl rfl), zyi_0, zyc_0, Nat.le_of_ble_eq_true rfl⟩
theorem ze_38 : Cond.instanceMethod zy_38 ∈ zv_tb ∧ Cond.selects zy_38.cls zy_38 zy_38 ∈ zv_tb ∧ (parseMethodDescriptor zy_38.desc).map (fun d => d.parameters.length + 1) = some 3 ∧ zv_isI 38 = true := ⟨(zv_tbk_4 146 rfl rfl), (zv_tb_sel (List.mem_of_getElem? (i := 27) rfl) rfl), (by decide +kernel), rfl⟩
abbrev zy_39 : MethodName := ⟨"BranchedText$History", "takes", "(LBranchedText$State;I)Z"⟩
theorem zd_39 : zv_inf 39 = some (zy_39, (prog_2_method_40_code, (4, (some .boolean)))) ∧ zv_vD zy_39 prog_2_method_40_code 4 (some .boolean) := ⟨rfl, (zv_tbk_4 135 rfl rfl), zyi_0, zyc_0, Nat.le_of_ble_eq_true rfl⟩
theorem ze_39 : Cond.instanceMethod zy_39 ∈ zv_tb ∧ Cond.selects zy_39.cls zy_39 zy_39 ∈ zv_tb ∧ (parseMethodDescriptor zy_39.desc).map (fun d => d.parameters.length + 1) = some 3 ∧ zv_isI 39 = true := ⟨(zv_tbk_4 134 rfl rfl), (zv_tb_sel (List.mem_of_getElem? (i := 25) rfl) rfl), (by decide +kernel), rfl⟩
abbrev zy_40 : MethodName := ⟨"BranchedText$History", "mergeIn", "(I)I"⟩
theorem zd_40 : zv_inf 40 = some (zy_40, (prog_2_method_41_code, (11, (some .int)))) ∧ zv_vD zy_40 prog_2_method_41_code 11 (some .int) := ⟨rfl, (zv_tbk_4 169 rfl rfl), zyi_0, zyc_0, Nat.le_of_ble_eq_true rfl⟩
theorem ze_40 : Cond.instanceMethod zy_40 ∈ zv_tb ∧ Cond.selects zy_40.cls zy_40 zy_40 ∈ zv_tb ∧ (parseMethodDescriptor zy_40.desc).map (fun d => d.parameters.length + 1) = some 2 ∧ zv_isI 40 = true := ⟨(zv_tbk_4 167 rfl rfl), (zv_tbk_4 168 rfl rfl), (by decide +kernel), rfl⟩
abbrev zy_41 : MethodName := ⟨"BranchedText$History", "mergeOnPaper", "(II)I"⟩
theorem zd_41 : zv_inf 41 = some (zy_41, (prog_2_method_42_code, (8, (some .int)))) ∧ zv_vD zy_41 prog_2_method_42_code 8 (some .int) := ⟨rfl, (zv_tbk_5 168 rfl rfl), zyi_0, zyc_0, Nat.le_of_ble_eq_true rfl⟩
theorem ze_41 : Cond.instanceMethod zy_41 ∈ zv_tb ∧ Cond.selects zy_41.cls zy_41 zy_41 ∈ zv_tb ∧ (parseMethodDescriptor zy_41.desc).map (fun d => d.parameters.length + 1) = some 3 ∧ zv_isI 41 = true := ⟨(zv_tbk_5 166 rfl rfl), (zv_tbk_5 167 rfl rfl), (by decide +kernel), rfl⟩
abbrev zy_42 : MethodName := ⟨"BranchedText$History", "remove", "(LBranchedText$State;)V"⟩
theorem zd_42 : zv_inf 42 = some (zy_42, (prog_2_method_43_code, (2, none))) ∧ zv_vD zy_42 prog_2_method_43_code 2 none := ⟨rfl, (zv_tbk_4 189 rfl rfl), zyi_0, zyc_0, Nat.le_of_ble_eq_true rfl⟩
theorem ze_42 : Cond.instanceMethod zy_42 ∈ zv_tb ∧ Cond.selects zy_42.cls zy_42 zy_42 ∈ zv_tb ∧ (parseMethodDescriptor zy_42.desc).map (fun d => d.parameters.length + 1) = some 2 ∧ zv_isI 42 = true := ⟨(zv_tbk_4 188 rfl rfl), (zv_tb_sel (List.mem_of_getElem? (i := 28) rfl) rfl), (by decide +kernel), rfl⟩
abbrev zy_43 : MethodName := ⟨"BranchedText$History", "nextToGo", "()LBranchedText$State;"⟩
theorem zd_43 : zv_inf 43 = some (zy_43, (prog_2_method_44_code, (4, (some (.object "BranchedText$State"))))) ∧ zv_vD zy_43 prog_2_method_44_code 4 (some (.object "BranchedText$State")) := ⟨rfl, (zv_tbk_4 181 rfl rfl), zyi_0, zyc_0, Nat.le_of_ble_eq_true rfl⟩
theorem ze_43 : Cond.instanceMethod zy_43 ∈ zv_tb ∧ Cond.selects zy_43.cls zy_43 zy_43 ∈ zv_tb ∧ (parseMethodDescriptor zy_43.desc).map (fun d => d.parameters.length + 1) = some 1 ∧ zv_isI 43 = true := ⟨(zv_tbk_4 179 rfl rfl), (zv_tbk_4 180 rfl rfl), (by decide +kernel), rfl⟩
abbrev zy_44 : MethodName := ⟨"BranchedText$History", "pruneTo", "(I)I"⟩
theorem zd_44 : zv_inf 44 = some (zy_44, (prog_2_method_45_code, (4, (some .int)))) ∧ zv_vD zy_44 prog_2_method_45_code 4 (some .int) := ⟨rfl, (zv_tbk_4 177 rfl rfl), zyi_0, zyc_0, Nat.le_of_ble_eq_true rfl⟩
theorem ze_44 : Cond.instanceMethod zy_44 ∈ zv_tb ∧ Cond.selects zy_44.cls zy_44 zy_44 ∈ zv_tb ∧ (parseMethodDescriptor zy_44.desc).map (fun d => d.parameters.length + 1) = some 2 ∧ zv_isI 44 = true := ⟨(zv_tbk_4 175 rfl rfl), (zv_tbk_4 176 rfl rfl), (by decide +kernel), rfl⟩
abbrev zy_45 : MethodName := ⟨"BranchedText$History", "nearest", "(LBranchedText$State;LBranchedText$State;)LBranchedText$State;"⟩
theorem zd_45 : zv_inf 45 = some (zy_45, (prog_2_method_46_code, (3, (some (.object "BranchedText$State"))))) ∧ zv_vD zy_45 prog_2_method_46_code 3 (some (.object "BranchedText$State")) := ⟨rfl, (zv_tbk_4 15 rfl rfl), zyi_0, zyc_0, Nat.le_of_ble_eq_true rfl⟩
theorem ze_45 : Cond.static zy_45 ∈ zv_tb ∧ (parseMethodDescriptor zy_45.desc).map (fun d => d.parameters.length) = some 2 := ⟨(zv_tbk_4 14 rfl rfl), (by decide +kernel)⟩
abbrev zy_46 : MethodName := ⟨"BranchedText$History", "wayLength", "(LBranchedText$State;LBranchedText$State;)I"⟩
theorem zd_46 : zv_inf 46 = some (zy_46, (prog_2_method_47_code, (2, (some .int)))) ∧ zv_vD zy_46 prog_2_method_47_code 2 (some .int) := ⟨rfl, (zv_tbk_4 12 rfl rfl), zyi_0, zyc_0, Nat.le_of_ble_eq_true rfl⟩
theorem ze_46 : Cond.static zy_46 ∈ zv_tb ∧ (parseMethodDescriptor zy_46.desc).map (fun d => d.parameters.length) = some 2 := ⟨(zv_tbk_4 11 rfl rfl), (by decide +kernel)⟩
abbrev zy_47 : MethodName := ⟨"BranchedText$History", "onWay", "(LBranchedText$State;LBranchedText$State;I)LBranchedText$State;"⟩
theorem zd_47 : zv_inf 47 = some (zy_47, (prog_2_method_48_code, (5, (some (.object "BranchedText$State"))))) ∧ zv_vD zy_47 prog_2_method_48_code 5 (some (.object "BranchedText$State")) := ⟨rfl, (zv_tbk_5 138 rfl rfl), zyi_0, zyc_0, Nat.le_of_ble_eq_true rfl⟩
theorem ze_47 : Cond.static zy_47 ∈ zv_tb ∧ (parseMethodDescriptor zy_47.desc).map (fun d => d.parameters.length) = some 3 := ⟨(zv_tbk_5 137 rfl rfl), (by decide +kernel)⟩
abbrev zy_48 : MethodName := ⟨"BranchedText$History", "keptOf", "(LBranchedText$State;LBranchedText$State;)I"⟩
theorem zd_48 : zv_inf 48 = some (zy_48, (prog_2_method_49_code, (6, (some .int)))) ∧ zv_vD zy_48 prog_2_method_49_code 6 (some .int) := ⟨rfl, (zv_tbk_5 146 rfl rfl), zyi_0, zyc_0, Nat.le_of_ble_eq_true rfl⟩
theorem ze_48 : Cond.instanceMethod zy_48 ∈ zv_tb ∧ Cond.selects zy_48.cls zy_48 zy_48 ∈ zv_tb ∧ (parseMethodDescriptor zy_48.desc).map (fun d => d.parameters.length + 1) = some 3 ∧ zv_isI 48 = true := ⟨(zv_tbk_5 144 rfl rfl), (zv_tbk_5 145 rfl rfl), (by decide +kernel), rfl⟩
abbrev zy_49 : MethodName := ⟨"BranchedText$History", "firstDifference", "(LBranchedText$State;LBranchedText$State;)I"⟩
theorem zd_49 : zv_inf 49 = some (zy_49, (prog_2_method_50_code, (5, (some .int)))) ∧ zv_vD zy_49 prog_2_method_50_code 5 (some .int) := ⟨rfl, (zv_tbk_5 150 rfl rfl), zyi_0, zyc_0, Nat.le_of_ble_eq_true rfl⟩
theorem ze_49 : Cond.instanceMethod zy_49 ∈ zv_tb ∧ Cond.selects zy_49.cls zy_49 zy_49 ∈ zv_tb ∧ (parseMethodDescriptor zy_49.desc).map (fun d => d.parameters.length + 1) = some 3 ∧ zv_isI 49 = true := ⟨(zv_tbk_5 148 rfl rfl), (zv_tbk_5 149 rfl rfl), (by decide +kernel), rfl⟩
abbrev zy_50 : MethodName := ⟨"BranchedText$History", "longestCommon", "(LBranchedText$State;LBranchedText$State;)I"⟩
theorem zd_50 : zv_inf 50 = some (zy_50, (prog_2_method_51_code, (9, (some .int)))) ∧ zv_vD zy_50 prog_2_method_51_code 9 (some .int) := ⟨rfl, (zv_tbk_5 159 rfl rfl), zyi_0, zyc_0, Nat.le_of_ble_eq_true rfl⟩
theorem ze_50 : Cond.instanceMethod zy_50 ∈ zv_tb ∧ Cond.selects zy_50.cls zy_50 zy_50 ∈ zv_tb ∧ (parseMethodDescriptor zy_50.desc).map (fun d => d.parameters.length + 1) = some 3 ∧ zv_isI 50 = true := ⟨(zv_tbk_5 157 rfl rfl), (zv_tbk_5 158 rfl rfl), (by decide +kernel), rfl⟩
abbrev zy_51 : MethodName := ⟨"BranchedText$History", "placeIn", "(LBranchedText$State;LBranchedText$Word;)I"⟩
theorem zd_51 : zv_inf 51 = some (zy_51, (prog_2_method_52_code, (5, (some .int)))) ∧ zv_vD zy_51 prog_2_method_52_code 5 (some .int) := ⟨rfl, (zv_tbk_5 239 rfl rfl), zyi_0, zyc_0, Nat.le_of_ble_eq_true rfl⟩
theorem ze_51 : Cond.instanceMethod zy_51 ∈ zv_tb ∧ Cond.selects zy_51.cls zy_51 zy_51 ∈ zv_tb ∧ (parseMethodDescriptor zy_51.desc).map (fun d => d.parameters.length + 1) = some 3 ∧ zv_isI 51 = true := ⟨(zv_tbk_5 237 rfl rfl), (zv_tbk_5 238 rfl rfl), (by decide +kernel), rfl⟩
abbrev zy_52 : MethodName := ⟨"BranchedText$History", "leastWith", "(LBranchedText$Word;)I"⟩
theorem zd_52 : zv_inf 52 = some (zy_52, (prog_2_method_53_code, (4, (some .int)))) ∧ zv_vD zy_52 prog_2_method_53_code 4 (some .int) := ⟨rfl, (zv_tbk_6 3 rfl rfl), zyi_0, zyc_0, Nat.le_of_ble_eq_true rfl⟩
theorem ze_52 : Cond.instanceMethod zy_52 ∈ zv_tb ∧ Cond.selects zy_52.cls zy_52 zy_52 ∈ zv_tb ∧ (parseMethodDescriptor zy_52.desc).map (fun d => d.parameters.length + 1) = some 2 ∧ zv_isI 52 = true := ⟨(zv_tbk_6 1 rfl rfl), (zv_tbk_6 2 rfl rfl), (by decide +kernel), rfl⟩
abbrev zy_53 : MethodName := ⟨"BranchedText$History", "statesWith", "(LBranchedText$Word;)I"⟩
theorem zd_53 : zv_inf 53 = some (zy_53, (prog_2_method_54_code, (5, (some .int)))) ∧ zv_vD zy_53 prog_2_method_54_code 5 (some .int) := ⟨rfl, (zv_tbk_5 235 rfl rfl), zyi_0, zyc_0, Nat.le_of_ble_eq_true rfl⟩
theorem ze_53 : Cond.instanceMethod zy_53 ∈ zv_tb ∧ Cond.selects zy_53.cls zy_53 zy_53 ∈ zv_tb ∧ (parseMethodDescriptor zy_53.desc).map (fun d => d.parameters.length + 1) = some 2 ∧ zv_isI 53 = true := ⟨(zv_tbk_5 233 rfl rfl), (zv_tbk_5 234 rfl rfl), (by decide +kernel), rfl⟩
abbrev zy_54 : MethodName := ⟨"BranchedText$History", "twinOf", "(LBranchedText$State;)I"⟩
theorem zd_54 : zv_inf 54 = some (zy_54, (prog_2_method_55_code, (4, (some .int)))) ∧ zv_vD zy_54 prog_2_method_55_code 4 (some .int) := ⟨rfl, (zv_tbk_6 17 rfl rfl), zyi_0, zyc_0, Nat.le_of_ble_eq_true rfl⟩
theorem ze_54 : Cond.instanceMethod zy_54 ∈ zv_tb ∧ Cond.selects zy_54.cls zy_54 zy_54 ∈ zv_tb ∧ (parseMethodDescriptor zy_54.desc).map (fun d => d.parameters.length + 1) = some 2 ∧ zv_isI 54 = true := ⟨(zv_tbk_6 15 rfl rfl), (zv_tbk_6 16 rfl rfl), (by decide +kernel), rfl⟩
abbrev zy_55 : MethodName := ⟨"BranchedText$JoinTest", "<init>", "()V"⟩
theorem zd_55 : zv_inf 55 = some (zy_55, (prog_3_method_1_code, (1, none))) ∧ zv_vD zy_55 prog_3_method_1_code 1 none := ⟨rfl, (zv_tbk_2 61 rfl rfl), zyi_1, zyc_1, Nat.le_of_ble_eq_true rfl⟩
theorem ze_55 : Cond.instanceMethod zy_55 ∈ zv_tb ∧ True ∧ (parseMethodDescriptor zy_55.desc).map (fun d => d.parameters.length + 1) = some 1 ∧ zv_isI 55 = true := ⟨(zv_tbk_2 60 rfl rfl), trivial, (by decide +kernel), rfl⟩
abbrev zy_56 : MethodName := ⟨"BranchedText$JoinTest", "clear", "()V"⟩
theorem zd_56 : zv_inf 56 = some (zy_56, (prog_3_method_2_code, (1, none))) ∧ zv_vD zy_56 prog_3_method_2_code 1 none := ⟨rfl, (zv_tbk_2 93 rfl rfl), zyi_1, zyc_1, Nat.le_of_ble_eq_true rfl⟩
theorem ze_56 : Cond.instanceMethod zy_56 ∈ zv_tb ∧ Cond.selects zy_56.cls zy_56 zy_56 ∈ zv_tb ∧ (parseMethodDescriptor zy_56.desc).map (fun d => d.parameters.length + 1) = some 1 ∧ zv_isI 56 = true := ⟨(zv_tbk_2 91 rfl rfl), (zv_tbk_2 92 rfl rfl), (by decide +kernel), rfl⟩
abbrev zy_57 : MethodName := ⟨"BranchedText$JoinTest", "usual", "()V"⟩
theorem zd_57 : zv_inf 57 = some (zy_57, (prog_3_method_3_code, (1, none))) ∧ zv_vD zy_57 prog_3_method_3_code 1 none := ⟨rfl, (zv_tbk_2 89 rfl rfl), zyi_1, zyc_1, Nat.le_of_ble_eq_true rfl⟩
theorem ze_57 : Cond.instanceMethod zy_57 ∈ zv_tb ∧ Cond.selects zy_57.cls zy_57 zy_57 ∈ zv_tb ∧ (parseMethodDescriptor zy_57.desc).map (fun d => d.parameters.length + 1) = some 1 ∧ zv_isI 57 = true := ⟨(zv_tbk_2 87 rfl rfl), (zv_tbk_2 88 rfl rfl), (by decide +kernel), rfl⟩
abbrev zy_58 : MethodName := ⟨"BranchedText$JoinTest", "compare", "(III)V"⟩
theorem zd_58 : zv_inf 58 = some (zy_58, (prog_3_method_4_code, (4, none))) ∧ zv_vD zy_58 prog_3_method_4_code 4 none := ⟨rfl, (zv_tbk_2 97 rfl rfl), zyi_1, zyc_1, Nat.le_of_ble_eq_true rfl⟩
theorem ze_58 : Cond.instanceMethod zy_58 ∈ zv_tb ∧ Cond.selects zy_58.cls zy_58 zy_58 ∈ zv_tb ∧ (parseMethodDescriptor zy_58.desc).map (fun d => d.parameters.length + 1) = some 4 ∧ zv_isI 58 = true := ⟨(zv_tbk_2 95 rfl rfl), (zv_tbk_2 96 rfl rfl), (by decide +kernel), rfl⟩
abbrev zy_59 : MethodName := ⟨"BranchedText$JoinTest", "add", "(II)V"⟩
theorem zd_59 : zv_inf 59 = some (zy_59, (prog_3_method_5_code, (3, none))) ∧ zv_vD zy_59 prog_3_method_5_code 3 none := ⟨rfl, (zv_tbk_2 101 rfl rfl), zyi_1, zyc_1, Nat.le_of_ble_eq_true rfl⟩
theorem ze_59 : Cond.instanceMethod zy_59 ∈ zv_tb ∧ Cond.selects zy_59.cls zy_59 zy_59 ∈ zv_tb ∧ (parseMethodDescriptor zy_59.desc).map (fun d => d.parameters.length + 1) = some 3 ∧ zv_isI 59 = true := ⟨(zv_tbk_2 99 rfl rfl), (zv_tbk_2 100 rfl rfl), (by decide +kernel), rfl⟩
abbrev zy_60 : MethodName := ⟨"BranchedText$JoinTest", "set", "(II)V"⟩
theorem zd_60 : zv_inf 60 = some (zy_60, (prog_3_method_6_code, (3, none))) ∧ zv_vD zy_60 prog_3_method_6_code 3 none := ⟨rfl, (zv_tbk_3 197 rfl rfl), zyi_1, zyc_1, Nat.le_of_ble_eq_true rfl⟩
theorem ze_60 : Cond.instanceMethod zy_60 ∈ zv_tb ∧ Cond.selects zy_60.cls zy_60 zy_60 ∈ zv_tb ∧ (parseMethodDescriptor zy_60.desc).map (fun d => d.parameters.length + 1) = some 3 ∧ zv_isI 60 = true := ⟨(zv_tbk_3 195 rfl rfl), (zv_tbk_3 196 rfl rfl), (by decide +kernel), rfl⟩
abbrev zy_61 : MethodName := ⟨"BranchedText$JoinTest", "holds", "()Z"⟩
theorem zd_61 : zv_inf 61 = some (zy_61, (prog_3_method_7_code, (9, (some .boolean)))) ∧ zv_vD zy_61 prog_3_method_7_code 9 (some .boolean) := ⟨rfl, (zv_tbk_3 204 rfl rfl), zyi_1, zyc_1, Nat.le_of_ble_eq_true rfl⟩
theorem ze_61 : Cond.instanceMethod zy_61 ∈ zv_tb ∧ Cond.selects zy_61.cls zy_61 zy_61 ∈ zv_tb ∧ (parseMethodDescriptor zy_61.desc).map (fun d => d.parameters.length + 1) = some 1 ∧ zv_isI 61 = true := ⟨(zv_tbk_3 202 rfl rfl), (zv_tbk_3 203 rfl rfl), (by decide +kernel), rfl⟩
abbrev zy_62 : MethodName := ⟨"BranchedText$Names", "<init>", "()V"⟩
theorem zd_62 : zv_inf 62 = some (zy_62, (prog_4_method_1_code, (1, none))) ∧ zv_vD zy_62 prog_4_method_1_code 1 none := ⟨rfl, (zv_tbk_2 16 rfl rfl), zyi_2, zyc_2, Nat.le_of_ble_eq_true rfl⟩
theorem ze_62 : Cond.instanceMethod zy_62 ∈ zv_tb ∧ True ∧ (parseMethodDescriptor zy_62.desc).map (fun d => d.parameters.length + 1) = some 1 ∧ zv_isI 62 = true := ⟨(zv_tbk_2 15 rfl rfl), trivial, (by decide +kernel), rfl⟩
abbrev zy_63 : MethodName := ⟨"BranchedText$Names", "indexOf", "(I)I"⟩
theorem zd_63 : zv_inf 63 = some (zy_63, (prog_4_method_2_code, (3, (some .int)))) ∧ zv_vD zy_63 prog_4_method_2_code 3 (some .int) := ⟨rfl, (zv_tbk_4 32 rfl rfl), zyi_2, zyc_2, Nat.le_of_ble_eq_true rfl⟩
theorem ze_63 : Cond.instanceMethod zy_63 ∈ zv_tb ∧ Cond.selects zy_63.cls zy_63 zy_63 ∈ zv_tb ∧ (parseMethodDescriptor zy_63.desc).map (fun d => d.parameters.length + 1) = some 2 ∧ zv_isI 63 = true := ⟨(zv_tbk_4 30 rfl rfl), (zv_tbk_4 31 rfl rfl), (by decide +kernel), rfl⟩
abbrev zy_64 : MethodName := ⟨"BranchedText$Names", "keyAt", "(I)I"⟩
theorem zd_64 : zv_inf 64 = some (zy_64, (prog_4_method_3_code, (2, (some .int)))) ∧ zv_vD zy_64 prog_4_method_3_code 2 (some .int) := ⟨rfl, (zv_tbk_5 212 rfl rfl), zyi_2, zyc_2, Nat.le_of_ble_eq_true rfl⟩
theorem ze_64 : Cond.instanceMethod zy_64 ∈ zv_tb ∧ Cond.selects zy_64.cls zy_64 zy_64 ∈ zv_tb ∧ (parseMethodDescriptor zy_64.desc).map (fun d => d.parameters.length + 1) = some 2 ∧ zv_isI 64 = true := ⟨(zv_tbk_5 210 rfl rfl), (zv_tbk_5 211 rfl rfl), (by decide +kernel), rfl⟩
abbrev zy_65 : MethodName := ⟨"BranchedText$Names", "ownerAt", "(I)I"⟩
theorem zd_65 : zv_inf 65 = some (zy_65, (prog_4_method_4_code, (2, (some .int)))) ∧ zv_vD zy_65 prog_4_method_4_code 2 (some .int) := ⟨rfl, (zv_tbk_4 36 rfl rfl), zyi_2, zyc_2, Nat.le_of_ble_eq_true rfl⟩
theorem ze_65 : Cond.instanceMethod zy_65 ∈ zv_tb ∧ Cond.selects zy_65.cls zy_65 zy_65 ∈ zv_tb ∧ (parseMethodDescriptor zy_65.desc).map (fun d => d.parameters.length + 1) = some 2 ∧ zv_isI 65 = true := ⟨(zv_tbk_4 34 rfl rfl), (zv_tbk_4 35 rfl rfl), (by decide +kernel), rfl⟩
abbrev zy_66 : MethodName := ⟨"BranchedText$Names", "countOf", "(I)I"⟩
theorem zd_66 : zv_inf 66 = some (zy_66, (prog_4_method_5_code, (4, (some .int)))) ∧ zv_vD zy_66 prog_4_method_5_code 4 (some .int) := ⟨rfl, (zv_tbk_4 185 rfl rfl), zyi_2, zyc_2, Nat.le_of_ble_eq_true rfl⟩
theorem ze_66 : Cond.instanceMethod zy_66 ∈ zv_tb ∧ Cond.selects zy_66.cls zy_66 zy_66 ∈ zv_tb ∧ (parseMethodDescriptor zy_66.desc).map (fun d => d.parameters.length + 1) = some 2 ∧ zv_isI 66 = true := ⟨(zv_tbk_4 183 rfl rfl), (zv_tbk_4 184 rfl rfl), (by decide +kernel), rfl⟩
abbrev zy_67 : MethodName := ⟨"BranchedText$Names", "own", "(II)V"⟩
theorem zd_67 : zv_inf 67 = some (zy_67, (prog_4_method_6_code, (4, none))) ∧ zv_vD zy_67 prog_4_method_6_code 4 none := ⟨rfl, (zv_tbk_4 40 rfl rfl), zyi_2, zyc_2, Nat.le_of_ble_eq_true rfl⟩
theorem ze_67 : Cond.instanceMethod zy_67 ∈ zv_tb ∧ Cond.selects zy_67.cls zy_67 zy_67 ∈ zv_tb ∧ (parseMethodDescriptor zy_67.desc).map (fun d => d.parameters.length + 1) = some 3 ∧ zv_isI 67 = true := ⟨(zv_tbk_4 38 rfl rfl), (zv_tbk_4 39 rfl rfl), (by decide +kernel), rfl⟩
abbrev zy_68 : MethodName := ⟨"BranchedText$Names", "drop", "(I)V"⟩
theorem zd_68 : zv_inf 68 = some (zy_68, (prog_4_method_7_code, (3, none))) ∧ zv_vD zy_68 prog_4_method_7_code 3 none := ⟨rfl, (zv_tbk_5 106 rfl rfl), zyi_2, zyc_2, Nat.le_of_ble_eq_true rfl⟩
theorem ze_68 : Cond.instanceMethod zy_68 ∈ zv_tb ∧ Cond.selects zy_68.cls zy_68 zy_68 ∈ zv_tb ∧ (parseMethodDescriptor zy_68.desc).map (fun d => d.parameters.length + 1) = some 2 ∧ zv_isI 68 = true := ⟨(zv_tbk_5 104 rfl rfl), (zv_tbk_5 105 rfl rfl), (by decide +kernel), rfl⟩
abbrev zy_69 : MethodName := ⟨"BranchedText$Reader", "<init>", "()V"⟩
theorem zd_69 : zv_inf 69 = some (zy_69, (prog_5_method_1_code, (1, none))) ∧ zv_vD zy_69 prog_5_method_1_code 1 none := ⟨rfl, (zv_tbk_1 47 rfl rfl), zyi_3, zyc_3, Nat.le_of_ble_eq_true rfl⟩
theorem ze_69 : Cond.instanceMethod zy_69 ∈ zv_tb ∧ True ∧ (parseMethodDescriptor zy_69.desc).map (fun d => d.parameters.length + 1) = some 1 ∧ zv_isI 69 = true := ⟨(zv_tbk_1 46 rfl rfl), trivial, (by decide +kernel), rfl⟩
abbrev zy_70 : MethodName := ⟨"BranchedText$Reader", "addByte", "(I)V"⟩
theorem zd_70 : zv_inf 70 = some (zy_70, (prog_5_method_2_code, (2, none))) ∧ zv_vD zy_70 prog_5_method_2_code 2 none := ⟨rfl, (zv_tbk_2 192 rfl rfl), zyi_3, zyc_3, Nat.le_of_ble_eq_true rfl⟩
theorem ze_70 : Cond.instanceMethod zy_70 ∈ zv_tb ∧ Cond.selects zy_70.cls zy_70 zy_70 ∈ zv_tb ∧ (parseMethodDescriptor zy_70.desc).map (fun d => d.parameters.length + 1) = some 2 ∧ zv_isI 70 = true := ⟨(zv_tbk_2 190 rfl rfl), (zv_tbk_2 191 rfl rfl), (by decide +kernel), rfl⟩
abbrev zy_71 : MethodName := ⟨"BranchedText$Reader", "byteAt", "(I)I"⟩
theorem zd_71 : zv_inf 71 = some (zy_71, (prog_5_method_3_code, (2, (some .int)))) ∧ zv_vD zy_71 prog_5_method_3_code 2 (some .int) := ⟨rfl, (zv_tbk_2 238 rfl rfl), zyi_3, zyc_3, Nat.le_of_ble_eq_true rfl⟩
theorem ze_71 : Cond.instanceMethod zy_71 ∈ zv_tb ∧ Cond.selects zy_71.cls zy_71 zy_71 ∈ zv_tb ∧ (parseMethodDescriptor zy_71.desc).map (fun d => d.parameters.length + 1) = some 2 ∧ zv_isI 71 = true := ⟨(zv_tbk_2 237 rfl rfl), (zv_tb_sel (List.mem_of_getElem? (i := 2) rfl) rfl), (by decide +kernel), rfl⟩
abbrev zy_72 : MethodName := ⟨"BranchedText$Reader", "fail", "(I)Z"⟩
theorem zd_72 : zv_inf 72 = some (zy_72, (prog_5_method_4_code, (2, (some .boolean)))) ∧ zv_vD zy_72 prog_5_method_4_code 2 (some .boolean) := ⟨rfl, (zv_tbk_3 8 rfl rfl), zyi_3, zyc_3, Nat.le_of_ble_eq_true rfl⟩
theorem ze_72 : Cond.instanceMethod zy_72 ∈ zv_tb ∧ Cond.selects zy_72.cls zy_72 zy_72 ∈ zv_tb ∧ (parseMethodDescriptor zy_72.desc).map (fun d => d.parameters.length + 1) = some 2 ∧ zv_isI 72 = true := ⟨(zv_tbk_3 6 rfl rfl), (zv_tbk_3 7 rfl rfl), (by decide +kernel), rfl⟩
abbrev zy_73 : MethodName := ⟨"BranchedText$Reader", "more", "()Z"⟩
theorem zd_73 : zv_inf 73 = some (zy_73, (prog_5_method_5_code, (1, (some .boolean)))) ∧ zv_vD zy_73 prog_5_method_5_code 1 (some .boolean) := ⟨rfl, (zv_tbk_3 135 rfl rfl), zyi_3, zyc_3, Nat.le_of_ble_eq_true rfl⟩
theorem ze_73 : Cond.instanceMethod zy_73 ∈ zv_tb ∧ Cond.selects zy_73.cls zy_73 zy_73 ∈ zv_tb ∧ (parseMethodDescriptor zy_73.desc).map (fun d => d.parameters.length + 1) = some 1 ∧ zv_isI 73 = true := ⟨(zv_tbk_3 133 rfl rfl), (zv_tbk_3 134 rfl rfl), (by decide +kernel), rfl⟩
abbrev zy_74 : MethodName := ⟨"BranchedText$Reader", "begin", "(I)V"⟩
theorem zd_74 : zv_inf 74 = some (zy_74, (prog_5_method_6_code, (2, none))) ∧ zv_vD zy_74 prog_5_method_6_code 2 none := ⟨rfl, (zv_tbk_2 227 rfl rfl), zyi_3, zyc_3, Nat.le_of_ble_eq_true rfl⟩
theorem ze_74 : Cond.instanceMethod zy_74 ∈ zv_tb ∧ Cond.selects zy_74.cls zy_74 zy_74 ∈ zv_tb ∧ (parseMethodDescriptor zy_74.desc).map (fun d => d.parameters.length + 1) = some 2 ∧ zv_isI 74 = true := ⟨(zv_tbk_2 225 rfl rfl), (zv_tbk_2 226 rfl rfl), (by decide +kernel), rfl⟩
abbrev zy_75 : MethodName := ⟨"BranchedText$Reader", "next", "()Z"⟩
theorem zd_75 : zv_inf 75 = some (zy_75, (prog_5_method_7_code, (1, (some .boolean)))) ∧ zv_vD zy_75 prog_5_method_7_code 1 (some .boolean) := ⟨rfl, (zv_tbk_2 234 rfl rfl), zyi_3, zyc_3, Nat.le_of_ble_eq_true rfl⟩
theorem ze_75 : Cond.instanceMethod zy_75 ∈ zv_tb ∧ Cond.selects zy_75.cls zy_75 zy_75 ∈ zv_tb ∧ (parseMethodDescriptor zy_75.desc).map (fun d => d.parameters.length + 1) = some 1 ∧ zv_isI 75 = true := ⟨(zv_tbk_2 232 rfl rfl), (zv_tbk_2 233 rfl rfl), (by decide +kernel), rfl⟩
abbrev zy_76 : MethodName := ⟨"BranchedText$Reader", "isSmall", "(I)Z"⟩
theorem zd_76 : zv_inf 76 = some (zy_76, (prog_5_method_8_code, (1, (some .boolean)))) ∧ zv_vD zy_76 prog_5_method_8_code 1 (some .boolean) := ⟨rfl, (zv_tbk_3 1 rfl rfl), zyi_3, zyc_3, Nat.le_of_ble_eq_true rfl⟩
theorem ze_76 : Cond.static zy_76 ∈ zv_tb ∧ (parseMethodDescriptor zy_76.desc).map (fun d => d.parameters.length) = some 1 := ⟨(zv_tbk_3 0 rfl rfl), (by decide +kernel)⟩
abbrev zy_77 : MethodName := ⟨"BranchedText$Reader", "isDigit", "(I)Z"⟩
theorem zd_77 : zv_inf 77 = some (zy_77, (prog_5_method_9_code, (1, (some .boolean)))) ∧ zv_vD zy_77 prog_5_method_9_code 1 (some .boolean) := ⟨rfl, (zv_tbk_3 4 rfl rfl), zyi_3, zyc_3, Nat.le_of_ble_eq_true rfl⟩
theorem ze_77 : Cond.static zy_77 ∈ zv_tb ∧ (parseMethodDescriptor zy_77.desc).map (fun d => d.parameters.length) = some 1 := ⟨(zv_tbk_3 3 rfl rfl), (by decide +kernel)⟩
abbrev zy_78 : MethodName := ⟨"BranchedText$Reader", "is", "(Ljava/lang/String;)Z"⟩
theorem zd_78 : zv_inf 78 = some (zy_78, (prog_5_method_10_code, (3, (some .boolean)))) ∧ zv_vD zy_78 prog_5_method_10_code 3 (some .boolean) := ⟨rfl, (zv_tbk_3 17 rfl rfl), zyi_3, zyc_3, Nat.le_of_ble_eq_true rfl⟩
theorem ze_78 : Cond.instanceMethod zy_78 ∈ zv_tb ∧ Cond.selects zy_78.cls zy_78 zy_78 ∈ zv_tb ∧ (parseMethodDescriptor zy_78.desc).map (fun d => d.parameters.length + 1) = some 2 ∧ zv_isI 78 = true := ⟨(zv_tbk_3 16 rfl rfl), (zv_tb_sel (List.mem_of_getElem? (i := 3) rfl) rfl), (by decide +kernel), rfl⟩
abbrev zy_79 : MethodName := ⟨"BranchedText$Reader", "isSign", "(I)Z"⟩
theorem zd_79 : zv_inf 79 = some (zy_79, (prog_5_method_11_code, (2, (some .boolean)))) ∧ zv_vD zy_79 prog_5_method_11_code 2 (some .boolean) := ⟨rfl, (zv_tbk_3 79 rfl rfl), zyi_3, zyc_3, Nat.le_of_ble_eq_true rfl⟩
theorem ze_79 : Cond.instanceMethod zy_79 ∈ zv_tb ∧ Cond.selects zy_79.cls zy_79 zy_79 ∈ zv_tb ∧ (parseMethodDescriptor zy_79.desc).map (fun d => d.parameters.length + 1) = some 2 ∧ zv_isI 79 = true := ⟨(zv_tbk_3 78 rfl rfl), (zv_tb_sel (List.mem_of_getElem? (i := 6) rfl) rfl), (by decide +kernel), rfl⟩
abbrev zy_80 : MethodName := ⟨"BranchedText$Reader", "head", "(LBranchedText$History;)V"⟩
theorem zd_80 : zv_inf 80 = some (zy_80, (prog_5_method_12_code, (2, none))) ∧ zv_vD zy_80 prog_5_method_12_code 2 none := ⟨rfl, (zv_tbk_3 12 rfl rfl), zyi_3, zyc_3, Nat.le_of_ble_eq_true rfl⟩
theorem ze_80 : Cond.instanceMethod zy_80 ∈ zv_tb ∧ Cond.selects zy_80.cls zy_80 zy_80 ∈ zv_tb ∧ (parseMethodDescriptor zy_80.desc).map (fun d => d.parameters.length + 1) = some 2 ∧ zv_isI 80 = true := ⟨(zv_tbk_3 10 rfl rfl), (zv_tbk_3 11 rfl rfl), (by decide +kernel), rfl⟩
abbrev zy_81 : MethodName := ⟨"BranchedText$Reader", "closed", "()Z"⟩
theorem zd_81 : zv_inf 81 = some (zy_81, (prog_5_method_13_code, (1, (some .boolean)))) ∧ zv_vD zy_81 prog_5_method_13_code 1 (some .boolean) := ⟨rfl, (zv_tbk_3 75 rfl rfl), zyi_3, zyc_3, Nat.le_of_ble_eq_true rfl⟩
theorem ze_81 : Cond.instanceMethod zy_81 ∈ zv_tb ∧ Cond.selects zy_81.cls zy_81 zy_81 ∈ zv_tb ∧ (parseMethodDescriptor zy_81.desc).map (fun d => d.parameters.length + 1) = some 1 ∧ zv_isI 81 = true := ⟨(zv_tbk_3 74 rfl rfl), (zv_tb_sel (List.mem_of_getElem? (i := 5) rfl) rfl), (by decide +kernel), rfl⟩
abbrev zy_82 : MethodName := ⟨"BranchedText$Reader", "spelled", "(I)Z"⟩
theorem zd_82 : zv_inf 82 = some (zy_82, (prog_5_method_14_code, (3, (some .boolean)))) ∧ zv_vD zy_82 prog_5_method_14_code 3 (some .boolean) := ⟨rfl, (zv_tbk_3 69 rfl rfl), zyi_3, zyc_3, Nat.le_of_ble_eq_true rfl⟩
theorem ze_82 : Cond.instanceMethod zy_82 ∈ zv_tb ∧ Cond.selects zy_82.cls zy_82 zy_82 ∈ zv_tb ∧ (parseMethodDescriptor zy_82.desc).map (fun d => d.parameters.length + 1) = some 2 ∧ zv_isI 82 = true := ⟨(zv_tbk_3 68 rfl rfl), (zv_tb_sel (List.mem_of_getElem? (i := 4) rfl) rfl), (by decide +kernel), rfl⟩
abbrev zy_83 : MethodName := ⟨"BranchedText$Reader", "test", "(LBranchedText$JoinTest;I)Z"⟩
theorem zd_83 : zv_inf 83 = some (zy_83, (prog_5_method_15_code, (5, (some .boolean)))) ∧ zv_vD zy_83 prog_5_method_15_code 5 (some .boolean) := ⟨rfl, (zv_tbk_3 104 rfl rfl), zyi_3, zyc_3, Nat.le_of_ble_eq_true rfl⟩
theorem ze_83 : Cond.instanceMethod zy_83 ∈ zv_tb ∧ Cond.selects zy_83.cls zy_83 zy_83 ∈ zv_tb ∧ (parseMethodDescriptor zy_83.desc).map (fun d => d.parameters.length + 1) = some 3 ∧ zv_isI 83 = true := ⟨(zv_tbk_3 103 rfl rfl), (zv_tb_sel (List.mem_of_getElem? (i := 8) rfl) rfl), (by decide +kernel), rfl⟩
abbrev zy_84 : MethodName := ⟨"BranchedText$Reader", "side", "(LBranchedText$JoinTest;I)Z"⟩
theorem zd_84 : zv_inf 84 = some (zy_84, (prog_5_method_16_code, (5, (some .boolean)))) ∧ zv_vD zy_84 prog_5_method_16_code 5 (some .boolean) := ⟨rfl, (zv_tbk_3 108 rfl rfl), zyi_3, zyc_3, Nat.le_of_ble_eq_true rfl⟩
theorem ze_84 : Cond.instanceMethod zy_84 ∈ zv_tb ∧ Cond.selects zy_84.cls zy_84 zy_84 ∈ zv_tb ∧ (parseMethodDescriptor zy_84.desc).map (fun d => d.parameters.length + 1) = some 3 ∧ zv_isI 84 = true := ⟨(zv_tbk_3 107 rfl rfl), (zv_tb_sel (List.mem_of_getElem? (i := 9) rfl) rfl), (by decide +kernel), rfl⟩
abbrev zy_85 : MethodName := ⟨"BranchedText$Reader", "fact", "(LBranchedText$JoinTest;I)Z"⟩
theorem zd_85 : zv_inf 85 = some (zy_85, (prog_5_method_17_code, (5, (some .boolean)))) ∧ zv_vD zy_85 prog_5_method_17_code 5 (some .boolean) := ⟨rfl, (zv_tbk_3 112 rfl rfl), zyi_3, zyc_3, Nat.le_of_ble_eq_true rfl⟩
theorem ze_85 : Cond.instanceMethod zy_85 ∈ zv_tb ∧ Cond.selects zy_85.cls zy_85 zy_85 ∈ zv_tb ∧ (parseMethodDescriptor zy_85.desc).map (fun d => d.parameters.length + 1) = some 3 ∧ zv_isI 85 = true := ⟨(zv_tbk_3 111 rfl rfl), (zv_tb_sel (List.mem_of_getElem? (i := 10) rfl) rfl), (by decide +kernel), rfl⟩
abbrev zy_86 : MethodName := ⟨"BranchedText$Reader", "comparison", "(LBranchedText$JoinTest;I)Z"⟩
theorem zd_86 : zv_inf 86 = some (zy_86, (prog_5_method_18_code, (4, (some .boolean)))) ∧ zv_vD zy_86 prog_5_method_18_code 4 (some .boolean) := ⟨rfl, (zv_tbk_3 127 rfl rfl), zyi_3, zyc_3, Nat.le_of_ble_eq_true rfl⟩
theorem ze_86 : Cond.instanceMethod zy_86 ∈ zv_tb ∧ Cond.selects zy_86.cls zy_86 zy_86 ∈ zv_tb ∧ (parseMethodDescriptor zy_86.desc).map (fun d => d.parameters.length + 1) = some 3 ∧ zv_isI 86 = true := ⟨(zv_tbk_3 126 rfl rfl), (zv_tb_sel (List.mem_of_getElem? (i := 12) rfl) rfl), (by decide +kernel), rfl⟩
abbrev zy_87 : MethodName := ⟨"BranchedText$Reader", "asked", "()I"⟩
theorem zd_87 : zv_inf 87 = some (zy_87, (prog_5_method_19_code, (1, (some .int)))) ∧ zv_vD zy_87 prog_5_method_19_code 1 (some .int) := ⟨rfl, (zv_tbk_3 117 rfl rfl), zyi_3, zyc_3, Nat.le_of_ble_eq_true rfl⟩
theorem ze_87 : Cond.instanceMethod zy_87 ∈ zv_tb ∧ Cond.selects zy_87.cls zy_87 zy_87 ∈ zv_tb ∧ (parseMethodDescriptor zy_87.desc).map (fun d => d.parameters.length + 1) = some 1 ∧ zv_isI 87 = true := ⟨(zv_tbk_3 116 rfl rfl), (zv_tb_sel (List.mem_of_getElem? (i := 11) rfl) rfl), (by decide +kernel), rfl⟩
abbrev zy_88 : MethodName := ⟨"BranchedText$Reader", "line", "()Z"⟩
theorem zd_88 : zv_inf 88 = some (zy_88, (prog_5_method_20_code, (2, (some .boolean)))) ∧ zv_vD zy_88 prog_5_method_20_code 2 (some .boolean) := ⟨rfl, (zv_tbk_3 139 rfl rfl), zyi_3, zyc_3, Nat.le_of_ble_eq_true rfl⟩
theorem ze_88 : Cond.instanceMethod zy_88 ∈ zv_tb ∧ Cond.selects zy_88.cls zy_88 zy_88 ∈ zv_tb ∧ (parseMethodDescriptor zy_88.desc).map (fun d => d.parameters.length + 1) = some 1 ∧ zv_isI 88 = true := ⟨(zv_tbk_3 137 rfl rfl), (zv_tbk_3 138 rfl rfl), (by decide +kernel), rfl⟩
abbrev zy_89 : MethodName := ⟨"BranchedText$Reader", "verbHere", "()I"⟩
theorem zd_89 : zv_inf 89 = some (zy_89, (prog_5_method_21_code, (1, (some .int)))) ∧ zv_vD zy_89 prog_5_method_21_code 1 (some .int) := ⟨rfl, (zv_tbk_3 143 rfl rfl), zyi_3, zyc_3, Nat.le_of_ble_eq_true rfl⟩
theorem ze_89 : Cond.instanceMethod zy_89 ∈ zv_tb ∧ Cond.selects zy_89.cls zy_89 zy_89 ∈ zv_tb ∧ (parseMethodDescriptor zy_89.desc).map (fun d => d.parameters.length + 1) = some 1 ∧ zv_isI 89 = true := ⟨(zv_tbk_3 142 rfl rfl), (zv_tb_sel (List.mem_of_getElem? (i := 13) rfl) rfl), (by decide +kernel), rfl⟩
abbrev zy_90 : MethodName := ⟨"BranchedText$Row", "<init>", "()V"⟩
theorem zd_90 : zv_inf 90 = some (zy_90, (prog_6_method_1_code, (1, none))) ∧ zv_vD zy_90 prog_6_method_1_code 1 none := ⟨rfl, (zv_tbk_1 208 rfl rfl), zyi_4, zyc_4, Nat.le_of_ble_eq_true rfl⟩
theorem ze_90 : Cond.instanceMethod zy_90 ∈ zv_tb ∧ True ∧ (parseMethodDescriptor zy_90.desc).map (fun d => d.parameters.length + 1) = some 1 ∧ zv_isI 90 = true := ⟨(zv_tbk_1 207 rfl rfl), trivial, (by decide +kernel), rfl⟩
abbrev zy_91 : MethodName := ⟨"BranchedText$Row", "id", "(II)I"⟩
theorem zd_91 : zv_inf 91 = some (zy_91, (prog_6_method_2_code, (2, (some .int)))) ∧ zv_vD zy_91 prog_6_method_2_code 2 (some .int) := ⟨rfl, (zv_tbk_3 86 rfl rfl), zyi_4, zyc_4, Nat.le_of_ble_eq_true rfl⟩
theorem ze_91 : Cond.static zy_91 ∈ zv_tb ∧ (parseMethodDescriptor zy_91.desc).map (fun d => d.parameters.length) = some 2 := ⟨(zv_tbk_3 85 rfl rfl), (by decide +kernel)⟩
abbrev zy_92 : MethodName := ⟨"BranchedText$Row", "putter", "(I)I"⟩
theorem zd_92 : zv_inf 92 = some (zy_92, (prog_6_method_3_code, (1, (some .int)))) ∧ zv_vD zy_92 prog_6_method_3_code 1 (some .int) := ⟨rfl, (zv_tbk_3 185 rfl rfl), zyi_4, zyc_4, Nat.le_of_ble_eq_true rfl⟩
theorem ze_92 : Cond.static zy_92 ∈ zv_tb ∧ (parseMethodDescriptor zy_92.desc).map (fun d => d.parameters.length) = some 1 := ⟨(zv_tbk_3 184 rfl rfl), (by decide +kernel)⟩
abbrev zy_93 : MethodName := ⟨"BranchedText$Row", "order", "(I)I"⟩
theorem zd_93 : zv_inf 93 = some (zy_93, (prog_6_method_4_code, (1, (some .int)))) ∧ zv_vD zy_93 prog_6_method_4_code 1 (some .int) := ⟨rfl, (zv_tbk_4 143 rfl rfl), zyi_4, zyc_4, Nat.le_of_ble_eq_true rfl⟩
theorem ze_93 : Cond.static zy_93 ∈ zv_tb ∧ (parseMethodDescriptor zy_93.desc).map (fun d => d.parameters.length) = some 1 := ⟨(zv_tbk_4 142 rfl rfl), (by decide +kernel)⟩
abbrev zy_94 : MethodName := ⟨"BranchedText$Row", "isId", "(I)Z"⟩
theorem zd_94 : zv_inf 94 = some (zy_94, (prog_6_method_5_code, (1, (some .boolean)))) ∧ zv_vD zy_94 prog_6_method_5_code 1 (some .boolean) := ⟨rfl, (zv_tbk_4 72 rfl rfl), zyi_4, zyc_4, Nat.le_of_ble_eq_true rfl⟩
theorem ze_94 : Cond.static zy_94 ∈ zv_tb ∧ (parseMethodDescriptor zy_94.desc).map (fun d => d.parameters.length) = some 1 := ⟨(zv_tbk_4 71 rfl rfl), (by decide +kernel)⟩
abbrev zy_95 : MethodName := ⟨"BranchedText$Row", "lay", "(LBranchedText$State;)V"⟩
theorem zd_95 : zv_inf 95 = some (zy_95, (prog_6_method_6_code, (4, none))) ∧ zv_vD zy_95 prog_6_method_6_code 4 none := ⟨rfl, (zv_tbk_4 50 rfl rfl), zyi_4, zyc_4, Nat.le_of_ble_eq_true rfl⟩
theorem ze_95 : Cond.instanceMethod zy_95 ∈ zv_tb ∧ Cond.selects zy_95.cls zy_95 zy_95 ∈ zv_tb ∧ (parseMethodDescriptor zy_95.desc).map (fun d => d.parameters.length + 1) = some 2 ∧ zv_isI 95 = true := ⟨(zv_tbk_4 48 rfl rfl), (zv_tbk_4 49 rfl rfl), (by decide +kernel), rfl⟩
abbrev zy_96 : MethodName := ⟨"BranchedText$Row", "walk", "(LBranchedText$State;)V"⟩
theorem zd_96 : zv_inf 96 = some (zy_96, (prog_6_method_7_code, (7, none))) ∧ zv_vD zy_96 prog_6_method_7_code 7 none := ⟨rfl, (zv_tbk_4 54 rfl rfl), zyi_4, zyc_4, Nat.le_of_ble_eq_true rfl⟩
theorem ze_96 : Cond.instanceMethod zy_96 ∈ zv_tb ∧ Cond.selects zy_96.cls zy_96 zy_96 ∈ zv_tb ∧ (parseMethodDescriptor zy_96.desc).map (fun d => d.parameters.length + 1) = some 2 ∧ zv_isI 96 = true := ⟨(zv_tbk_4 52 rfl rfl), (zv_tbk_4 53 rfl rfl), (by decide +kernel), rfl⟩
abbrev zy_97 : MethodName := ⟨"BranchedText$Row", "link", "(LBranchedText$State;)V"⟩
theorem zd_97 : zv_inf 97 = some (zy_97, (prog_6_method_8_code, (6, none))) ∧ zv_vD zy_97 prog_6_method_8_code 6 none := ⟨rfl, (zv_tbk_4 69 rfl rfl), zyi_4, zyc_4, Nat.le_of_ble_eq_true rfl⟩
theorem ze_97 : Cond.instanceMethod zy_97 ∈ zv_tb ∧ Cond.selects zy_97.cls zy_97 zy_97 ∈ zv_tb ∧ (parseMethodDescriptor zy_97.desc).map (fun d => d.parameters.length + 1) = some 2 ∧ zv_isI 97 = true := ⟨(zv_tbk_4 68 rfl rfl), (zv_tb_sel (List.mem_of_getElem? (i := 20) rfl) rfl), (by decide +kernel), rfl⟩
abbrev zy_98 : MethodName := ⟨"BranchedText$Row", "look", "(J)V"⟩
theorem zd_98 : zv_inf 98 = some (zy_98, (prog_6_method_9_code, (7, none))) ∧ zv_vD zy_98 prog_6_method_9_code 7 none := ⟨rfl, (zv_tbk_4 77 rfl rfl), zyi_4, zyc_4, Nat.le_of_ble_eq_true rfl⟩
theorem ze_98 : Cond.instanceMethod zy_98 ∈ zv_tb ∧ Cond.selects zy_98.cls zy_98 zy_98 ∈ zv_tb ∧ (parseMethodDescriptor zy_98.desc).map (fun d => d.parameters.length + 1) = some 2 ∧ zv_isI 98 = true := ⟨(zv_tbk_4 75 rfl rfl), (zv_tbk_4 76 rfl rfl), (by decide +kernel), rfl⟩
abbrev zy_99 : MethodName := ⟨"BranchedText$Row", "numberAt", "(I)I"⟩
theorem zd_99 : zv_inf 99 = some (zy_99, (prog_6_method_10_code, (2, (some .int)))) ∧ zv_vD zy_99 prog_6_method_10_code 2 (some .int) := ⟨rfl, (zv_tbk_5 200 rfl rfl), zyi_4, zyc_4, Nat.le_of_ble_eq_true rfl⟩
theorem ze_99 : Cond.instanceMethod zy_99 ∈ zv_tb ∧ Cond.selects zy_99.cls zy_99 zy_99 ∈ zv_tb ∧ (parseMethodDescriptor zy_99.desc).map (fun d => d.parameters.length + 1) = some 2 ∧ zv_isI 99 = true := ⟨(zv_tbk_5 198 rfl rfl), (zv_tbk_5 199 rfl rfl), (by decide +kernel), rfl⟩
abbrev zy_100 : MethodName := ⟨"BranchedText$Row", "idAt", "(I)I"⟩
theorem zd_100 : zv_inf 100 = some (zy_100, (prog_6_method_11_code, (2, (some .int)))) ∧ zv_vD zy_100 prog_6_method_11_code 2 (some .int) := ⟨rfl, (zv_tbk_4 107 rfl rfl), zyi_4, zyc_4, Nat.le_of_ble_eq_true rfl⟩
theorem ze_100 : Cond.instanceMethod zy_100 ∈ zv_tb ∧ Cond.selects zy_100.cls zy_100 zy_100 ∈ zv_tb ∧ (parseMethodDescriptor zy_100.desc).map (fun d => d.parameters.length + 1) = some 2 ∧ zv_isI 100 = true := ⟨(zv_tbk_4 105 rfl rfl), (zv_tbk_4 106 rfl rfl), (by decide +kernel), rfl⟩
abbrev zy_101 : MethodName := ⟨"BranchedText$Row", "seesAt", "(I)Z"⟩
theorem zd_101 : zv_inf 101 = some (zy_101, (prog_6_method_12_code, (2, (some .boolean)))) ∧ zv_vD zy_101 prog_6_method_12_code 2 (some .boolean) := ⟨rfl, (zv_tbk_4 103 rfl rfl), zyi_4, zyc_4, Nat.le_of_ble_eq_true rfl⟩
theorem ze_101 : Cond.instanceMethod zy_101 ∈ zv_tb ∧ Cond.selects zy_101.cls zy_101 zy_101 ∈ zv_tb ∧ (parseMethodDescriptor zy_101.desc).map (fun d => d.parameters.length + 1) = some 2 ∧ zv_isI 101 = true := ⟨(zv_tbk_4 101 rfl rfl), (zv_tbk_4 102 rfl rfl), (by decide +kernel), rfl⟩
abbrev zy_102 : MethodName := ⟨"BranchedText$Row", "placeOf", "(I)I"⟩
theorem zd_102 : zv_inf 102 = some (zy_102, (prog_6_method_13_code, (3, (some .int)))) ∧ zv_vD zy_102 prog_6_method_13_code 3 (some .int) := ⟨rfl, (zv_tbk_4 156 rfl rfl), zyi_4, zyc_4, Nat.le_of_ble_eq_true rfl⟩
theorem ze_102 : Cond.instanceMethod zy_102 ∈ zv_tb ∧ Cond.selects zy_102.cls zy_102 zy_102 ∈ zv_tb ∧ (parseMethodDescriptor zy_102.desc).map (fun d => d.parameters.length + 1) = some 2 ∧ zv_isI 102 = true := ⟨(zv_tbk_4 154 rfl rfl), (zv_tbk_4 155 rfl rfl), (by decide +kernel), rfl⟩
abbrev zy_103 : MethodName := ⟨"BranchedText$Row", "seenUpTo", "(I)I"⟩
theorem zd_103 : zv_inf 103 = some (zy_103, (prog_6_method_14_code, (5, (some .int)))) ∧ zv_vD zy_103 prog_6_method_14_code 5 (some .int) := ⟨rfl, (zv_tbk_4 152 rfl rfl), zyi_4, zyc_4, Nat.le_of_ble_eq_true rfl⟩
theorem ze_103 : Cond.instanceMethod zy_103 ∈ zv_tb ∧ Cond.selects zy_103.cls zy_103 zy_103 ∈ zv_tb ∧ (parseMethodDescriptor zy_103.desc).map (fun d => d.parameters.length + 1) = some 2 ∧ zv_isI 103 = true := ⟨(zv_tbk_4 150 rfl rfl), (zv_tbk_4 151 rfl rfl), (by decide +kernel), rfl⟩
abbrev zy_104 : MethodName := ⟨"BranchedText$Row", "outOfForce", "()J"⟩
theorem zd_104 : zv_inf 104 = some (zy_104, (prog_6_method_15_code, (1, (some .long)))) ∧ zv_vD zy_104 prog_6_method_15_code 1 (some .long) := ⟨rfl, (zv_tbk_4 220 rfl rfl), zyi_4, zyc_4, Nat.le_of_ble_eq_true rfl⟩
theorem ze_104 : Cond.instanceMethod zy_104 ∈ zv_tb ∧ Cond.selects zy_104.cls zy_104 zy_104 ∈ zv_tb ∧ (parseMethodDescriptor zy_104.desc).map (fun d => d.parameters.length + 1) = some 1 ∧ zv_isI 104 = true := ⟨(zv_tbk_4 218 rfl rfl), (zv_tbk_4 219 rfl rfl), (by decide +kernel), rfl⟩
abbrev zy_105 : MethodName := ⟨"BranchedText$Row", "cutsInForce", "(I)I"⟩
theorem zd_105 : zv_inf 105 = some (zy_105, (prog_6_method_16_code, (5, (some .int)))) ∧ zv_vD zy_105 prog_6_method_16_code 5 (some .int) := ⟨rfl, (zv_tbk_5 25 rfl rfl), zyi_4, zyc_4, Nat.le_of_ble_eq_true rfl⟩
theorem ze_105 : Cond.instanceMethod zy_105 ∈ zv_tb ∧ Cond.selects zy_105.cls zy_105 zy_105 ∈ zv_tb ∧ (parseMethodDescriptor zy_105.desc).map (fun d => d.parameters.length + 1) = some 2 ∧ zv_isI 105 = true := ⟨(zv_tbk_5 23 rfl rfl), (zv_tbk_5 24 rfl rfl), (by decide +kernel), rfl⟩
abbrev zy_106 : MethodName := ⟨"BranchedText$Row", "lastCut", "(I)I"⟩
theorem zd_106 : zv_inf 106 = some (zy_106, (prog_6_method_17_code, (3, (some .int)))) ∧ zv_vD zy_106 prog_6_method_17_code 3 (some .int) := ⟨rfl, (zv_tbk_5 34 rfl rfl), zyi_4, zyc_4, Nat.le_of_ble_eq_true rfl⟩
theorem ze_106 : Cond.instanceMethod zy_106 ∈ zv_tb ∧ Cond.selects zy_106.cls zy_106 zy_106 ∈ zv_tb ∧ (parseMethodDescriptor zy_106.desc).map (fun d => d.parameters.length + 1) = some 2 ∧ zv_isI 106 = true := ⟨(zv_tbk_5 32 rfl rfl), (zv_tbk_5 33 rfl rfl), (by decide +kernel), rfl⟩
abbrev zy_107 : MethodName := ⟨"BranchedText$Row", "leaningOn", "(LBranchedText$State;)J"⟩
theorem zd_107 : zv_inf 107 = some (zy_107, (prog_6_method_18_code, (6, (some .long)))) ∧ zv_vD zy_107 prog_6_method_18_code 6 (some .long) := ⟨rfl, (zv_tbk_4 87 rfl rfl), zyi_4, zyc_4, Nat.le_of_ble_eq_true rfl⟩
theorem ze_107 : Cond.instanceMethod zy_107 ∈ zv_tb ∧ Cond.selects zy_107.cls zy_107 zy_107 ∈ zv_tb ∧ (parseMethodDescriptor zy_107.desc).map (fun d => d.parameters.length + 1) = some 2 ∧ zv_isI 107 = true := ⟨(zv_tbk_4 85 rfl rfl), (zv_tbk_4 86 rfl rfl), (by decide +kernel), rfl⟩
abbrev zy_108 : MethodName := ⟨"BranchedText$Row", "groundOf", "(LBranchedText$State;)J"⟩
theorem zd_108 : zv_inf 108 = some (zy_108, (prog_6_method_19_code, (5, (some .long)))) ∧ zv_vD zy_108 prog_6_method_19_code 5 (some .long) := ⟨rfl, (zv_tbk_4 115 rfl rfl), zyi_4, zyc_4, Nat.le_of_ble_eq_true rfl⟩
theorem ze_108 : Cond.instanceMethod zy_108 ∈ zv_tb ∧ Cond.selects zy_108.cls zy_108 zy_108 ∈ zv_tb ∧ (parseMethodDescriptor zy_108.desc).map (fun d => d.parameters.length + 1) = some 2 ∧ zv_isI 108 = true := ⟨(zv_tbk_4 113 rfl rfl), (zv_tbk_4 114 rfl rfl), (by decide +kernel), rfl⟩
abbrev zy_109 : MethodName := ⟨"BranchedText$State", "<init>", "(I)V"⟩
theorem zd_109 : zv_inf 109 = some (zy_109, (prog_7_method_1_code, (2, none))) ∧ zv_vD zy_109 prog_7_method_1_code 2 none := ⟨rfl, (zv_tbk_1 108 rfl rfl), zyi_5, zyc_5, Nat.le_of_ble_eq_true rfl⟩
theorem ze_109 : Cond.instanceMethod zy_109 ∈ zv_tb ∧ True ∧ (parseMethodDescriptor zy_109.desc).map (fun d => d.parameters.length + 1) = some 2 ∧ zv_isI 109 = true := ⟨(zv_tbk_1 107 rfl rfl), trivial, (by decide +kernel), rfl⟩
abbrev zy_110 : MethodName := ⟨"BranchedText$State", "open", "(LBranchedText$State;III)V"⟩
theorem zd_110 : zv_inf 110 = some (zy_110, (prog_7_method_2_code, (5, none))) ∧ zv_vD zy_110 prog_7_method_2_code 5 none := ⟨rfl, (zv_tbk_2 85 rfl rfl), zyi_5, zyc_5, Nat.le_of_ble_eq_true rfl⟩
theorem ze_110 : Cond.instanceMethod zy_110 ∈ zv_tb ∧ Cond.selects zy_110.cls zy_110 zy_110 ∈ zv_tb ∧ (parseMethodDescriptor zy_110.desc).map (fun d => d.parameters.length + 1) = some 5 ∧ zv_isI 110 = true := ⟨(zv_tbk_2 83 rfl rfl), (zv_tbk_2 84 rfl rfl), (by decide +kernel), rfl⟩
abbrev zy_111 : MethodName := ⟨"BranchedText$State", "bit", "()J"⟩
theorem zd_111 : zv_inf 111 = some (zy_111, (prog_7_method_3_code, (1, (some .long)))) ∧ zv_vD zy_111 prog_7_method_3_code 1 (some .long) := ⟨rfl, (zv_tbk_4 60 rfl rfl), zyi_5, zyc_5, Nat.le_of_ble_eq_true rfl⟩
theorem ze_111 : Cond.instanceMethod zy_111 ∈ zv_tb ∧ Cond.selects zy_111.cls zy_111 zy_111 ∈ zv_tb ∧ (parseMethodDescriptor zy_111.desc).map (fun d => d.parameters.length + 1) = some 1 ∧ zv_isI 111 = true := ⟨(zv_tbk_4 58 rfl rfl), (zv_tbk_4 59 rfl rfl), (by decide +kernel), rfl⟩
abbrev zy_112 : MethodName := ⟨"BranchedText$State", "edits", "()Z"⟩
theorem zd_112 : zv_inf 112 = some (zy_112, (prog_7_method_4_code, (1, (some .boolean)))) ∧ zv_vD zy_112 prog_7_method_4_code 1 (some .boolean) := ⟨rfl, (zv_tbk_3 193 rfl rfl), zyi_5, zyc_5, Nat.le_of_ble_eq_true rfl⟩
theorem ze_112 : Cond.instanceMethod zy_112 ∈ zv_tb ∧ Cond.selects zy_112.cls zy_112 zy_112 ∈ zv_tb ∧ (parseMethodDescriptor zy_112.desc).map (fun d => d.parameters.length + 1) = some 1 ∧ zv_isI 112 = true := ⟨(zv_tbk_3 191 rfl rfl), (zv_tbk_3 192 rfl rfl), (by decide +kernel), rfl⟩
abbrev zy_113 : MethodName := ⟨"BranchedText$State", "brings", "()Z"⟩
theorem zd_113 : zv_inf 113 = some (zy_113, (prog_7_method_5_code, (1, (some .boolean)))) ∧ zv_vD zy_113 prog_7_method_5_code 1 (some .boolean) := ⟨rfl, (zv_tbk_4 65 rfl rfl), zyi_5, zyc_5, Nat.le_of_ble_eq_true rfl⟩
theorem ze_113 : Cond.instanceMethod zy_113 ∈ zv_tb ∧ Cond.selects zy_113.cls zy_113 zy_113 ∈ zv_tb ∧ (parseMethodDescriptor zy_113.desc).map (fun d => d.parameters.length + 1) = some 1 ∧ zv_isI 113 = true := ⟨(zv_tbk_4 63 rfl rfl), (zv_tbk_4 64 rfl rfl), (by decide +kernel), rfl⟩
abbrev zy_114 : MethodName := ⟨"BranchedText$State", "idAt", "(I)I"⟩
theorem zd_114 : zv_inf 114 = some (zy_114, (prog_7_method_6_code, (2, (some .int)))) ∧ zv_vD zy_114 prog_7_method_6_code 2 (some .int) := ⟨rfl, (zv_tbk_3 179 rfl rfl), zyi_5, zyc_5, Nat.le_of_ble_eq_true rfl⟩
theorem ze_114 : Cond.instanceMethod zy_114 ∈ zv_tb ∧ Cond.selects zy_114.cls zy_114 zy_114 ∈ zv_tb ∧ (parseMethodDescriptor zy_114.desc).map (fun d => d.parameters.length + 1) = some 2 ∧ zv_isI 114 = true := ⟨(zv_tbk_3 177 rfl rfl), (zv_tbk_3 178 rfl rfl), (by decide +kernel), rfl⟩
abbrev zy_115 : MethodName := ⟨"BranchedText$State", "addId", "(I)V"⟩
theorem zd_115 : zv_inf 115 = some (zy_115, (prog_7_method_7_code, (2, none))) ∧ zv_vD zy_115 prog_7_method_7_code 2 none := ⟨rfl, (zv_tbk_3 98 rfl rfl), zyi_5, zyc_5, Nat.le_of_ble_eq_true rfl⟩
theorem ze_115 : Cond.instanceMethod zy_115 ∈ zv_tb ∧ Cond.selects zy_115.cls zy_115 zy_115 ∈ zv_tb ∧ (parseMethodDescriptor zy_115.desc).map (fun d => d.parameters.length + 1) = some 2 ∧ zv_isI 115 = true := ⟨(zv_tbk_3 96 rfl rfl), (zv_tbk_3 97 rfl rfl), (by decide +kernel), rfl⟩
abbrev zy_116 : MethodName := ⟨"BranchedText$State", "tookAt", "(I)I"⟩
theorem zd_116 : zv_inf 116 = some (zy_116, (prog_7_method_8_code, (2, (some .int)))) ∧ zv_vD zy_116 prog_7_method_8_code 2 (some .int) := ⟨rfl, (zv_tbk_4 81 rfl rfl), zyi_5, zyc_5, Nat.le_of_ble_eq_true rfl⟩
theorem ze_116 : Cond.instanceMethod zy_116 ∈ zv_tb ∧ Cond.selects zy_116.cls zy_116 zy_116 ∈ zv_tb ∧ (parseMethodDescriptor zy_116.desc).map (fun d => d.parameters.length + 1) = some 2 ∧ zv_isI 116 = true := ⟨(zv_tbk_4 79 rfl rfl), (zv_tbk_4 80 rfl rfl), (by decide +kernel), rfl⟩
abbrev zy_117 : MethodName := ⟨"BranchedText$State", "tookIt", "(I)Z"⟩
theorem zd_117 : zv_inf 117 = some (zy_117, (prog_7_method_9_code, (3, (some .boolean)))) ∧ zv_vD zy_117 prog_7_method_9_code 3 (some .boolean) := ⟨rfl, (zv_tbk_5 29 rfl rfl), zyi_5, zyc_5, Nat.le_of_ble_eq_true rfl⟩
theorem ze_117 : Cond.instanceMethod zy_117 ∈ zv_tb ∧ Cond.selects zy_117.cls zy_117 zy_117 ∈ zv_tb ∧ (parseMethodDescriptor zy_117.desc).map (fun d => d.parameters.length + 1) = some 2 ∧ zv_isI 117 = true := ⟨(zv_tbk_5 27 rfl rfl), (zv_tbk_5 28 rfl rfl), (by decide +kernel), rfl⟩
abbrev zy_118 : MethodName := ⟨"BranchedText$Visits", "<init>", "()V"⟩
theorem zd_118 : zv_inf 118 = some (zy_118, (prog_8_method_1_code, (1, none))) ∧ zv_vD zy_118 prog_8_method_1_code 1 none := ⟨rfl, (zv_tbk_2 34 rfl rfl), zyi_6, zyc_6, Nat.le_of_ble_eq_true rfl⟩
theorem ze_118 : Cond.instanceMethod zy_118 ∈ zv_tb ∧ True ∧ (parseMethodDescriptor zy_118.desc).map (fun d => d.parameters.length + 1) = some 1 ∧ zv_isI 118 = true := ⟨(zv_tbk_2 33 rfl rfl), trivial, (by decide +kernel), rfl⟩
abbrev zy_119 : MethodName := ⟨"BranchedText$Visits", "add", "(LBranchedText$State;I)V"⟩
theorem zd_119 : zv_inf 119 = some (zy_119, (prog_8_method_2_code, (4, none))) ∧ zv_vD zy_119 prog_8_method_2_code 4 none := ⟨rfl, (zv_tbk_3 175 rfl rfl), zyi_6, zyc_6, Nat.le_of_ble_eq_true rfl⟩
theorem ze_119 : Cond.instanceMethod zy_119 ∈ zv_tb ∧ Cond.selects zy_119.cls zy_119 zy_119 ∈ zv_tb ∧ (parseMethodDescriptor zy_119.desc).map (fun d => d.parameters.length + 1) = some 3 ∧ zv_isI 119 = true := ⟨(zv_tbk_3 173 rfl rfl), (zv_tbk_3 174 rfl rfl), (by decide +kernel), rfl⟩
abbrev zy_120 : MethodName := ⟨"BranchedText$Visits", "slot", "(I)I"⟩
theorem zd_120 : zv_inf 120 = some (zy_120, (prog_8_method_3_code, (2, (some .int)))) ∧ zv_vD zy_120 prog_8_method_3_code 2 (some .int) := ⟨rfl, (zv_tbk_5 46 rfl rfl), zyi_6, zyc_6, Nat.le_of_ble_eq_true rfl⟩
theorem ze_120 : Cond.instanceMethod zy_120 ∈ zv_tb ∧ Cond.selects zy_120.cls zy_120 zy_120 ∈ zv_tb ∧ (parseMethodDescriptor zy_120.desc).map (fun d => d.parameters.length + 1) = some 2 ∧ zv_isI 120 = true := ⟨(zv_tbk_5 45 rfl rfl), (zv_tb_sel (List.mem_of_getElem? (i := 30) rfl) rfl), (by decide +kernel), rfl⟩
abbrev zy_121 : MethodName := ⟨"BranchedText$Visits", "stateAt", "(I)I"⟩
theorem zd_121 : zv_inf 121 = some (zy_121, (prog_8_method_4_code, (3, (some .int)))) ∧ zv_vD zy_121 prog_8_method_4_code 3 (some .int) := ⟨rfl, (zv_tbk_5 42 rfl rfl), zyi_6, zyc_6, Nat.le_of_ble_eq_true rfl⟩
theorem ze_121 : Cond.instanceMethod zy_121 ∈ zv_tb ∧ Cond.selects zy_121.cls zy_121 zy_121 ∈ zv_tb ∧ (parseMethodDescriptor zy_121.desc).map (fun d => d.parameters.length + 1) = some 2 ∧ zv_isI 121 = true := ⟨(zv_tbk_5 40 rfl rfl), (zv_tbk_5 41 rfl rfl), (by decide +kernel), rfl⟩
abbrev zy_122 : MethodName := ⟨"BranchedText$Visits", "timeAt", "(I)I"⟩
theorem zd_122 : zv_inf 122 = some (zy_122, (prog_8_method_5_code, (3, (some .int)))) ∧ zv_vD zy_122 prog_8_method_5_code 3 (some .int) := ⟨rfl, (zv_tbk_5 50 rfl rfl), zyi_6, zyc_6, Nat.le_of_ble_eq_true rfl⟩
theorem ze_122 : Cond.instanceMethod zy_122 ∈ zv_tb ∧ Cond.selects zy_122.cls zy_122 zy_122 ∈ zv_tb ∧ (parseMethodDescriptor zy_122.desc).map (fun d => d.parameters.length + 1) = some 2 ∧ zv_isI 122 = true := ⟨(zv_tbk_5 48 rfl rfl), (zv_tbk_5 49 rfl rfl), (by decide +kernel), rfl⟩
abbrev zy_123 : MethodName := ⟨"BranchedText$Visits", "forget", "(I)V"⟩
theorem zd_123 : zv_inf 123 = some (zy_123, (prog_8_method_6_code, (3, none))) ∧ zv_vD zy_123 prog_8_method_6_code 3 none := ⟨rfl, (zv_tbk_4 193 rfl rfl), zyi_6, zyc_6, Nat.le_of_ble_eq_true rfl⟩
theorem ze_123 : Cond.instanceMethod zy_123 ∈ zv_tb ∧ Cond.selects zy_123.cls zy_123 zy_123 ∈ zv_tb ∧ (parseMethodDescriptor zy_123.desc).map (fun d => d.parameters.length + 1) = some 2 ∧ zv_isI 123 = true := ⟨(zv_tbk_4 191 rfl rfl), (zv_tbk_4 192 rfl rfl), (by decide +kernel), rfl⟩
abbrev zy_124 : MethodName := ⟨"BranchedText$Visits", "keep", "()V"⟩
theorem zd_124 : zv_inf 124 = some (zy_124, (prog_8_method_7_code, (1, none))) ∧ zv_vD zy_124 prog_8_method_7_code 1 none := ⟨rfl, (zv_tbk_5 172 rfl rfl), zyi_6, zyc_6, Nat.le_of_ble_eq_true rfl⟩
theorem ze_124 : Cond.instanceMethod zy_124 ∈ zv_tb ∧ Cond.selects zy_124.cls zy_124 zy_124 ∈ zv_tb ∧ (parseMethodDescriptor zy_124.desc).map (fun d => d.parameters.length + 1) = some 1 ∧ zv_isI 124 = true := ⟨(zv_tbk_5 170 rfl rfl), (zv_tbk_5 171 rfl rfl), (by decide +kernel), rfl⟩
abbrev zy_125 : MethodName := ⟨"BranchedText$Visits", "giveBack", "()V"⟩
theorem zd_125 : zv_inf 125 = some (zy_125, (prog_8_method_8_code, (1, none))) ∧ zv_vD zy_125 prog_8_method_8_code 1 none := ⟨rfl, (zv_tbk_5 180 rfl rfl), zyi_6, zyc_6, Nat.le_of_ble_eq_true rfl⟩
theorem ze_125 : Cond.instanceMethod zy_125 ∈ zv_tb ∧ Cond.selects zy_125.cls zy_125 zy_125 ∈ zv_tb ∧ (parseMethodDescriptor zy_125.desc).map (fun d => d.parameters.length + 1) = some 1 ∧ zv_isI 125 = true := ⟨(zv_tbk_5 178 rfl rfl), (zv_tbk_5 179 rfl rfl), (by decide +kernel), rfl⟩
abbrev zy_126 : MethodName := ⟨"BranchedText$Word", "<init>", "()V"⟩
theorem zd_126 : zv_inf 126 = some (zy_126, (prog_9_method_1_code, (1, none))) ∧ zv_vD zy_126 prog_9_method_1_code 1 none := ⟨rfl, (zv_tbk_1 31 rfl rfl), zyi_7, zyc_7, Nat.le_of_ble_eq_true rfl⟩
theorem ze_126 : Cond.instanceMethod zy_126 ∈ zv_tb ∧ True ∧ (parseMethodDescriptor zy_126.desc).map (fun d => d.parameters.length + 1) = some 1 ∧ zv_isI 126 = true := ⟨(zv_tbk_1 30 rfl rfl), trivial, (by decide +kernel), rfl⟩
abbrev zy_127 : MethodName := ⟨"BranchedText$Word", "clear", "()V"⟩
theorem zd_127 : zv_inf 127 = some (zy_127, (prog_9_method_2_code, (1, none))) ∧ zv_vD zy_127 prog_9_method_2_code 1 none := ⟨rfl, (zv_tbk_2 210 rfl rfl), zyi_7, zyc_7, Nat.le_of_ble_eq_true rfl⟩
theorem ze_127 : Cond.instanceMethod zy_127 ∈ zv_tb ∧ Cond.selects zy_127.cls zy_127 zy_127 ∈ zv_tb ∧ (parseMethodDescriptor zy_127.desc).map (fun d => d.parameters.length + 1) = some 1 ∧ zv_isI 127 = true := ⟨(zv_tbk_2 208 rfl rfl), (zv_tbk_2 209 rfl rfl), (by decide +kernel), rfl⟩
abbrev zy_128 : MethodName := ⟨"BranchedText$Word", "add", "(I)V"⟩
theorem zd_128 : zv_inf 128 = some (zy_128, (prog_9_method_3_code, (2, none))) ∧ zv_vD zy_128 prog_9_method_3_code 2 none := ⟨rfl, (zv_tbk_2 214 rfl rfl), zyi_7, zyc_7, Nat.le_of_ble_eq_true rfl⟩
theorem ze_128 : Cond.instanceMethod zy_128 ∈ zv_tb ∧ Cond.selects zy_128.cls zy_128 zy_128 ∈ zv_tb ∧ (parseMethodDescriptor zy_128.desc).map (fun d => d.parameters.length + 1) = some 2 ∧ zv_isI 128 = true := ⟨(zv_tbk_2 212 rfl rfl), (zv_tbk_2 213 rfl rfl), (by decide +kernel), rfl⟩
abbrev zy_129 : MethodName := ⟨"BranchedText$Word", "at", "(I)I"⟩
theorem zd_129 : zv_inf 129 = some (zy_129, (prog_9_method_4_code, (2, (some .int)))) ∧ zv_vD zy_129 prog_9_method_4_code 2 (some .int) := ⟨rfl, (zv_tbk_3 90 rfl rfl), zyi_7, zyc_7, Nat.le_of_ble_eq_true rfl⟩
theorem ze_129 : Cond.instanceMethod zy_129 ∈ zv_tb ∧ Cond.selects zy_129.cls zy_129 zy_129 ∈ zv_tb ∧ (parseMethodDescriptor zy_129.desc).map (fun d => d.parameters.length + 1) = some 2 ∧ zv_isI 129 = true := ⟨(zv_tbk_3 88 rfl rfl), (zv_tbk_3 89 rfl rfl), (by decide +kernel), rfl⟩
abbrev zy_130 : MethodName := ⟨"BranchedText$Word", "key", "()I"⟩
theorem zd_130 : zv_inf 130 = some (zy_130, (prog_9_method_5_code, (3, (some .int)))) ∧ zv_vD zy_130 prog_9_method_5_code 3 (some .int) := ⟨rfl, (zv_tbk_4 22 rfl rfl), zyi_7, zyc_7, Nat.le_of_ble_eq_true rfl⟩
theorem ze_130 : Cond.instanceMethod zy_130 ∈ zv_tb ∧ Cond.selects zy_130.cls zy_130 zy_130 ∈ zv_tb ∧ (parseMethodDescriptor zy_130.desc).map (fun d => d.parameters.length + 1) = some 1 ∧ zv_isI 130 = true := ⟨(zv_tbk_4 20 rfl rfl), (zv_tbk_4 21 rfl rfl), (by decide +kernel), rfl⟩
abbrev zy_131 : MethodName := ⟨"BranchedText", "<init>", "()V"⟩
theorem zd_131 : zv_inf 131 = some (zy_131, (prog_1_method_1_code, (1, none))) ∧ zv_vD zy_131 prog_1_method_1_code 1 none := ⟨rfl, (zv_tbk_1 23 rfl rfl), zyi_8, zyc_8, Nat.le_of_ble_eq_true rfl⟩
theorem ze_131 : Cond.instanceMethod zy_131 ∈ zv_tb ∧ True ∧ (parseMethodDescriptor zy_131.desc).map (fun d => d.parameters.length + 1) = some 1 ∧ zv_isI 131 = true := ⟨(zv_tbk_1 22 rfl rfl), trivial, (by decide +kernel), rfl⟩
abbrev zy_132 : MethodName := ⟨"BranchedText", "refused", "(I)I"⟩
theorem zd_132 : zv_inf 132 = some (zy_132, (prog_1_method_2_code, (2, (some .int)))) ∧ zv_vD zy_132 prog_1_method_2_code 2 (some .int) := ⟨rfl, (zv_tbk_2 222 rfl rfl), zyi_8, zyc_8, Nat.le_of_ble_eq_true rfl⟩
theorem ze_132 : Cond.instanceMethod zy_132 ∈ zv_tb ∧ Cond.selects zy_132.cls zy_132 zy_132 ∈ zv_tb ∧ (parseMethodDescriptor zy_132.desc).map (fun d => d.parameters.length + 1) = some 2 ∧ zv_isI 132 = true := ⟨(zv_tbk_2 221 rfl rfl), (zv_tb_sel (List.mem_of_getElem? (i := 1) rfl) rfl), (by decide +kernel), rfl⟩
abbrev zy_133 : MethodName := ⟨"BranchedText", "given", "(I)I"⟩
theorem zd_133 : zv_inf 133 = some (zy_133, (prog_1_method_3_code, (2, (some .int)))) ∧ zv_vD zy_133 prog_1_method_3_code 2 (some .int) := ⟨rfl, (zv_tbk_4 199 rfl rfl), zyi_8, zyc_8, Nat.le_of_ble_eq_true rfl⟩
theorem ze_133 : Cond.instanceMethod zy_133 ∈ zv_tb ∧ Cond.selects zy_133.cls zy_133 zy_133 ∈ zv_tb ∧ (parseMethodDescriptor zy_133.desc).map (fun d => d.parameters.length + 1) = some 2 ∧ zv_isI 133 = true := ⟨(zv_tbk_4 198 rfl rfl), (zv_tb_sel (List.mem_of_getElem? (i := 29) rfl) rfl), (by decide +kernel), rfl⟩
abbrev zy_134 : MethodName := ⟨"BranchedText", "answered", "(I)I"⟩
theorem zd_134 : zv_inf 134 = some (zy_134, (prog_1_method_4_code, (2, (some .int)))) ∧ zv_vD zy_134 prog_1_method_4_code 2 (some .int) := ⟨rfl, (zv_tbk_5 70 rfl rfl), zyi_8, zyc_8, Nat.le_of_ble_eq_true rfl⟩
theorem ze_134 : Cond.instanceMethod zy_134 ∈ zv_tb ∧ Cond.selects zy_134.cls zy_134 zy_134 ∈ zv_tb ∧ (parseMethodDescriptor zy_134.desc).map (fun d => d.parameters.length + 1) = some 2 ∧ zv_isI 134 = true := ⟨(zv_tbk_5 69 rfl rfl), (zv_tb_sel (List.mem_of_getElem? (i := 31) rfl) rfl), (by decide +kernel), rfl⟩
abbrev zy_135 : MethodName := ⟨"BranchedText", "within", "(III)Z"⟩
theorem zd_135 : zv_inf 135 = some (zy_135, (prog_1_method_5_code, (3, (some .boolean)))) ∧ zv_vD zy_135 prog_1_method_5_code 3 (some .boolean) := ⟨rfl, (zv_tbk_2 199 rfl rfl), zyi_8, zyc_8, Nat.le_of_ble_eq_true rfl⟩
theorem ze_135 : Cond.static zy_135 ∈ zv_tb ∧ (parseMethodDescriptor zy_135.desc).map (fun d => d.parameters.length) = some 3 := ⟨(zv_tbk_2 198 rfl rfl), (by decide +kernel)⟩
abbrev zy_136 : MethodName := ⟨"BranchedText", "status", "()I"⟩
theorem zd_136 : zv_inf 136 = some (zy_136, (prog_1_method_6_code, (1, (some .int)))) ∧ zv_vD zy_136 prog_1_method_6_code 1 (some .int) := ⟨rfl, (zv_tbk_2 180 rfl rfl), zyi_8, zyc_8, Nat.le_of_ble_eq_true rfl⟩
theorem ze_136 : Cond.instanceMethod zy_136 ∈ zv_tb ∧ Cond.selects zy_136.cls zy_136 zy_136 ∈ zv_tb ∧ (parseMethodDescriptor zy_136.desc).map (fun d => d.parameters.length + 1) = some 1 ∧ zv_isI 136 = true := ⟨(zv_tbk_2 178 rfl rfl), (zv_tbk_2 179 rfl rfl), (by decide +kernel), rfl⟩
abbrev zy_137 : MethodName := ⟨"BranchedText", "feed", "(IIIII)I"⟩
theorem zd_137 : zv_inf 137 = some (zy_137, (prog_1_method_7_code, (6, (some .int)))) ∧ zv_vD zy_137 prog_1_method_7_code 6 (some .int) := ⟨rfl, (zv_tbk_2 184 rfl rfl), zyi_8, zyc_8, Nat.le_of_ble_eq_true rfl⟩
theorem ze_137 : Cond.instanceMethod zy_137 ∈ zv_tb ∧ Cond.selects zy_137.cls zy_137 zy_137 ∈ zv_tb ∧ (parseMethodDescriptor zy_137.desc).map (fun d => d.parameters.length + 1) = some 6 ∧ zv_isI 137 = true := ⟨(zv_tbk_2 182 rfl rfl), (zv_tbk_2 183 rfl rfl), (by decide +kernel), rfl⟩
abbrev zy_138 : MethodName := ⟨"BranchedText", "feedInt", "(I)V"⟩
theorem zd_138 : zv_inf 138 = some (zy_138, (prog_1_method_8_code, (3, none))) ∧ zv_vD zy_138 prog_1_method_8_code 3 none := ⟨rfl, (zv_tbk_2 188 rfl rfl), zyi_8, zyc_8, Nat.le_of_ble_eq_true rfl⟩
theorem ze_138 : Cond.instanceMethod zy_138 ∈ zv_tb ∧ Cond.selects zy_138.cls zy_138 zy_138 ∈ zv_tb ∧ (parseMethodDescriptor zy_138.desc).map (fun d => d.parameters.length + 1) = some 2 ∧ zv_isI 138 = true := ⟨(zv_tbk_2 187 rfl rfl), (zv_tb_sel (List.mem_of_getElem? (i := 0) rfl) rfl), (by decide +kernel), rfl⟩
abbrev zy_139 : MethodName := ⟨"BranchedText", "fault", "(I)I"⟩
theorem zd_139 : zv_inf 139 = some (zy_139, (prog_1_method_9_code, (2, (some .int)))) ∧ zv_vD zy_139 prog_1_method_9_code 2 (some .int) := ⟨rfl, (zv_tbk_2 196 rfl rfl), zyi_8, zyc_8, Nat.le_of_ble_eq_true rfl⟩
theorem ze_139 : Cond.instanceMethod zy_139 ∈ zv_tb ∧ Cond.selects zy_139.cls zy_139 zy_139 ∈ zv_tb ∧ (parseMethodDescriptor zy_139.desc).map (fun d => d.parameters.length + 1) = some 2 ∧ zv_isI 139 = true := ⟨(zv_tbk_2 194 rfl rfl), (zv_tbk_2 195 rfl rfl), (by decide +kernel), rfl⟩
abbrev zy_140 : MethodName := ⟨"BranchedText", "type", "(II)I"⟩
theorem zd_140 : zv_inf 140 = some (zy_140, (prog_1_method_10_code, (5, (some .int)))) ∧ zv_vD zy_140 prog_1_method_10_code 5 (some .int) := ⟨rfl, (zv_tbk_2 203 rfl rfl), zyi_8, zyc_8, Nat.le_of_ble_eq_true rfl⟩
theorem ze_140 : Cond.instanceMethod zy_140 ∈ zv_tb ∧ Cond.selects zy_140.cls zy_140 zy_140 ∈ zv_tb ∧ (parseMethodDescriptor zy_140.desc).map (fun d => d.parameters.length + 1) = some 3 ∧ zv_isI 140 = true := ⟨(zv_tbk_2 201 rfl rfl), (zv_tbk_2 202 rfl rfl), (by decide +kernel), rfl⟩
abbrev zy_141 : MethodName := ⟨"BranchedText", "typedLetter", "(III)I"⟩
theorem zd_141 : zv_inf 141 = some (zy_141, (prog_1_method_11_code, (4, (some .int)))) ∧ zv_vD zy_141 prog_1_method_11_code 4 (some .int) := ⟨rfl, (zv_tbk_2 206 rfl rfl), zyi_8, zyc_8, Nat.le_of_ble_eq_true rfl⟩
theorem ze_141 : Cond.static zy_141 ∈ zv_tb ∧ (parseMethodDescriptor zy_141.desc).map (fun d => d.parameters.length) = some 3 := ⟨(zv_tbk_2 205 rfl rfl), (by decide +kernel)⟩
abbrev zy_142 : MethodName := ⟨"BranchedText", "load", "(I)I"⟩
theorem zd_142 : zv_inf 142 = some (zy_142, (prog_1_method_12_code, (3, (some .int)))) ∧ zv_vD zy_142 prog_1_method_12_code 3 (some .int) := ⟨rfl, (zv_tbk_2 218 rfl rfl), zyi_8, zyc_8, Nat.le_of_ble_eq_true rfl⟩
theorem ze_142 : Cond.instanceMethod zy_142 ∈ zv_tb ∧ Cond.selects zy_142.cls zy_142 zy_142 ∈ zv_tb ∧ (parseMethodDescriptor zy_142.desc).map (fun d => d.parameters.length + 1) = some 2 ∧ zv_isI 142 = true := ⟨(zv_tbk_2 216 rfl rfl), (zv_tbk_2 217 rfl rfl), (by decide +kernel), rfl⟩
abbrev zy_143 : MethodName := ⟨"BranchedText", "done", "(LBranchedText$History;)I"⟩
theorem zd_143 : zv_inf 143 = some (zy_143, (prog_1_method_13_code, (2, (some .int)))) ∧ zv_vD zy_143 prog_1_method_13_code 2 (some .int) := ⟨rfl, (zv_tbk_3 159 rfl rfl), zyi_8, zyc_8, Nat.le_of_ble_eq_true rfl⟩
theorem ze_143 : Cond.instanceMethod zy_143 ∈ zv_tb ∧ Cond.selects zy_143.cls zy_143 zy_143 ∈ zv_tb ∧ (parseMethodDescriptor zy_143.desc).map (fun d => d.parameters.length + 1) = some 2 ∧ zv_isI 143 = true := ⟨(zv_tbk_3 158 rfl rfl), (zv_tb_sel (List.mem_of_getElem? (i := 14) rfl) rfl), (by decide +kernel), rfl⟩
abbrev zy_144 : MethodName := ⟨"BranchedText", "many", "(I)I"⟩
theorem zd_144 : zv_inf 144 = some (zy_144, (prog_1_method_14_code, (2, (some .int)))) ∧ zv_vD zy_144 prog_1_method_14_code 2 (some .int) := ⟨rfl, (zv_tbk_4 204 rfl rfl), zyi_8, zyc_8, Nat.le_of_ble_eq_true rfl⟩
theorem ze_144 : Cond.instanceMethod zy_144 ∈ zv_tb ∧ Cond.selects zy_144.cls zy_144 zy_144 ∈ zv_tb ∧ (parseMethodDescriptor zy_144.desc).map (fun d => d.parameters.length + 1) = some 2 ∧ zv_isI 144 = true := ⟨(zv_tbk_4 202 rfl rfl), (zv_tbk_4 203 rfl rfl), (by decide +kernel), rfl⟩
abbrev zy_145 : MethodName := ⟨"BranchedText", "letter", "(II)I"⟩
theorem zd_145 : zv_inf 145 = some (zy_145, (prog_1_method_15_code, (4, (some .int)))) ∧ zv_vD zy_145 prog_1_method_15_code 4 (some .int) := ⟨rfl, (zv_tbk_4 225 rfl rfl), zyi_8, zyc_8, Nat.le_of_ble_eq_true rfl⟩
theorem ze_145 : Cond.instanceMethod zy_145 ∈ zv_tb ∧ Cond.selects zy_145.cls zy_145 zy_145 ∈ zv_tb ∧ (parseMethodDescriptor zy_145.desc).map (fun d => d.parameters.length + 1) = some 3 ∧ zv_isI 145 = true := ⟨(zv_tbk_4 223 rfl rfl), (zv_tbk_4 224 rfl rfl), (by decide +kernel), rfl⟩
abbrev zy_146 : MethodName := ⟨"BranchedText", "state", "(II)I"⟩
theorem zd_146 : zv_inf 146 = some (zy_146, (prog_1_method_16_code, (4, (some .int)))) ∧ zv_vD zy_146 prog_1_method_16_code 4 (some .int) := ⟨rfl, (zv_tbk_4 234 rfl rfl), zyi_8, zyc_8, Nat.le_of_ble_eq_true rfl⟩
theorem ze_146 : Cond.instanceMethod zy_146 ∈ zv_tb ∧ Cond.selects zy_146.cls zy_146 zy_146 ∈ zv_tb ∧ (parseMethodDescriptor zy_146.desc).map (fun d => d.parameters.length + 1) = some 3 ∧ zv_isI 146 = true := ⟨(zv_tbk_4 232 rfl rfl), (zv_tbk_4 233 rfl rfl), (by decide +kernel), rfl⟩
abbrev zy_147 : MethodName := ⟨"BranchedText", "child", "(II)I"⟩
theorem zd_147 : zv_inf 147 = some (zy_147, (prog_1_method_17_code, (5, (some .int)))) ∧ zv_vD zy_147 prog_1_method_17_code 5 (some .int) := ⟨rfl, (zv_tbk_4 239 rfl rfl), zyi_8, zyc_8, Nat.le_of_ble_eq_true rfl⟩
theorem ze_147 : Cond.instanceMethod zy_147 ∈ zv_tb ∧ Cond.selects zy_147.cls zy_147 zy_147 ∈ zv_tb ∧ (parseMethodDescriptor zy_147.desc).map (fun d => d.parameters.length + 1) = some 3 ∧ zv_isI 147 = true := ⟨(zv_tbk_4 237 rfl rfl), (zv_tbk_4 238 rfl rfl), (by decide +kernel), rfl⟩
abbrev zy_148 : MethodName := ⟨"BranchedText", "force", "(II)I"⟩
theorem zd_148 : zv_inf 148 = some (zy_148, (prog_1_method_18_code, (6, (some .int)))) ∧ zv_vD zy_148 prog_1_method_18_code 6 (some .int) := ⟨rfl, (zv_tbk_5 4 rfl rfl), zyi_8, zyc_8, Nat.le_of_ble_eq_true rfl⟩
theorem ze_148 : Cond.instanceMethod zy_148 ∈ zv_tb ∧ Cond.selects zy_148.cls zy_148 zy_148 ∈ zv_tb ∧ (parseMethodDescriptor zy_148.desc).map (fun d => d.parameters.length + 1) = some 3 ∧ zv_isI 148 = true := ⟨(zv_tbk_5 2 rfl rfl), (zv_tbk_5 3 rfl rfl), (by decide +kernel), rfl⟩
abbrev zy_149 : MethodName := ⟨"BranchedText", "blame", "(II)I"⟩
theorem zd_149 : zv_inf 149 = some (zy_149, (prog_1_method_19_code, (4, (some .int)))) ∧ zv_vD zy_149 prog_1_method_19_code 4 (some .int) := ⟨rfl, (zv_tbk_5 10 rfl rfl), zyi_8, zyc_8, Nat.le_of_ble_eq_true rfl⟩
theorem ze_149 : Cond.instanceMethod zy_149 ∈ zv_tb ∧ Cond.selects zy_149.cls zy_149 zy_149 ∈ zv_tb ∧ (parseMethodDescriptor zy_149.desc).map (fun d => d.parameters.length + 1) = some 3 ∧ zv_isI 149 = true := ⟨(zv_tbk_5 8 rfl rfl), (zv_tbk_5 9 rfl rfl), (by decide +kernel), rfl⟩
abbrev zy_150 : MethodName := ⟨"BranchedText", "row", "(II)I"⟩
theorem zd_150 : zv_inf 150 = some (zy_150, (prog_1_method_20_code, (5, (some .int)))) ∧ zv_vD zy_150 prog_1_method_20_code 5 (some .int) := ⟨rfl, (zv_tbk_5 18 rfl rfl), zyi_8, zyc_8, Nat.le_of_ble_eq_true rfl⟩
theorem ze_150 : Cond.instanceMethod zy_150 ∈ zv_tb ∧ Cond.selects zy_150.cls zy_150 zy_150 ∈ zv_tb ∧ (parseMethodDescriptor zy_150.desc).map (fun d => d.parameters.length + 1) = some 3 ∧ zv_isI 150 = true := ⟨(zv_tbk_5 16 rfl rfl), (zv_tbk_5 17 rfl rfl), (by decide +kernel), rfl⟩
abbrev zy_151 : MethodName := ⟨"BranchedText", "visit", "(II)I"⟩
theorem zd_151 : zv_inf 151 = some (zy_151, (prog_1_method_21_code, (3, (some .int)))) ∧ zv_vD zy_151 prog_1_method_21_code 3 (some .int) := ⟨rfl, (zv_tbk_5 38 rfl rfl), zyi_8, zyc_8, Nat.le_of_ble_eq_true rfl⟩
theorem ze_151 : Cond.instanceMethod zy_151 ∈ zv_tb ∧ Cond.selects zy_151.cls zy_151 zy_151 ∈ zv_tb ∧ (parseMethodDescriptor zy_151.desc).map (fun d => d.parameters.length + 1) = some 3 ∧ zv_isI 151 = true := ⟨(zv_tbk_5 36 rfl rfl), (zv_tbk_5 37 rfl rfl), (by decide +kernel), rfl⟩
abbrev zy_152 : MethodName := ⟨"BranchedText", "named", "()I"⟩
theorem zd_152 : zv_inf 152 = some (zy_152, (prog_1_method_22_code, (3, (some .int)))) ∧ zv_vD zy_152 prog_1_method_22_code 3 (some .int) := ⟨rfl, (zv_tbk_5 54 rfl rfl), zyi_8, zyc_8, Nat.le_of_ble_eq_true rfl⟩
theorem ze_152 : Cond.instanceMethod zy_152 ∈ zv_tb ∧ Cond.selects zy_152.cls zy_152 zy_152 ∈ zv_tb ∧ (parseMethodDescriptor zy_152.desc).map (fun d => d.parameters.length + 1) = some 1 ∧ zv_isI 152 = true := ⟨(zv_tbk_5 52 rfl rfl), (zv_tbk_5 53 rfl rfl), (by decide +kernel), rfl⟩
abbrev zy_153 : MethodName := ⟨"BranchedText", "leans", "(II)I"⟩
theorem zd_153 : zv_inf 153 = some (zy_153, (prog_1_method_23_code, (7, (some .int)))) ∧ zv_vD zy_153 prog_1_method_23_code 7 (some .int) := ⟨rfl, (zv_tbk_5 60 rfl rfl), zyi_8, zyc_8, Nat.le_of_ble_eq_true rfl⟩
theorem ze_153 : Cond.instanceMethod zy_153 ∈ zv_tb ∧ Cond.selects zy_153.cls zy_153 zy_153 ∈ zv_tb ∧ (parseMethodDescriptor zy_153.desc).map (fun d => d.parameters.length + 1) = some 3 ∧ zv_isI 153 = true := ⟨(zv_tbk_5 58 rfl rfl), (zv_tbk_5 59 rfl rfl), (by decide +kernel), rfl⟩
abbrev zy_154 : MethodName := ⟨"BranchedText", "put", "(I)I"⟩
theorem zd_154 : zv_inf 154 = some (zy_154, (prog_1_method_24_code, (2, (some .int)))) ∧ zv_vD zy_154 prog_1_method_24_code 2 (some .int) := ⟨rfl, (zv_tbk_5 66 rfl rfl), zyi_8, zyc_8, Nat.le_of_ble_eq_true rfl⟩
theorem ze_154 : Cond.instanceMethod zy_154 ∈ zv_tb ∧ Cond.selects zy_154.cls zy_154 zy_154 ∈ zv_tb ∧ (parseMethodDescriptor zy_154.desc).map (fun d => d.parameters.length + 1) = some 2 ∧ zv_isI 154 = true := ⟨(zv_tbk_5 64 rfl rfl), (zv_tbk_5 65 rfl rfl), (by decide +kernel), rfl⟩
abbrev zy_155 : MethodName := ⟨"BranchedText", "cut", "(II)I"⟩
theorem zd_155 : zv_inf 155 = some (zy_155, (prog_1_method_25_code, (3, (some .int)))) ∧ zv_vD zy_155 prog_1_method_25_code 3 (some .int) := ⟨rfl, (zv_tbk_5 74 rfl rfl), zyi_8, zyc_8, Nat.le_of_ble_eq_true rfl⟩
theorem ze_155 : Cond.instanceMethod zy_155 ∈ zv_tb ∧ Cond.selects zy_155.cls zy_155 zy_155 ∈ zv_tb ∧ (parseMethodDescriptor zy_155.desc).map (fun d => d.parameters.length + 1) = some 3 ∧ zv_isI 155 = true := ⟨(zv_tbk_5 72 rfl rfl), (zv_tbk_5 73 rfl rfl), (by decide +kernel), rfl⟩
abbrev zy_156 : MethodName := ⟨"BranchedText", "wait", "(I)I"⟩
theorem zd_156 : zv_inf 156 = some (zy_156, (prog_1_method_26_code, (2, (some .int)))) ∧ zv_vD zy_156 prog_1_method_26_code 2 (some .int) := ⟨rfl, (zv_tbk_5 78 rfl rfl), zyi_8, zyc_8, Nat.le_of_ble_eq_true rfl⟩
theorem ze_156 : Cond.instanceMethod zy_156 ∈ zv_tb ∧ Cond.selects zy_156.cls zy_156 zy_156 ∈ zv_tb ∧ (parseMethodDescriptor zy_156.desc).map (fun d => d.parameters.length + 1) = some 2 ∧ zv_isI 156 = true := ⟨(zv_tbk_5 76 rfl rfl), (zv_tbk_5 77 rfl rfl), (by decide +kernel), rfl⟩
abbrev zy_157 : MethodName := ⟨"BranchedText", "undo", "()I"⟩
theorem zd_157 : zv_inf 157 = some (zy_157, (prog_1_method_27_code, (1, (some .int)))) ∧ zv_vD zy_157 prog_1_method_27_code 1 (some .int) := ⟨rfl, (zv_tbk_5 82 rfl rfl), zyi_8, zyc_8, Nat.le_of_ble_eq_true rfl⟩
theorem ze_157 : Cond.instanceMethod zy_157 ∈ zv_tb ∧ Cond.selects zy_157.cls zy_157 zy_157 ∈ zv_tb ∧ (parseMethodDescriptor zy_157.desc).map (fun d => d.parameters.length + 1) = some 1 ∧ zv_isI 157 = true := ⟨(zv_tbk_5 80 rfl rfl), (zv_tbk_5 81 rfl rfl), (by decide +kernel), rfl⟩
abbrev zy_158 : MethodName := ⟨"BranchedText", "redo", "()I"⟩
theorem zd_158 : zv_inf 158 = some (zy_158, (prog_1_method_28_code, (1, (some .int)))) ∧ zv_vD zy_158 prog_1_method_28_code 1 (some .int) := ⟨rfl, (zv_tbk_5 86 rfl rfl), zyi_8, zyc_8, Nat.le_of_ble_eq_true rfl⟩
theorem ze_158 : Cond.instanceMethod zy_158 ∈ zv_tb ∧ Cond.selects zy_158.cls zy_158 zy_158 ∈ zv_tb ∧ (parseMethodDescriptor zy_158.desc).map (fun d => d.parameters.length + 1) = some 1 ∧ zv_isI 158 = true := ⟨(zv_tbk_5 84 rfl rfl), (zv_tbk_5 85 rfl rfl), (by decide +kernel), rfl⟩
abbrev zy_159 : MethodName := ⟨"BranchedText", "go", "(I)I"⟩
theorem zd_159 : zv_inf 159 = some (zy_159, (prog_1_method_29_code, (2, (some .int)))) ∧ zv_vD zy_159 prog_1_method_29_code 2 (some .int) := ⟨rfl, (zv_tbk_5 90 rfl rfl), zyi_8, zyc_8, Nat.le_of_ble_eq_true rfl⟩
theorem ze_159 : Cond.instanceMethod zy_159 ∈ zv_tb ∧ Cond.selects zy_159.cls zy_159 zy_159 ∈ zv_tb ∧ (parseMethodDescriptor zy_159.desc).map (fun d => d.parameters.length + 1) = some 2 ∧ zv_isI 159 = true := ⟨(zv_tbk_5 88 rfl rfl), (zv_tbk_5 89 rfl rfl), (by decide +kernel), rfl⟩
abbrev zy_160 : MethodName := ⟨"BranchedText", "name", "()I"⟩
theorem zd_160 : zv_inf 160 = some (zy_160, (prog_1_method_30_code, (1, (some .int)))) ∧ zv_vD zy_160 prog_1_method_30_code 1 (some .int) := ⟨rfl, (zv_tbk_5 94 rfl rfl), zyi_8, zyc_8, Nat.le_of_ble_eq_true rfl⟩
theorem ze_160 : Cond.instanceMethod zy_160 ∈ zv_tb ∧ Cond.selects zy_160.cls zy_160 zy_160 ∈ zv_tb ∧ (parseMethodDescriptor zy_160.desc).map (fun d => d.parameters.length + 1) = some 1 ∧ zv_isI 160 = true := ⟨(zv_tbk_5 92 rfl rfl), (zv_tbk_5 93 rfl rfl), (by decide +kernel), rfl⟩
abbrev zy_161 : MethodName := ⟨"BranchedText", "unname", "()I"⟩
theorem zd_161 : zv_inf 161 = some (zy_161, (prog_1_method_31_code, (1, (some .int)))) ∧ zv_vD zy_161 prog_1_method_31_code 1 (some .int) := ⟨rfl, (zv_tbk_5 98 rfl rfl), zyi_8, zyc_8, Nat.le_of_ble_eq_true rfl⟩
theorem ze_161 : Cond.instanceMethod zy_161 ∈ zv_tb ∧ Cond.selects zy_161.cls zy_161 zy_161 ∈ zv_tb ∧ (parseMethodDescriptor zy_161.desc).map (fun d => d.parameters.length + 1) = some 1 ∧ zv_isI 161 = true := ⟨(zv_tbk_5 96 rfl rfl), (zv_tbk_5 97 rfl rfl), (by decide +kernel), rfl⟩
abbrev zy_162 : MethodName := ⟨"BranchedText", "withdraw", "(I)I"⟩
theorem zd_162 : zv_inf 162 = some (zy_162, (prog_1_method_32_code, (2, (some .int)))) ∧ zv_vD zy_162 prog_1_method_32_code 2 (some .int) := ⟨rfl, (zv_tbk_5 110 rfl rfl), zyi_8, zyc_8, Nat.le_of_ble_eq_true rfl⟩
theorem ze_162 : Cond.instanceMethod zy_162 ∈ zv_tb ∧ Cond.selects zy_162.cls zy_162 zy_162 ∈ zv_tb ∧ (parseMethodDescriptor zy_162.desc).map (fun d => d.parameters.length + 1) = some 2 ∧ zv_isI 162 = true := ⟨(zv_tbk_5 108 rfl rfl), (zv_tbk_5 109 rfl rfl), (by decide +kernel), rfl⟩
abbrev zy_163 : MethodName := ⟨"BranchedText", "restore", "(I)I"⟩
theorem zd_163 : zv_inf 163 = some (zy_163, (prog_1_method_33_code, (2, (some .int)))) ∧ zv_vD zy_163 prog_1_method_33_code 2 (some .int) := ⟨rfl, (zv_tbk_5 114 rfl rfl), zyi_8, zyc_8, Nat.le_of_ble_eq_true rfl⟩
theorem ze_163 : Cond.instanceMethod zy_163 ∈ zv_tb ∧ Cond.selects zy_163.cls zy_163 zy_163 ∈ zv_tb ∧ (parseMethodDescriptor zy_163.desc).map (fun d => d.parameters.length + 1) = some 2 ∧ zv_isI 163 = true := ⟨(zv_tbk_5 112 rfl rfl), (zv_tbk_5 113 rfl rfl), (by decide +kernel), rfl⟩
abbrev zy_164 : MethodName := ⟨"BranchedText", "carry", "(I)I"⟩
theorem zd_164 : zv_inf 164 = some (zy_164, (prog_1_method_34_code, (2, (some .int)))) ∧ zv_vD zy_164 prog_1_method_34_code 2 (some .int) := ⟨rfl, (zv_tbk_5 118 rfl rfl), zyi_8, zyc_8, Nat.le_of_ble_eq_true rfl⟩
theorem ze_164 : Cond.instanceMethod zy_164 ∈ zv_tb ∧ Cond.selects zy_164.cls zy_164 zy_164 ∈ zv_tb ∧ (parseMethodDescriptor zy_164.desc).map (fun d => d.parameters.length + 1) = some 2 ∧ zv_isI 164 = true := ⟨(zv_tbk_5 116 rfl rfl), (zv_tbk_5 117 rfl rfl), (by decide +kernel), rfl⟩
abbrev zy_165 : MethodName := ⟨"BranchedText", "merge", "(I)I"⟩
theorem zd_165 : zv_inf 165 = some (zy_165, (prog_1_method_35_code, (2, (some .int)))) ∧ zv_vD zy_165 prog_1_method_35_code 2 (some .int) := ⟨rfl, (zv_tbk_5 122 rfl rfl), zyi_8, zyc_8, Nat.le_of_ble_eq_true rfl⟩
theorem ze_165 : Cond.instanceMethod zy_165 ∈ zv_tb ∧ Cond.selects zy_165.cls zy_165 zy_165 ∈ zv_tb ∧ (parseMethodDescriptor zy_165.desc).map (fun d => d.parameters.length + 1) = some 2 ∧ zv_isI 165 = true := ⟨(zv_tbk_5 120 rfl rfl), (zv_tbk_5 121 rfl rfl), (by decide +kernel), rfl⟩
abbrev zy_166 : MethodName := ⟨"BranchedText", "prune", "(I)I"⟩
theorem zd_166 : zv_inf 166 = some (zy_166, (prog_1_method_36_code, (2, (some .int)))) ∧ zv_vD zy_166 prog_1_method_36_code 2 (some .int) := ⟨rfl, (zv_tbk_5 126 rfl rfl), zyi_8, zyc_8, Nat.le_of_ble_eq_true rfl⟩
theorem ze_166 : Cond.instanceMethod zy_166 ∈ zv_tb ∧ Cond.selects zy_166.cls zy_166 zy_166 ∈ zv_tb ∧ (parseMethodDescriptor zy_166.desc).map (fun d => d.parameters.length + 1) = some 2 ∧ zv_isI 166 = true := ⟨(zv_tbk_5 124 rfl rfl), (zv_tbk_5 125 rfl rfl), (by decide +kernel), rfl⟩
abbrev zy_167 : MethodName := ⟨"BranchedText", "common", "(II)I"⟩
theorem zd_167 : zv_inf 167 = some (zy_167, (prog_1_method_37_code, (5, (some .int)))) ∧ zv_vD zy_167 prog_1_method_37_code 5 (some .int) := ⟨rfl, (zv_tbk_5 130 rfl rfl), zyi_8, zyc_8, Nat.le_of_ble_eq_true rfl⟩
theorem ze_167 : Cond.instanceMethod zy_167 ∈ zv_tb ∧ Cond.selects zy_167.cls zy_167 zy_167 ∈ zv_tb ∧ (parseMethodDescriptor zy_167.desc).map (fun d => d.parameters.length + 1) = some 3 ∧ zv_isI 167 = true := ⟨(zv_tbk_5 128 rfl rfl), (zv_tbk_5 129 rfl rfl), (by decide +kernel), rfl⟩
abbrev zy_168 : MethodName := ⟨"BranchedText", "way", "(III)I"⟩
theorem zd_168 : zv_inf 168 = some (zy_168, (prog_1_method_38_code, (7, (some .int)))) ∧ zv_vD zy_168 prog_1_method_38_code 7 (some .int) := ⟨rfl, (zv_tbk_5 135 rfl rfl), zyi_8, zyc_8, Nat.le_of_ble_eq_true rfl⟩
theorem ze_168 : Cond.instanceMethod zy_168 ∈ zv_tb ∧ Cond.selects zy_168.cls zy_168 zy_168 ∈ zv_tb ∧ (parseMethodDescriptor zy_168.desc).map (fun d => d.parameters.length + 1) = some 4 ∧ zv_isI 168 = true := ⟨(zv_tbk_5 133 rfl rfl), (zv_tbk_5 134 rfl rfl), (by decide +kernel), rfl⟩
abbrev zy_169 : MethodName := ⟨"BranchedText", "between", "(III)I"⟩
theorem zd_169 : zv_inf 169 = some (zy_169, (prog_1_method_39_code, (6, (some .int)))) ∧ zv_vD zy_169 prog_1_method_39_code 6 (some .int) := ⟨rfl, (zv_tbk_5 142 rfl rfl), zyi_8, zyc_8, Nat.le_of_ble_eq_true rfl⟩
theorem ze_169 : Cond.instanceMethod zy_169 ∈ zv_tb ∧ Cond.selects zy_169.cls zy_169 zy_169 ∈ zv_tb ∧ (parseMethodDescriptor zy_169.desc).map (fun d => d.parameters.length + 1) = some 4 ∧ zv_isI 169 = true := ⟨(zv_tbk_5 140 rfl rfl), (zv_tbk_5 141 rfl rfl), (by decide +kernel), rfl⟩
abbrev zy_170 : MethodName := ⟨"BranchedText", "least", "(II)I"⟩
theorem zd_170 : zv_inf 170 = some (zy_170, (prog_1_method_40_code, (5, (some .int)))) ∧ zv_vD zy_170 prog_1_method_40_code 5 (some .int) := ⟨rfl, (zv_tbk_5 155 rfl rfl), zyi_8, zyc_8, Nat.le_of_ble_eq_true rfl⟩
theorem ze_170 : Cond.instanceMethod zy_170 ∈ zv_tb ∧ Cond.selects zy_170.cls zy_170 zy_170 ∈ zv_tb ∧ (parseMethodDescriptor zy_170.desc).map (fun d => d.parameters.length + 1) = some 3 ∧ zv_isI 170 = true := ⟨(zv_tbk_5 153 rfl rfl), (zv_tbk_5 154 rfl rfl), (by decide +kernel), rfl⟩
abbrev zy_171 : MethodName := ⟨"BranchedText", "merges", "(II)I"⟩
theorem zd_171 : zv_inf 171 = some (zy_171, (prog_1_method_41_code, (3, (some .int)))) ∧ zv_vD zy_171 prog_1_method_41_code 3 (some .int) := ⟨rfl, (zv_tbk_5 164 rfl rfl), zyi_8, zyc_8, Nat.le_of_ble_eq_true rfl⟩
theorem ze_171 : Cond.instanceMethod zy_171 ∈ zv_tb ∧ Cond.selects zy_171.cls zy_171 zy_171 ∈ zv_tb ∧ (parseMethodDescriptor zy_171.desc).map (fun d => d.parameters.length + 1) = some 3 ∧ zv_isI 171 = true := ⟨(zv_tbk_5 162 rfl rfl), (zv_tbk_5 163 rfl rfl), (by decide +kernel), rfl⟩
abbrev zy_172 : MethodName := ⟨"BranchedText", "tell", "(I)I"⟩
theorem zd_172 : zv_inf 172 = some (zy_172, (prog_1_method_42_code, (2, (some .int)))) ∧ zv_vD zy_172 prog_1_method_42_code 2 (some .int) := ⟨rfl, (zv_tbk_5 184 rfl rfl), zyi_8, zyc_8, Nat.le_of_ble_eq_true rfl⟩
theorem ze_172 : Cond.instanceMethod zy_172 ∈ zv_tb ∧ Cond.selects zy_172.cls zy_172 zy_172 ∈ zv_tb ∧ (parseMethodDescriptor zy_172.desc).map (fun d => d.parameters.length + 1) = some 2 ∧ zv_isI 172 = true := ⟨(zv_tbk_5 182 rfl rfl), (zv_tbk_5 183 rfl rfl), (by decide +kernel), rfl⟩
abbrev zy_173 : MethodName := ⟨"BranchedText", "tellDocument", "()V"⟩
theorem zd_173 : zv_inf 173 = some (zy_173, (prog_1_method_43_code, (3, none))) ∧ zv_vD zy_173 prog_1_method_43_code 3 none := ⟨rfl, (zv_tbk_5 188 rfl rfl), zyi_8, zyc_8, Nat.le_of_ble_eq_true rfl⟩
theorem ze_173 : Cond.instanceMethod zy_173 ∈ zv_tb ∧ Cond.selects zy_173.cls zy_173 zy_173 ∈ zv_tb ∧ (parseMethodDescriptor zy_173.desc).map (fun d => d.parameters.length + 1) = some 1 ∧ zv_isI 173 = true := ⟨(zv_tbk_5 187 rfl rfl), (zv_tb_sel (List.mem_of_getElem? (i := 32) rfl) rfl), (by decide +kernel), rfl⟩
abbrev zy_174 : MethodName := ⟨"BranchedText", "tellLine", "()V"⟩
theorem zd_174 : zv_inf 174 = some (zy_174, (prog_1_method_44_code, (3, none))) ∧ zv_vD zy_174 prog_1_method_44_code 3 none := ⟨rfl, (zv_tbk_5 196 rfl rfl), zyi_8, zyc_8, Nat.le_of_ble_eq_true rfl⟩
theorem ze_174 : Cond.instanceMethod zy_174 ∈ zv_tb ∧ Cond.selects zy_174.cls zy_174 zy_174 ∈ zv_tb ∧ (parseMethodDescriptor zy_174.desc).map (fun d => d.parameters.length + 1) = some 1 ∧ zv_isI 174 = true := ⟨(zv_tbk_5 195 rfl rfl), (zv_tb_sel (List.mem_of_getElem? (i := 34) rfl) rfl), (by decide +kernel), rfl⟩
abbrev zy_175 : MethodName := ⟨"BranchedText", "tellNames", "()V"⟩
theorem zd_175 : zv_inf 175 = some (zy_175, (prog_1_method_45_code, (4, none))) ∧ zv_vD zy_175 prog_1_method_45_code 4 none := ⟨rfl, (zv_tbk_5 208 rfl rfl), zyi_8, zyc_8, Nat.le_of_ble_eq_true rfl⟩
theorem ze_175 : Cond.instanceMethod zy_175 ∈ zv_tb ∧ Cond.selects zy_175.cls zy_175 zy_175 ∈ zv_tb ∧ (parseMethodDescriptor zy_175.desc).map (fun d => d.parameters.length + 1) = some 1 ∧ zv_isI 175 = true := ⟨(zv_tbk_5 207 rfl rfl), (zv_tb_sel (List.mem_of_getElem? (i := 36) rfl) rfl), (by decide +kernel), rfl⟩
abbrev zy_176 : MethodName := ⟨"BranchedText", "tellNumber", "(I)V"⟩
theorem zd_176 : zv_inf 176 = some (zy_176, (prog_1_method_46_code, (2, none))) ∧ zv_vD zy_176 prog_1_method_46_code 2 none := ⟨rfl, (zv_tbk_5 204 rfl rfl), zyi_8, zyc_8, Nat.le_of_ble_eq_true rfl⟩
theorem ze_176 : Cond.instanceMethod zy_176 ∈ zv_tb ∧ Cond.selects zy_176.cls zy_176 zy_176 ∈ zv_tb ∧ (parseMethodDescriptor zy_176.desc).map (fun d => d.parameters.length + 1) = some 2 ∧ zv_isI 176 = true := ⟨(zv_tbk_5 203 rfl rfl), (zv_tb_sel (List.mem_of_getElem? (i := 35) rfl) rfl), (by decide +kernel), rfl⟩
abbrev zy_177 : MethodName := ⟨"BranchedText", "tellByte", "(I)V"⟩
theorem zd_177 : zv_inf 177 = some (zy_177, (prog_1_method_47_code, (2, none))) ∧ zv_vD zy_177 prog_1_method_47_code 2 none := ⟨rfl, (zv_tbk_5 192 rfl rfl), zyi_8, zyc_8, Nat.le_of_ble_eq_true rfl⟩
theorem ze_177 : Cond.instanceMethod zy_177 ∈ zv_tb ∧ Cond.selects zy_177.cls zy_177 zy_177 ∈ zv_tb ∧ (parseMethodDescriptor zy_177.desc).map (fun d => d.parameters.length + 1) = some 2 ∧ zv_isI 177 = true := ⟨(zv_tbk_5 191 rfl rfl), (zv_tb_sel (List.mem_of_getElem? (i := 33) rfl) rfl), (by decide +kernel), rfl⟩
abbrev zy_178 : MethodName := ⟨"BranchedText", "out", "(I)I"⟩
theorem zd_178 : zv_inf 178 = some (zy_178, (prog_1_method_48_code, (2, (some .int)))) ∧ zv_vD zy_178 prog_1_method_48_code 2 (some .int) := ⟨rfl, (zv_tbk_5 216 rfl rfl), zyi_8, zyc_8, Nat.le_of_ble_eq_true rfl⟩
theorem ze_178 : Cond.instanceMethod zy_178 ∈ zv_tb ∧ Cond.selects zy_178.cls zy_178 zy_178 ∈ zv_tb ∧ (parseMethodDescriptor zy_178.desc).map (fun d => d.parameters.length + 1) = some 2 ∧ zv_isI 178 = true := ⟨(zv_tbk_5 214 rfl rfl), (zv_tbk_5 215 rfl rfl), (by decide +kernel), rfl⟩
abbrev zy_179 : MethodName := ⟨"BranchedText", "leaning", "(II)I"⟩
theorem zd_179 : zv_inf 179 = some (zy_179, (prog_1_method_49_code, (7, (some .int)))) ∧ zv_vD zy_179 prog_1_method_49_code 7 (some .int) := ⟨rfl, (zv_tbk_5 220 rfl rfl), zyi_8, zyc_8, Nat.le_of_ble_eq_true rfl⟩
theorem ze_179 : Cond.instanceMethod zy_179 ∈ zv_tb ∧ Cond.selects zy_179.cls zy_179 zy_179 ∈ zv_tb ∧ (parseMethodDescriptor zy_179.desc).map (fun d => d.parameters.length + 1) = some 3 ∧ zv_isI 179 = true := ⟨(zv_tbk_5 218 rfl rfl), (zv_tbk_5 219 rfl rfl), (by decide +kernel), rfl⟩
abbrev zy_180 : MethodName := ⟨"BranchedText", "find", "(I)I"⟩
theorem zd_180 : zv_inf 180 = some (zy_180, (prog_1_method_50_code, (3, (some .int)))) ∧ zv_vD zy_180 prog_1_method_50_code 3 (some .int) := ⟨rfl, (zv_tbk_5 231 rfl rfl), zyi_8, zyc_8, Nat.le_of_ble_eq_true rfl⟩
theorem ze_180 : Cond.instanceMethod zy_180 ∈ zv_tb ∧ Cond.selects zy_180.cls zy_180 zy_180 ∈ zv_tb ∧ (parseMethodDescriptor zy_180.desc).map (fun d => d.parameters.length + 1) = some 2 ∧ zv_isI 180 = true := ⟨(zv_tbk_5 229 rfl rfl), (zv_tbk_5 230 rfl rfl), (by decide +kernel), rfl⟩
abbrev zy_181 : MethodName := ⟨"BranchedText", "first", "()I"⟩
theorem zd_181 : zv_inf 181 = some (zy_181, (prog_1_method_51_code, (2, (some .int)))) ∧ zv_vD zy_181 prog_1_method_51_code 2 (some .int) := ⟨rfl, (zv_tbk_6 8 rfl rfl), zyi_8, zyc_8, Nat.le_of_ble_eq_true rfl⟩
theorem ze_181 : Cond.instanceMethod zy_181 ∈ zv_tb ∧ Cond.selects zy_181.cls zy_181 zy_181 ∈ zv_tb ∧ (parseMethodDescriptor zy_181.desc).map (fun d => d.parameters.length + 1) = some 1 ∧ zv_isI 181 = true := ⟨(zv_tbk_6 6 rfl rfl), (zv_tbk_6 7 rfl rfl), (by decide +kernel), rfl⟩
abbrev zy_182 : MethodName := ⟨"BranchedText", "twin", "(I)I"⟩
theorem zd_182 : zv_inf 182 = some (zy_182, (prog_1_method_52_code, (4, (some .int)))) ∧ zv_vD zy_182 prog_1_method_52_code 4 (some .int) := ⟨rfl, (zv_tbk_6 13 rfl rfl), zyi_8, zyc_8, Nat.le_of_ble_eq_true rfl⟩
theorem ze_182 : Cond.instanceMethod zy_182 ∈ zv_tb ∧ Cond.selects zy_182.cls zy_182 zy_182 ∈ zv_tb ∧ (parseMethodDescriptor zy_182.desc).map (fun d => d.parameters.length + 1) = some 2 ∧ zv_isI 182 = true := ⟨(zv_tbk_6 11 rfl rfl), (zv_tbk_6 12 rfl rfl), (by decide +kernel), rfl⟩
abbrev zy_183 : MethodName := ⟨"BranchedText", "back", "(I)I"⟩
theorem zd_183 : zv_inf 183 = some (zy_183, (prog_1_method_53_code, (3, (some .int)))) ∧ zv_vD zy_183 prog_1_method_53_code 3 (some .int) := ⟨rfl, (zv_tbk_6 22 rfl rfl), zyi_8, zyc_8, Nat.le_of_ble_eq_true rfl⟩
theorem ze_183 : Cond.instanceMethod zy_183 ∈ zv_tb ∧ Cond.selects zy_183.cls zy_183 zy_183 ∈ zv_tb ∧ (parseMethodDescriptor zy_183.desc).map (fun d => d.parameters.length + 1) = some 2 ∧ zv_isI 183 = true := ⟨(zv_tbk_6 20 rfl rfl), (zv_tbk_6 21 rfl rfl), (by decide +kernel), rfl⟩
abbrev zy_184 : MethodName := ⟨"BranchedTextModel", "<init>", "()V"⟩
theorem zd_184 : zv_inf 184 = some (zy_184, (prog_11_method_1_code, (1, none))) ∧ zv_vD zy_184 prog_11_method_1_code 1 none := ⟨rfl, (zv_tbk_6 28 rfl rfl), zyi_9, zyc_9, Nat.le_of_ble_eq_true rfl⟩
theorem ze_184 : Cond.instanceMethod zy_184 ∈ zv_tb ∧ True ∧ (parseMethodDescriptor zy_184.desc).map (fun d => d.parameters.length + 1) = some 1 ∧ zv_isI 184 = true := ⟨(zv_tbk_6 27 rfl rfl), trivial, (by decide +kernel), rfl⟩
abbrev zy_185 : MethodName := ⟨"BranchedTextModel", "status", "()I"⟩
theorem zd_185 : zv_inf 185 = some (zy_185, (prog_11_method_3_code, (1, (some .int)))) ∧ zv_vD zy_185 prog_11_method_3_code 1 (some .int) := ⟨rfl, (zv_tbk_6 210 rfl rfl), zyi_9, zyc_9, Nat.le_of_ble_eq_true rfl⟩
theorem ze_185 : Cond.instanceMethod zy_185 ∈ zv_tb ∧ Cond.selects zy_185.cls zy_185 zy_185 ∈ zv_tb ∧ (parseMethodDescriptor zy_185.desc).map (fun d => d.parameters.length + 1) = some 1 ∧ zv_isI 185 = true := ⟨(zv_tbk_6 208 rfl rfl), (zv_tbk_6 209 rfl rfl), (by decide +kernel), rfl⟩
abbrev zy_186 : MethodName := ⟨"BranchedTextModel", "refuse", "(I)I"⟩
theorem zd_186 : zv_inf 186 = some (zy_186, (prog_11_method_4_code, (2, (some .int)))) ∧ zv_vD zy_186 prog_11_method_4_code 2 (some .int) := ⟨rfl, (zv_tbk_7 155 rfl rfl), zyi_9, zyc_9, Nat.le_of_ble_eq_true rfl⟩
theorem ze_186 : Cond.instanceMethod zy_186 ∈ zv_tb ∧ Cond.selects zy_186.cls zy_186 zy_186 ∈ zv_tb ∧ (parseMethodDescriptor zy_186.desc).map (fun d => d.parameters.length + 1) = some 2 ∧ zv_isI 186 = true := ⟨(zv_tbk_7 154 rfl rfl), (zv_tb_sel (List.mem_of_getElem? (i := 66) rfl) rfl), (by decide +kernel), rfl⟩
abbrev zy_187 : MethodName := ⟨"BranchedTextModel", "is", "(I)Z"⟩
theorem zd_187 : zv_inf 187 = some (zy_187, (prog_11_method_5_code, (2, (some .boolean)))) ∧ zv_vD zy_187 prog_11_method_5_code 2 (some .boolean) := ⟨rfl, (zv_tbk_6 233 rfl rfl), zyi_9, zyc_9, Nat.le_of_ble_eq_true rfl⟩
theorem ze_187 : Cond.instanceMethod zy_187 ∈ zv_tb ∧ Cond.selects zy_187.cls zy_187 zy_187 ∈ zv_tb ∧ (parseMethodDescriptor zy_187.desc).map (fun d => d.parameters.length + 1) = some 2 ∧ zv_isI 187 = true := ⟨(zv_tbk_6 232 rfl rfl), (zv_tb_sel (List.mem_of_getElem? (i := 40) rfl) rfl), (by decide +kernel), rfl⟩
abbrev zy_188 : MethodName := ⟨"BranchedTextModel", "isIn", "(III)Z"⟩
theorem zd_188 : zv_inf 188 = some (zy_188, (prog_11_method_6_code, (3, (some .boolean)))) ∧ zv_vD zy_188 prog_11_method_6_code 3 (some .boolean) := ⟨rfl, (zv_tbk_6 229 rfl rfl), zyi_9, zyc_9, Nat.le_of_ble_eq_true rfl⟩
theorem ze_188 : Cond.static zy_188 ∈ zv_tb ∧ (parseMethodDescriptor zy_188.desc).map (fun d => d.parameters.length) = some 3 := ⟨(zv_tbk_6 228 rfl rfl), (by decide +kernel)⟩
abbrev zy_189 : MethodName := ⟨"BranchedTextModel", "clears", "()V"⟩
theorem zd_189 : zv_inf 189 = some (zy_189, (prog_11_method_7_code, (2, none))) ∧ zv_vD zy_189 prog_11_method_7_code 2 none := ⟨rfl, (zv_tbk_6 56 rfl rfl), zyi_9, zyc_9, Nat.le_of_ble_eq_true rfl⟩
theorem ze_189 : Cond.instanceMethod zy_189 ∈ zv_tb ∧ Cond.selects zy_189.cls zy_189 zy_189 ∈ zv_tb ∧ (parseMethodDescriptor zy_189.desc).map (fun d => d.parameters.length + 1) = some 1 ∧ zv_isI 189 = true := ⟨(zv_tbk_6 55 rfl rfl), (zv_tb_sel (List.mem_of_getElem? (i := 37) rfl) rfl), (by decide +kernel), rfl⟩
abbrev zy_190 : MethodName := ⟨"BranchedTextModel", "of", "(II)I"⟩
theorem zd_190 : zv_inf 190 = some (zy_190, (prog_11_method_8_code, (3, (some .int)))) ∧ zv_vD zy_190 prog_11_method_8_code 3 (some .int) := ⟨rfl, (zv_tbk_7 131 rfl rfl), zyi_9, zyc_9, Nat.le_of_ble_eq_true rfl⟩
theorem ze_190 : Cond.instanceMethod zy_190 ∈ zv_tb ∧ Cond.selects zy_190.cls zy_190 zy_190 ∈ zv_tb ∧ (parseMethodDescriptor zy_190.desc).map (fun d => d.parameters.length + 1) = some 3 ∧ zv_isI 190 = true := ⟨(zv_tbk_7 130 rfl rfl), (zv_tb_sel (List.mem_of_getElem? (i := 60) rfl) rfl), (by decide +kernel), rfl⟩
abbrev zy_191 : MethodName := ⟨"BranchedTextModel", "sets", "(III)V"⟩
theorem zd_191 : zv_inf 191 = some (zy_191, (prog_11_method_9_code, (4, none))) ∧ zv_vD zy_191 prog_11_method_9_code 4 none := ⟨rfl, (zv_tbk_6 60 rfl rfl), zyi_9, zyc_9, Nat.le_of_ble_eq_true rfl⟩
theorem ze_191 : Cond.instanceMethod zy_191 ∈ zv_tb ∧ Cond.selects zy_191.cls zy_191 zy_191 ∈ zv_tb ∧ (parseMethodDescriptor zy_191.desc).map (fun d => d.parameters.length + 1) = some 4 ∧ zv_isI 191 = true := ⟨(zv_tbk_6 59 rfl rfl), (zv_tb_sel (List.mem_of_getElem? (i := 38) rfl) rfl), (by decide +kernel), rfl⟩
abbrev zy_192 : MethodName := ⟨"BranchedTextModel", "isState", "(I)Z"⟩
theorem zd_192 : zv_inf 192 = some (zy_192, (prog_11_method_10_code, (2, (some .boolean)))) ∧ zv_vD zy_192 prog_11_method_10_code 2 (some .boolean) := ⟨rfl, (zv_tbk_7 210 rfl rfl), zyi_9, zyc_9, Nat.le_of_ble_eq_true rfl⟩
theorem ze_192 : Cond.instanceMethod zy_192 ∈ zv_tb ∧ Cond.selects zy_192.cls zy_192 zy_192 ∈ zv_tb ∧ (parseMethodDescriptor zy_192.desc).map (fun d => d.parameters.length + 1) = some 2 ∧ zv_isI 192 = true := ⟨(zv_tbk_7 209 rfl rfl), (zv_tb_sel (List.mem_of_getElem? (i := 79) rfl) rfl), (by decide +kernel), rfl⟩
abbrev zy_193 : MethodName := ⟨"BranchedTextModel", "isEdit", "(I)Z"⟩
theorem zd_193 : zv_inf 193 = some (zy_193, (prog_11_method_11_code, (2, (some .boolean)))) ∧ zv_vD zy_193 prog_11_method_11_code 2 (some .boolean) := ⟨rfl, (zv_tbk_7 135 rfl rfl), zyi_9, zyc_9, Nat.le_of_ble_eq_true rfl⟩
theorem ze_193 : Cond.instanceMethod zy_193 ∈ zv_tb ∧ Cond.selects zy_193.cls zy_193 zy_193 ∈ zv_tb ∧ (parseMethodDescriptor zy_193.desc).map (fun d => d.parameters.length + 1) = some 2 ∧ zv_isI 193 = true := ⟨(zv_tbk_7 134 rfl rfl), (zv_tb_sel (List.mem_of_getElem? (i := 61) rfl) rfl), (by decide +kernel), rfl⟩
abbrev zy_194 : MethodName := ⟨"BranchedTextModel", "here", "()I"⟩
theorem zd_194 : zv_inf 194 = some (zy_194, (prog_11_method_12_code, (1, (some .int)))) ∧ zv_vD zy_194 prog_11_method_12_code 1 (some .int) := ⟨rfl, (zv_tbk_7 115 rfl rfl), zyi_9, zyc_9, Nat.le_of_ble_eq_true rfl⟩
theorem ze_194 : Cond.instanceMethod zy_194 ∈ zv_tb ∧ Cond.selects zy_194.cls zy_194 zy_194 ∈ zv_tb ∧ (parseMethodDescriptor zy_194.desc).map (fun d => d.parameters.length + 1) = some 1 ∧ zv_isI 194 = true := ⟨(zv_tbk_7 114 rfl rfl), (zv_tb_sel (List.mem_of_getElem? (i := 56) rfl) rfl), (by decide +kernel), rfl⟩
abbrev zy_195 : MethodName := ⟨"BranchedTextModel", "states", "()I"⟩
theorem zd_195 : zv_inf 195 = some (zy_195, (prog_11_method_13_code, (3, (some .int)))) ∧ zv_vD zy_195 prog_11_method_13_code 3 (some .int) := ⟨rfl, (zv_tbk_7 159 rfl rfl), zyi_9, zyc_9, Nat.le_of_ble_eq_true rfl⟩
theorem ze_195 : Cond.instanceMethod zy_195 ∈ zv_tb ∧ Cond.selects zy_195.cls zy_195 zy_195 ∈ zv_tb ∧ (parseMethodDescriptor zy_195.desc).map (fun d => d.parameters.length + 1) = some 1 ∧ zv_isI 195 = true := ⟨(zv_tbk_7 158 rfl rfl), (zv_tb_sel (List.mem_of_getElem? (i := 67) rfl) rfl), (by decide +kernel), rfl⟩
abbrev zy_196 : MethodName := ⟨"BranchedTextModel", "names", "(II)Z"⟩
theorem zd_196 : zv_inf 196 = some (zy_196, (prog_11_method_14_code, (3, (some .boolean)))) ∧ zv_vD zy_196 prog_11_method_14_code 3 (some .boolean) := ⟨rfl, (zv_tbk_7 151 rfl rfl), zyi_9, zyc_9, Nat.le_of_ble_eq_true rfl⟩
theorem ze_196 : Cond.instanceMethod zy_196 ∈ zv_tb ∧ Cond.selects zy_196.cls zy_196 zy_196 ∈ zv_tb ∧ (parseMethodDescriptor zy_196.desc).map (fun d => d.parameters.length + 1) = some 3 ∧ zv_isI 196 = true := ⟨(zv_tbk_7 150 rfl rfl), (zv_tb_sel (List.mem_of_getElem? (i := 65) rfl) rfl), (by decide +kernel), rfl⟩
abbrev zy_197 : MethodName := ⟨"BranchedTextModel", "namesToo", "(II)V"⟩
theorem zd_197 : zv_inf 197 = some (zy_197, (prog_11_method_15_code, (3, none))) ∧ zv_vD zy_197 prog_11_method_15_code 3 none := ⟨rfl, (zv_tbk_8 21 rfl rfl), zyi_9, zyc_9, Nat.le_of_ble_eq_true rfl⟩
theorem ze_197 : Cond.instanceMethod zy_197 ∈ zv_tb ∧ Cond.selects zy_197.cls zy_197 zy_197 ∈ zv_tb ∧ (parseMethodDescriptor zy_197.desc).map (fun d => d.parameters.length + 1) = some 3 ∧ zv_isI 197 = true := ⟨(zv_tbk_8 20 rfl rfl), (zv_tb_sel (List.mem_of_getElem? (i := 91) rfl) rfl), (by decide +kernel), rfl⟩
abbrev zy_198 : MethodName := ⟨"BranchedTextModel", "isOfLine", "(II)Z"⟩
theorem zd_198 : zv_inf 198 = some (zy_198, (prog_11_method_16_code, (4, (some .boolean)))) ∧ zv_vD zy_198 prog_11_method_16_code 4 (some .boolean) := ⟨rfl, (zv_tbk_7 218 rfl rfl), zyi_9, zyc_9, Nat.le_of_ble_eq_true rfl⟩
theorem ze_198 : Cond.instanceMethod zy_198 ∈ zv_tb ∧ Cond.selects zy_198.cls zy_198 zy_198 ∈ zv_tb ∧ (parseMethodDescriptor zy_198.desc).map (fun d => d.parameters.length + 1) = some 3 ∧ zv_isI 198 = true := ⟨(zv_tbk_7 217 rfl rfl), (zv_tb_sel (List.mem_of_getElem? (i := 81) rfl) rfl), (by decide +kernel), rfl⟩
abbrev zy_199 : MethodName := ⟨"BranchedTextModel", "depthOf", "(I)I"⟩
theorem zd_199 : zv_inf 199 = some (zy_199, (prog_11_method_17_code, (4, (some .int)))) ∧ zv_vD zy_199 prog_11_method_17_code 4 (some .int) := ⟨rfl, (zv_tbk_7 127 rfl rfl), zyi_9, zyc_9, Nat.le_of_ble_eq_true rfl⟩
theorem ze_199 : Cond.instanceMethod zy_199 ∈ zv_tb ∧ Cond.selects zy_199.cls zy_199 zy_199 ∈ zv_tb ∧ (parseMethodDescriptor zy_199.desc).map (fun d => d.parameters.length + 1) = some 2 ∧ zv_isI 199 = true := ⟨(zv_tbk_7 126 rfl rfl), (zv_tb_sel (List.mem_of_getElem? (i := 59) rfl) rfl), (by decide +kernel), rfl⟩
abbrev zy_200 : MethodName := ⟨"BranchedTextModel", "rowOf", "(II)I"⟩
theorem zd_200 : zv_inf 200 = some (zy_200, (prog_11_method_18_code, (4, (some .int)))) ∧ zv_vD zy_200 prog_11_method_18_code 4 (some .int) := ⟨rfl, (zv_tbk_7 143 rfl rfl), zyi_9, zyc_9, Nat.le_of_ble_eq_true rfl⟩
theorem ze_200 : Cond.instanceMethod zy_200 ∈ zv_tb ∧ Cond.selects zy_200.cls zy_200 zy_200 ∈ zv_tb ∧ (parseMethodDescriptor zy_200.desc).map (fun d => d.parameters.length + 1) = some 3 ∧ zv_isI 200 = true := ⟨(zv_tbk_7 142 rfl rfl), (zv_tb_sel (List.mem_of_getElem? (i := 63) rfl) rfl), (by decide +kernel), rfl⟩
abbrev zy_201 : MethodName := ⟨"BranchedTextModel", "letsIn", "(I)V"⟩
theorem zd_201 : zv_inf 201 = some (zy_201, (prog_11_method_19_code, (5, none))) ∧ zv_vD zy_201 prog_11_method_19_code 5 none := ⟨rfl, (zv_tbk_7 139 rfl rfl), zyi_9, zyc_9, Nat.le_of_ble_eq_true rfl⟩
theorem ze_201 : Cond.instanceMethod zy_201 ∈ zv_tb ∧ Cond.selects zy_201.cls zy_201 zy_201 ∈ zv_tb ∧ (parseMethodDescriptor zy_201.desc).map (fun d => d.parameters.length + 1) = some 2 ∧ zv_isI 201 = true := ⟨(zv_tbk_7 138 rfl rfl), (zv_tb_sel (List.mem_of_getElem? (i := 62) rfl) rfl), (by decide +kernel), rfl⟩
abbrev zy_202 : MethodName := ⟨"BranchedTextModel", "turns", "(I)V"⟩
theorem zd_202 : zv_inf 202 = some (zy_202, (prog_11_method_20_code, (3, none))) ∧ zv_vD zy_202 prog_11_method_20_code 3 none := ⟨rfl, (zv_tbk_7 147 rfl rfl), zyi_9, zyc_9, Nat.le_of_ble_eq_true rfl⟩
theorem ze_202 : Cond.instanceMethod zy_202 ∈ zv_tb ∧ Cond.selects zy_202.cls zy_202 zy_202 ∈ zv_tb ∧ (parseMethodDescriptor zy_202.desc).map (fun d => d.parameters.length + 1) = some 2 ∧ zv_isI 202 = true := ⟨(zv_tbk_7 146 rfl rfl), (zv_tb_sel (List.mem_of_getElem? (i := 64) rfl) rfl), (by decide +kernel), rfl⟩
abbrev zy_203 : MethodName := ⟨"BranchedTextModel", "sees", "(I)V"⟩
theorem zd_203 : zv_inf 203 = some (zy_203, (prog_11_method_21_code, (6, none))) ∧ zv_vD zy_203 prog_11_method_21_code 6 none := ⟨rfl, (zv_tbk_7 123 rfl rfl), zyi_9, zyc_9, Nat.le_of_ble_eq_true rfl⟩
theorem ze_203 : Cond.instanceMethod zy_203 ∈ zv_tb ∧ Cond.selects zy_203.cls zy_203 zy_203 ∈ zv_tb ∧ (parseMethodDescriptor zy_203.desc).map (fun d => d.parameters.length + 1) = some 2 ∧ zv_isI 203 = true := ⟨(zv_tbk_7 122 rfl rfl), (zv_tb_sel (List.mem_of_getElem? (i := 58) rfl) rfl), (by decide +kernel), rfl⟩
abbrev zy_204 : MethodName := ⟨"BranchedTextModel", "rowPlace", "(I)I"⟩
theorem zd_204 : zv_inf 204 = some (zy_204, (prog_11_method_22_code, (4, (some .int)))) ∧ zv_vD zy_204 prog_11_method_22_code 4 (some .int) := ⟨rfl, (zv_tbk_7 167 rfl rfl), zyi_9, zyc_9, Nat.le_of_ble_eq_true rfl⟩
theorem ze_204 : Cond.instanceMethod zy_204 ∈ zv_tb ∧ Cond.selects zy_204.cls zy_204 zy_204 ∈ zv_tb ∧ (parseMethodDescriptor zy_204.desc).map (fun d => d.parameters.length + 1) = some 2 ∧ zv_isI 204 = true := ⟨(zv_tbk_7 166 rfl rfl), (zv_tb_sel (List.mem_of_getElem? (i := 69) rfl) rfl), (by decide +kernel), rfl⟩
abbrev zy_205 : MethodName := ⟨"BranchedTextModel", "letterIn", "(I)I"⟩
theorem zd_205 : zv_inf 205 = some (zy_205, (prog_11_method_23_code, (2, (some .int)))) ∧ zv_vD zy_205 prog_11_method_23_code 2 (some .int) := ⟨rfl, (zv_tbk_8 89 rfl rfl), zyi_9, zyc_9, Nat.le_of_ble_eq_true rfl⟩
theorem ze_205 : Cond.instanceMethod zy_205 ∈ zv_tb ∧ Cond.selects zy_205.cls zy_205 zy_205 ∈ zv_tb ∧ (parseMethodDescriptor zy_205.desc).map (fun d => d.parameters.length + 1) = some 2 ∧ zv_isI 205 = true := ⟨(zv_tbk_8 88 rfl rfl), (zv_tb_sel (List.mem_of_getElem? (i := 105) rfl) rfl), (by decide +kernel), rfl⟩
abbrev zy_206 : MethodName := ⟨"BranchedTextModel", "lettersOf", "(I)I"⟩
theorem zd_206 : zv_inf 206 = some (zy_206, (prog_11_method_24_code, (2, (some .int)))) ∧ zv_vD zy_206 prog_11_method_24_code 2 (some .int) := ⟨rfl, (zv_tbk_7 119 rfl rfl), zyi_9, zyc_9, Nat.le_of_ble_eq_true rfl⟩
theorem ze_206 : Cond.instanceMethod zy_206 ∈ zv_tb ∧ Cond.selects zy_206.cls zy_206 zy_206 ∈ zv_tb ∧ (parseMethodDescriptor zy_206.desc).map (fun d => d.parameters.length + 1) = some 2 ∧ zv_isI 206 = true := ⟨(zv_tbk_7 118 rfl rfl), (zv_tb_sel (List.mem_of_getElem? (i := 57) rfl) rfl), (by decide +kernel), rfl⟩
abbrev zy_207 : MethodName := ⟨"BranchedTextModel", "copies", "(I[I)I"⟩
theorem zd_207 : zv_inf 207 = some (zy_207, (prog_11_method_25_code, (5, (some .int)))) ∧ zv_vD zy_207 prog_11_method_25_code 5 (some .int) := ⟨rfl, (zv_tbk_8 201 rfl rfl), zyi_9, zyc_9, Nat.le_of_ble_eq_true rfl⟩
theorem ze_207 : Cond.instanceMethod zy_207 ∈ zv_tb ∧ Cond.selects zy_207.cls zy_207 zy_207 ∈ zv_tb ∧ (parseMethodDescriptor zy_207.desc).map (fun d => d.parameters.length + 1) = some 3 ∧ zv_isI 207 = true := ⟨(zv_tbk_8 200 rfl rfl), (zv_tb_sel (List.mem_of_getElem? (i := 109) rfl) rfl), (by decide +kernel), rfl⟩
abbrev zy_208 : MethodName := ⟨"BranchedTextModel", "visits", "(I)V"⟩
theorem zd_208 : zv_inf 208 = some (zy_208, (prog_11_method_26_code, (3, none))) ∧ zv_vD zy_208 prog_11_method_26_code 3 none := ⟨rfl, (zv_tbk_7 190 rfl rfl), zyi_9, zyc_9, Nat.le_of_ble_eq_true rfl⟩
theorem ze_208 : Cond.instanceMethod zy_208 ∈ zv_tb ∧ Cond.selects zy_208.cls zy_208 zy_208 ∈ zv_tb ∧ (parseMethodDescriptor zy_208.desc).map (fun d => d.parameters.length + 1) = some 2 ∧ zv_isI 208 = true := ⟨(zv_tbk_7 189 rfl rfl), (zv_tb_sel (List.mem_of_getElem? (i := 74) rfl) rfl), (by decide +kernel), rfl⟩
abbrev zy_209 : MethodName := ⟨"BranchedTextModel", "latestIn", "(I)I"⟩
theorem zd_209 : zv_inf 209 = some (zy_209, (prog_11_method_27_code, (4, (some .int)))) ∧ zv_vD zy_209 prog_11_method_27_code 4 (some .int) := ⟨rfl, (zv_tbk_7 214 rfl rfl), zyi_9, zyc_9, Nat.le_of_ble_eq_true rfl⟩
theorem ze_209 : Cond.instanceMethod zy_209 ∈ zv_tb ∧ Cond.selects zy_209.cls zy_209 zy_209 ∈ zv_tb ∧ (parseMethodDescriptor zy_209.desc).map (fun d => d.parameters.length + 1) = some 2 ∧ zv_isI 209 = true := ⟨(zv_tbk_7 213 rfl rfl), (zv_tb_sel (List.mem_of_getElem? (i := 80) rfl) rfl), (by decide +kernel), rfl⟩
abbrev zy_210 : MethodName := ⟨"BranchedTextModel", "childOf", "(II)I"⟩
theorem zd_210 : zv_inf 210 = some (zy_210, (prog_11_method_28_code, (6, (some .int)))) ∧ zv_vD zy_210 prog_11_method_28_code 6 (some .int) := ⟨rfl, (zv_tbk_7 206 rfl rfl), zyi_9, zyc_9, Nat.le_of_ble_eq_true rfl⟩
theorem ze_210 : Cond.instanceMethod zy_210 ∈ zv_tb ∧ Cond.selects zy_210.cls zy_210 zy_210 ∈ zv_tb ∧ (parseMethodDescriptor zy_210.desc).map (fun d => d.parameters.length + 1) = some 3 ∧ zv_isI 210 = true := ⟨(zv_tbk_7 205 rfl rfl), (zv_tb_sel (List.mem_of_getElem? (i := 78) rfl) rfl), (by decide +kernel), rfl⟩
abbrev zy_211 : MethodName := ⟨"BranchedTextModel", "childrenOf", "(I)I"⟩
theorem zd_211 : zv_inf 211 = some (zy_211, (prog_11_method_29_code, (4, (some .int)))) ∧ zv_vD zy_211 prog_11_method_29_code 4 (some .int) := ⟨rfl, (zv_tbk_8 57 rfl rfl), zyi_9, zyc_9, Nat.le_of_ble_eq_true rfl⟩
theorem ze_211 : Cond.instanceMethod zy_211 ∈ zv_tb ∧ Cond.selects zy_211.cls zy_211 zy_211 ∈ zv_tb ∧ (parseMethodDescriptor zy_211.desc).map (fun d => d.parameters.length + 1) = some 2 ∧ zv_isI 211 = true := ⟨(zv_tbk_8 56 rfl rfl), (zv_tb_sel (List.mem_of_getElem? (i := 100) rfl) rfl), (by decide +kernel), rfl⟩
abbrev zy_212 : MethodName := ⟨"BranchedTextModel", "freeState", "()I"⟩
theorem zd_212 : zv_inf 212 = some (zy_212, (prog_11_method_30_code, (2, (some .int)))) ∧ zv_vD zy_212 prog_11_method_30_code 2 (some .int) := ⟨rfl, (zv_tbk_7 163 rfl rfl), zyi_9, zyc_9, Nat.le_of_ble_eq_true rfl⟩
theorem ze_212 : Cond.instanceMethod zy_212 ∈ zv_tb ∧ Cond.selects zy_212.cls zy_212 zy_212 ∈ zv_tb ∧ (parseMethodDescriptor zy_212.desc).map (fun d => d.parameters.length + 1) = some 1 ∧ zv_isI 212 = true := ⟨(zv_tbk_7 162 rfl rfl), (zv_tb_sel (List.mem_of_getElem? (i := 68) rfl) rfl), (by decide +kernel), rfl⟩
abbrev zy_213 : MethodName := ⟨"BranchedTextModel", "isNear", "(IIII)Z"⟩
theorem zd_213 : zv_inf 213 = some (zy_213, (prog_11_method_31_code, (8, (some .boolean)))) ∧ zv_vD zy_213 prog_11_method_31_code 8 (some .boolean) := ⟨rfl, (zv_tbk_7 175 rfl rfl), zyi_9, zyc_9, Nat.le_of_ble_eq_true rfl⟩
theorem ze_213 : Cond.instanceMethod zy_213 ∈ zv_tb ∧ Cond.selects zy_213.cls zy_213 zy_213 ∈ zv_tb ∧ (parseMethodDescriptor zy_213.desc).map (fun d => d.parameters.length + 1) = some 5 ∧ zv_isI 213 = true := ⟨(zv_tbk_7 174 rfl rfl), (zv_tb_sel (List.mem_of_getElem? (i := 71) rfl) rfl), (by decide +kernel), rfl⟩
abbrev zy_214 : MethodName := ⟨"BranchedTextModel", "compares", "(III)Z"⟩
theorem zd_214 : zv_inf 214 = some (zy_214, (prog_11_method_32_code, (3, (some .boolean)))) ∧ zv_vD zy_214 prog_11_method_32_code 3 (some .boolean) := ⟨rfl, (zv_tbk_7 182 rfl rfl), zyi_9, zyc_9, Nat.le_of_ble_eq_true rfl⟩
theorem ze_214 : Cond.static zy_214 ∈ zv_tb ∧ (parseMethodDescriptor zy_214.desc).map (fun d => d.parameters.length) = some 3 := ⟨(zv_tbk_7 181 rfl rfl), (by decide +kernel)⟩
abbrev zy_215 : MethodName := ⟨"BranchedTextModel", "holds", "()Z"⟩
theorem zd_215 : zv_inf 215 = some (zy_215, (prog_11_method_33_code, (4, (some .boolean)))) ∧ zv_vD zy_215 prog_11_method_33_code 4 (some .boolean) := ⟨rfl, (zv_tbk_7 179 rfl rfl), zyi_9, zyc_9, Nat.le_of_ble_eq_true rfl⟩
theorem ze_215 : Cond.instanceMethod zy_215 ∈ zv_tb ∧ Cond.selects zy_215.cls zy_215 zy_215 ∈ zv_tb ∧ (parseMethodDescriptor zy_215.desc).map (fun d => d.parameters.length + 1) = some 1 ∧ zv_isI 215 = true := ⟨(zv_tbk_7 178 rfl rfl), (zv_tb_sel (List.mem_of_getElem? (i := 72) rfl) rfl), (by decide +kernel), rfl⟩
abbrev zy_216 : MethodName := ⟨"BranchedTextModel", "joins", "(III)Z"⟩
theorem zd_216 : zv_inf 216 = some (zy_216, (prog_11_method_34_code, (5, (some .boolean)))) ∧ zv_vD zy_216 prog_11_method_34_code 5 (some .boolean) := ⟨rfl, (zv_tbk_7 171 rfl rfl), zyi_9, zyc_9, Nat.le_of_ble_eq_true rfl⟩
theorem ze_216 : Cond.instanceMethod zy_216 ∈ zv_tb ∧ Cond.selects zy_216.cls zy_216 zy_216 ∈ zv_tb ∧ (parseMethodDescriptor zy_216.desc).map (fun d => d.parameters.length + 1) = some 4 ∧ zv_isI 216 = true := ⟨(zv_tbk_7 170 rfl rfl), (zv_tb_sel (List.mem_of_getElem? (i := 70) rfl) rfl), (by decide +kernel), rfl⟩
abbrev zy_217 : MethodName := ⟨"BranchedTextModel", "begins", "(IIIIZ)V"⟩
theorem zd_217 : zv_inf 217 = some (zy_217, (prog_11_method_35_code, (7, none))) ∧ zv_vD zy_217 prog_11_method_35_code 7 none := ⟨rfl, (zv_tbk_7 186 rfl rfl), zyi_9, zyc_9, Nat.le_of_ble_eq_true rfl⟩
theorem ze_217 : Cond.instanceMethod zy_217 ∈ zv_tb ∧ Cond.selects zy_217.cls zy_217 zy_217 ∈ zv_tb ∧ (parseMethodDescriptor zy_217.desc).map (fun d => d.parameters.length + 1) = some 6 ∧ zv_isI 217 = true := ⟨(zv_tbk_7 185 rfl rfl), (zv_tb_sel (List.mem_of_getElem? (i := 73) rfl) rfl), (by decide +kernel), rfl⟩
abbrev zy_218 : MethodName := ⟨"BranchedTextModel", "packed", "([II)I"⟩
theorem zd_218 : zv_inf 218 = some (zy_218, (prog_11_method_36_code, (4, (some .int)))) ∧ zv_vD zy_218 prog_11_method_36_code 4 (some .int) := ⟨rfl, (zv_tbk_7 237 rfl rfl), zyi_9, zyc_9, Nat.le_of_ble_eq_true rfl⟩
theorem ze_218 : Cond.static zy_218 ∈ zv_tb ∧ (parseMethodDescriptor zy_218.desc).map (fun d => d.parameters.length) = some 2 := ⟨(zv_tbk_7 236 rfl rfl), (by decide +kernel)⟩
abbrev zy_219 : MethodName := ⟨"BranchedTextModel", "nameAt", "(I)I"⟩
theorem zd_219 : zv_inf 219 = some (zy_219, (prog_11_method_37_code, (3, (some .int)))) ∧ zv_vD zy_219 prog_11_method_37_code 3 (some .int) := ⟨rfl, (zv_tbk_8 1 rfl rfl), zyi_9, zyc_9, Nat.le_of_ble_eq_true rfl⟩
theorem ze_219 : Cond.instanceMethod zy_219 ∈ zv_tb ∧ Cond.selects zy_219.cls zy_219 zy_219 ∈ zv_tb ∧ (parseMethodDescriptor zy_219.desc).map (fun d => d.parameters.length + 1) = some 2 ∧ zv_isI 219 = true := ⟨(zv_tbk_8 0 rfl rfl), (zv_tb_sel (List.mem_of_getElem? (i := 86) rfl) rfl), (by decide +kernel), rfl⟩
abbrev zy_220 : MethodName := ⟨"BranchedTextModel", "type", "(II)I"⟩
theorem zd_220 : zv_inf 220 = some (zy_220, (prog_11_method_38_code, (7, (some .int)))) ∧ zv_vD zy_220 prog_11_method_38_code 7 (some .int) := ⟨rfl, (zv_tbk_6 214 rfl rfl), zyi_9, zyc_9, Nat.le_of_ble_eq_true rfl⟩
theorem ze_220 : Cond.instanceMethod zy_220 ∈ zv_tb ∧ Cond.selects zy_220.cls zy_220 zy_220 ∈ zv_tb ∧ (parseMethodDescriptor zy_220.desc).map (fun d => d.parameters.length + 1) = some 3 ∧ zv_isI 220 = true := ⟨(zv_tbk_6 212 rfl rfl), (zv_tbk_6 213 rfl rfl), (by decide +kernel), rfl⟩
abbrev zy_221 : MethodName := ⟨"BranchedTextModel", "hand", "()V"⟩
theorem zd_221 : zv_inf 221 = some (zy_221, (prog_11_method_39_code, (2, none))) ∧ zv_vD zy_221 prog_11_method_39_code 2 none := ⟨rfl, (zv_tbk_8 133 rfl rfl), zyi_9, zyc_9, Nat.le_of_ble_eq_true rfl⟩
theorem ze_221 : Cond.instanceMethod zy_221 ∈ zv_tb ∧ Cond.selects zy_221.cls zy_221 zy_221 ∈ zv_tb ∧ (parseMethodDescriptor zy_221.desc).map (fun d => d.parameters.length + 1) = some 1 ∧ zv_isI 221 = true := ⟨(zv_tbk_8 132 rfl rfl), (zv_tb_sel (List.mem_of_getElem? (i := 107) rfl) rfl), (by decide +kernel), rfl⟩
abbrev zy_222 : MethodName := ⟨"BranchedTextModel", "putNow", "(I)I"⟩
theorem zd_222 : zv_inf 222 = some (zy_222, (prog_11_method_40_code, (6, (some .int)))) ∧ zv_vD zy_222 prog_11_method_40_code 6 (some .int) := ⟨rfl, (zv_tbk_7 111 rfl rfl), zyi_9, zyc_9, Nat.le_of_ble_eq_true rfl⟩
theorem ze_222 : Cond.instanceMethod zy_222 ∈ zv_tb ∧ Cond.selects zy_222.cls zy_222 zy_222 ∈ zv_tb ∧ (parseMethodDescriptor zy_222.desc).map (fun d => d.parameters.length + 1) = some 2 ∧ zv_isI 222 = true := ⟨(zv_tbk_7 110 rfl rfl), (zv_tb_sel (List.mem_of_getElem? (i := 55) rfl) rfl), (by decide +kernel), rfl⟩
abbrev zy_223 : MethodName := ⟨"BranchedTextModel", "cutNow", "(II)I"⟩
theorem zd_223 : zv_inf 223 = some (zy_223, (prog_11_method_41_code, (6, (some .int)))) ∧ zv_vD zy_223 prog_11_method_41_code 6 (some .int) := ⟨rfl, (zv_tbk_7 194 rfl rfl), zyi_9, zyc_9, Nat.le_of_ble_eq_true rfl⟩
theorem ze_223 : Cond.instanceMethod zy_223 ∈ zv_tb ∧ Cond.selects zy_223.cls zy_223 zy_223 ∈ zv_tb ∧ (parseMethodDescriptor zy_223.desc).map (fun d => d.parameters.length + 1) = some 3 ∧ zv_isI 223 = true := ⟨(zv_tbk_7 193 rfl rfl), (zv_tb_sel (List.mem_of_getElem? (i := 75) rfl) rfl), (by decide +kernel), rfl⟩
abbrev zy_224 : MethodName := ⟨"BranchedTextModel", "plain", "()V"⟩
theorem zd_224 : zv_inf 224 = some (zy_224, (prog_11_method_42_code, (2, none))) ∧ zv_vD zy_224 prog_11_method_42_code 2 none := ⟨rfl, (zv_tbk_8 29 rfl rfl), zyi_9, zyc_9, Nat.le_of_ble_eq_true rfl⟩
theorem ze_224 : Cond.instanceMethod zy_224 ∈ zv_tb ∧ Cond.selects zy_224.cls zy_224 zy_224 ∈ zv_tb ∧ (parseMethodDescriptor zy_224.desc).map (fun d => d.parameters.length + 1) = some 1 ∧ zv_isI 224 = true := ⟨(zv_tbk_8 28 rfl rfl), (zv_tb_sel (List.mem_of_getElem? (i := 93) rfl) rfl), (by decide +kernel), rfl⟩
abbrev zy_225 : MethodName := ⟨"BranchedTextModel", "carries", "(I)I"⟩
theorem zd_225 : zv_inf 225 = some (zy_225, (prog_11_method_43_code, (5, (some .int)))) ∧ zv_vD zy_225 prog_11_method_43_code 5 (some .int) := ⟨rfl, (zv_tbk_8 33 rfl rfl), zyi_9, zyc_9, Nat.le_of_ble_eq_true rfl⟩
theorem ze_225 : Cond.instanceMethod zy_225 ∈ zv_tb ∧ Cond.selects zy_225.cls zy_225 zy_225 ∈ zv_tb ∧ (parseMethodDescriptor zy_225.desc).map (fun d => d.parameters.length + 1) = some 2 ∧ zv_isI 225 = true := ⟨(zv_tbk_8 32 rfl rfl), (zv_tb_sel (List.mem_of_getElem? (i := 94) rfl) rfl), (by decide +kernel), rfl⟩
abbrev zy_226 : MethodName := ⟨"BranchedTextModel", "isTaken", "(II)Z"⟩
theorem zd_226 : zv_inf 226 = some (zy_226, (prog_11_method_44_code, (4, (some .boolean)))) ∧ zv_vD zy_226 prog_11_method_44_code 4 (some .boolean) := ⟨rfl, (zv_tbk_8 41 rfl rfl), zyi_9, zyc_9, Nat.le_of_ble_eq_true rfl⟩
theorem ze_226 : Cond.instanceMethod zy_226 ∈ zv_tb ∧ Cond.selects zy_226.cls zy_226 zy_226 ∈ zv_tb ∧ (parseMethodDescriptor zy_226.desc).map (fun d => d.parameters.length + 1) = some 3 ∧ zv_isI 226 = true := ⟨(zv_tbk_8 40 rfl rfl), (zv_tb_sel (List.mem_of_getElem? (i := 96) rfl) rfl), (by decide +kernel), rfl⟩
abbrev zy_227 : MethodName := ⟨"BranchedTextModel", "carriesCut", "(I)I"⟩
theorem zd_227 : zv_inf 227 = some (zy_227, (prog_11_method_45_code, (6, (some .int)))) ∧ zv_vD zy_227 prog_11_method_45_code 6 (some .int) := ⟨rfl, (zv_tbk_8 37 rfl rfl), zyi_9, zyc_9, Nat.le_of_ble_eq_true rfl⟩
theorem ze_227 : Cond.instanceMethod zy_227 ∈ zv_tb ∧ Cond.selects zy_227.cls zy_227 zy_227 ∈ zv_tb ∧ (parseMethodDescriptor zy_227.desc).map (fun d => d.parameters.length + 1) = some 2 ∧ zv_isI 227 = true := ⟨(zv_tbk_8 36 rfl rfl), (zv_tb_sel (List.mem_of_getElem? (i := 95) rfl) rfl), (by decide +kernel), rfl⟩
abbrev zy_228 : MethodName := ⟨"BranchedTextModel", "carryNow", "(I)I"⟩
theorem zd_228 : zv_inf 228 = some (zy_228, (prog_11_method_46_code, (2, (some .int)))) ∧ zv_vD zy_228 prog_11_method_46_code 2 (some .int) := ⟨rfl, (zv_tbk_8 25 rfl rfl), zyi_9, zyc_9, Nat.le_of_ble_eq_true rfl⟩
theorem ze_228 : Cond.instanceMethod zy_228 ∈ zv_tb ∧ Cond.selects zy_228.cls zy_228 zy_228 ∈ zv_tb ∧ (parseMethodDescriptor zy_228.desc).map (fun d => d.parameters.length + 1) = some 2 ∧ zv_isI 228 = true := ⟨(zv_tbk_8 24 rfl rfl), (zv_tb_sel (List.mem_of_getElem? (i := 92) rfl) rfl), (by decide +kernel), rfl⟩
abbrev zy_229 : MethodName := ⟨"BranchedTextModel", "mergeNow", "(I)I"⟩
theorem zd_229 : zv_inf 229 = some (zy_229, (prog_11_method_47_code, (6, (some .int)))) ∧ zv_vD zy_229 prog_11_method_47_code 6 (some .int) := ⟨rfl, (zv_tbk_8 45 rfl rfl), zyi_9, zyc_9, Nat.le_of_ble_eq_true rfl⟩
theorem ze_229 : Cond.instanceMethod zy_229 ∈ zv_tb ∧ Cond.selects zy_229.cls zy_229 zy_229 ∈ zv_tb ∧ (parseMethodDescriptor zy_229.desc).map (fun d => d.parameters.length + 1) = some 2 ∧ zv_isI 229 = true := ⟨(zv_tbk_8 44 rfl rfl), (zv_tb_sel (List.mem_of_getElem? (i := 97) rfl) rfl), (by decide +kernel), rfl⟩
abbrev zy_230 : MethodName := ⟨"BranchedTextModel", "undoNow", "()I"⟩
theorem zd_230 : zv_inf 230 = some (zy_230, (prog_11_method_48_code, (1, (some .int)))) ∧ zv_vD zy_230 prog_11_method_48_code 1 (some .int) := ⟨rfl, (zv_tbk_7 198 rfl rfl), zyi_9, zyc_9, Nat.le_of_ble_eq_true rfl⟩
theorem ze_230 : Cond.instanceMethod zy_230 ∈ zv_tb ∧ Cond.selects zy_230.cls zy_230 zy_230 ∈ zv_tb ∧ (parseMethodDescriptor zy_230.desc).map (fun d => d.parameters.length + 1) = some 1 ∧ zv_isI 230 = true := ⟨(zv_tbk_7 197 rfl rfl), (zv_tb_sel (List.mem_of_getElem? (i := 76) rfl) rfl), (by decide +kernel), rfl⟩
abbrev zy_231 : MethodName := ⟨"BranchedTextModel", "redoNow", "()I"⟩
theorem zd_231 : zv_inf 231 = some (zy_231, (prog_11_method_49_code, (4, (some .int)))) ∧ zv_vD zy_231 prog_11_method_49_code 4 (some .int) := ⟨rfl, (zv_tbk_7 202 rfl rfl), zyi_9, zyc_9, Nat.le_of_ble_eq_true rfl⟩
theorem ze_231 : Cond.instanceMethod zy_231 ∈ zv_tb ∧ Cond.selects zy_231.cls zy_231 zy_231 ∈ zv_tb ∧ (parseMethodDescriptor zy_231.desc).map (fun d => d.parameters.length + 1) = some 1 ∧ zv_isI 231 = true := ⟨(zv_tbk_7 201 rfl rfl), (zv_tb_sel (List.mem_of_getElem? (i := 77) rfl) rfl), (by decide +kernel), rfl⟩
abbrev zy_232 : MethodName := ⟨"BranchedTextModel", "commonOf", "(II)I"⟩
theorem zd_232 : zv_inf 232 = some (zy_232, (prog_11_method_50_code, (4, (some .int)))) ∧ zv_vD zy_232 prog_11_method_50_code 4 (some .int) := ⟨rfl, (zv_tbk_7 230 rfl rfl), zyi_9, zyc_9, Nat.le_of_ble_eq_true rfl⟩
theorem ze_232 : Cond.instanceMethod zy_232 ∈ zv_tb ∧ Cond.selects zy_232.cls zy_232 zy_232 ∈ zv_tb ∧ (parseMethodDescriptor zy_232.desc).map (fun d => d.parameters.length + 1) = some 3 ∧ zv_isI 232 = true := ⟨(zv_tbk_7 229 rfl rfl), (zv_tb_sel (List.mem_of_getElem? (i := 84) rfl) rfl), (by decide +kernel), rfl⟩
abbrev zy_233 : MethodName := ⟨"BranchedTextModel", "wayMany", "(II)I"⟩
theorem zd_233 : zv_inf 233 = some (zy_233, (prog_11_method_51_code, (3, (some .int)))) ∧ zv_vD zy_233 prog_11_method_51_code 3 (some .int) := ⟨rfl, (zv_tbk_7 226 rfl rfl), zyi_9, zyc_9, Nat.le_of_ble_eq_true rfl⟩
theorem ze_233 : Cond.instanceMethod zy_233 ∈ zv_tb ∧ Cond.selects zy_233.cls zy_233 zy_233 ∈ zv_tb ∧ (parseMethodDescriptor zy_233.desc).map (fun d => d.parameters.length + 1) = some 3 ∧ zv_isI 233 = true := ⟨(zv_tbk_7 225 rfl rfl), (zv_tb_sel (List.mem_of_getElem? (i := 83) rfl) rfl), (by decide +kernel), rfl⟩
abbrev zy_234 : MethodName := ⟨"BranchedTextModel", "goNow", "(I)I"⟩
theorem zd_234 : zv_inf 234 = some (zy_234, (prog_11_method_52_code, (3, (some .int)))) ∧ zv_vD zy_234 prog_11_method_52_code 3 (some .int) := ⟨rfl, (zv_tbk_7 222 rfl rfl), zyi_9, zyc_9, Nat.le_of_ble_eq_true rfl⟩
theorem ze_234 : Cond.instanceMethod zy_234 ∈ zv_tb ∧ Cond.selects zy_234.cls zy_234 zy_234 ∈ zv_tb ∧ (parseMethodDescriptor zy_234.desc).map (fun d => d.parameters.length + 1) = some 2 ∧ zv_isI 234 = true := ⟨(zv_tbk_7 221 rfl rfl), (zv_tb_sel (List.mem_of_getElem? (i := 82) rfl) rfl), (by decide +kernel), rfl⟩
abbrev zy_235 : MethodName := ⟨"BranchedTextModel", "nameNow", "()I"⟩
theorem zd_235 : zv_inf 235 = some (zy_235, (prog_11_method_53_code, (3, (some .int)))) ∧ zv_vD zy_235 prog_11_method_53_code 3 (some .int) := ⟨rfl, (zv_tbk_7 234 rfl rfl), zyi_9, zyc_9, Nat.le_of_ble_eq_true rfl⟩
theorem ze_235 : Cond.instanceMethod zy_235 ∈ zv_tb ∧ Cond.selects zy_235.cls zy_235 zy_235 ∈ zv_tb ∧ (parseMethodDescriptor zy_235.desc).map (fun d => d.parameters.length + 1) = some 1 ∧ zv_isI 235 = true := ⟨(zv_tbk_7 233 rfl rfl), (zv_tb_sel (List.mem_of_getElem? (i := 85) rfl) rfl), (by decide +kernel), rfl⟩
abbrev zy_236 : MethodName := ⟨"BranchedTextModel", "leansOn", "(II)Z"⟩
theorem zd_236 : zv_inf 236 = some (zy_236, (prog_11_method_54_code, (4, (some .boolean)))) ∧ zv_vD zy_236 prog_11_method_54_code 4 (some .boolean) := ⟨rfl, (zv_tbk_8 13 rfl rfl), zyi_9, zyc_9, Nat.le_of_ble_eq_true rfl⟩
theorem ze_236 : Cond.instanceMethod zy_236 ∈ zv_tb ∧ Cond.selects zy_236.cls zy_236 zy_236 ∈ zv_tb ∧ (parseMethodDescriptor zy_236.desc).map (fun d => d.parameters.length + 1) = some 3 ∧ zv_isI 236 = true := ⟨(zv_tbk_8 12 rfl rfl), (zv_tb_sel (List.mem_of_getElem? (i := 89) rfl) rfl), (by decide +kernel), rfl⟩
abbrev zy_237 : MethodName := ⟨"BranchedTextModel", "marks", "(IZ)V"⟩
theorem zd_237 : zv_inf 237 = some (zy_237, (prog_11_method_55_code, (7, none))) ∧ zv_vD zy_237 prog_11_method_55_code 7 none := ⟨rfl, (zv_tbk_8 9 rfl rfl), zyi_9, zyc_9, Nat.le_of_ble_eq_true rfl⟩
theorem ze_237 : Cond.instanceMethod zy_237 ∈ zv_tb ∧ Cond.selects zy_237.cls zy_237 zy_237 ∈ zv_tb ∧ (parseMethodDescriptor zy_237.desc).map (fun d => d.parameters.length + 1) = some 3 ∧ zv_isI 237 = true := ⟨(zv_tbk_8 8 rfl rfl), (zv_tb_sel (List.mem_of_getElem? (i := 88) rfl) rfl), (by decide +kernel), rfl⟩
abbrev zy_238 : MethodName := ⟨"BranchedTextModel", "triesNames", "(I)I"⟩
theorem zd_238 : zv_inf 238 = some (zy_238, (prog_11_method_56_code, (4, (some .int)))) ∧ zv_vD zy_238 prog_11_method_56_code 4 (some .int) := ⟨rfl, (zv_tbk_8 17 rfl rfl), zyi_9, zyc_9, Nat.le_of_ble_eq_true rfl⟩
theorem ze_238 : Cond.instanceMethod zy_238 ∈ zv_tb ∧ Cond.selects zy_238.cls zy_238 zy_238 ∈ zv_tb ∧ (parseMethodDescriptor zy_238.desc).map (fun d => d.parameters.length + 1) = some 2 ∧ zv_isI 238 = true := ⟨(zv_tbk_8 16 rfl rfl), (zv_tb_sel (List.mem_of_getElem? (i := 90) rfl) rfl), (by decide +kernel), rfl⟩
abbrev zy_239 : MethodName := ⟨"BranchedTextModel", "turnNow", "(II)I"⟩
theorem zd_239 : zv_inf 239 = some (zy_239, (prog_11_method_57_code, (5, (some .int)))) ∧ zv_vD zy_239 prog_11_method_57_code 5 (some .int) := ⟨rfl, (zv_tbk_8 5 rfl rfl), zyi_9, zyc_9, Nat.le_of_ble_eq_true rfl⟩
theorem ze_239 : Cond.instanceMethod zy_239 ∈ zv_tb ∧ Cond.selects zy_239.cls zy_239 zy_239 ∈ zv_tb ∧ (parseMethodDescriptor zy_239.desc).map (fun d => d.parameters.length + 1) = some 3 ∧ zv_isI 239 = true := ⟨(zv_tbk_8 4 rfl rfl), (zv_tb_sel (List.mem_of_getElem? (i := 87) rfl) rfl), (by decide +kernel), rfl⟩
abbrev zy_240 : MethodName := ⟨"BranchedTextModel", "lays", "(I)V"⟩
theorem zd_240 : zv_inf 240 = some (zy_240, (prog_11_method_58_code, (3, none))) ∧ zv_vD zy_240 prog_11_method_58_code 3 none := ⟨rfl, (zv_tbk_6 222 rfl rfl), zyi_9, zyc_9, Nat.le_of_ble_eq_true rfl⟩
theorem ze_240 : Cond.instanceMethod zy_240 ∈ zv_tb ∧ Cond.selects zy_240.cls zy_240 zy_240 ∈ zv_tb ∧ (parseMethodDescriptor zy_240.desc).map (fun d => d.parameters.length + 1) = some 2 ∧ zv_isI 240 = true := ⟨(zv_tbk_6 221 rfl rfl), (zv_tb_sel (List.mem_of_getElem? (i := 39) rfl) rfl), (by decide +kernel), rfl⟩
abbrev zy_241 : MethodName := ⟨"BranchedTextModel", "feed", "(IIIII)I"⟩
theorem zd_241 : zv_inf 241 = some (zy_241, (prog_11_method_59_code, (6, (some .int)))) ∧ zv_vD zy_241 prog_11_method_59_code 6 (some .int) := ⟨rfl, (zv_tbk_6 218 rfl rfl), zyi_9, zyc_9, Nat.le_of_ble_eq_true rfl⟩
theorem ze_241 : Cond.instanceMethod zy_241 ∈ zv_tb ∧ Cond.selects zy_241.cls zy_241 zy_241 ∈ zv_tb ∧ (parseMethodDescriptor zy_241.desc).map (fun d => d.parameters.length + 1) = some 6 ∧ zv_isI 241 = true := ⟨(zv_tbk_6 216 rfl rfl), (zv_tbk_6 217 rfl rfl), (by decide +kernel), rfl⟩
abbrev zy_242 : MethodName := ⟨"BranchedTextModel", "isOf", "(III)Z"⟩
theorem zd_242 : zv_inf 242 = some (zy_242, (prog_11_method_60_code, (4, (some .boolean)))) ∧ zv_vD zy_242 prog_11_method_60_code 4 (some .boolean) := ⟨rfl, (zv_tbk_7 57 rfl rfl), zyi_9, zyc_9, Nat.le_of_ble_eq_true rfl⟩
theorem ze_242 : Cond.instanceMethod zy_242 ∈ zv_tb ∧ Cond.selects zy_242.cls zy_242 zy_242 ∈ zv_tb ∧ (parseMethodDescriptor zy_242.desc).map (fun d => d.parameters.length + 1) = some 4 ∧ zv_isI 242 = true := ⟨(zv_tbk_7 56 rfl rfl), (zv_tb_sel (List.mem_of_getElem? (i := 42) rfl) rfl), (by decide +kernel), rfl⟩
abbrev zy_243 : MethodName := ⟨"BranchedTextModel", "reads", "()V"⟩
theorem zd_243 : zv_inf 243 = some (zy_243, (prog_11_method_61_code, (1, none))) ∧ zv_vD zy_243 prog_11_method_61_code 1 none := ⟨rfl, (zv_tbk_6 237 rfl rfl), zyi_9, zyc_9, Nat.le_of_ble_eq_true rfl⟩
theorem ze_243 : Cond.instanceMethod zy_243 ∈ zv_tb ∧ Cond.selects zy_243.cls zy_243 zy_243 ∈ zv_tb ∧ (parseMethodDescriptor zy_243.desc).map (fun d => d.parameters.length + 1) = some 1 ∧ zv_isI 243 = true := ⟨(zv_tbk_6 236 rfl rfl), (zv_tb_sel (List.mem_of_getElem? (i := 41) rfl) rfl), (by decide +kernel), rfl⟩
abbrev zy_244 : MethodName := ⟨"BranchedTextModel", "must", "(ZI)V"⟩
theorem zd_244 : zv_inf 244 = some (zy_244, (prog_11_method_62_code, (3, none))) ∧ zv_vD zy_244 prog_11_method_62_code 3 none := ⟨rfl, (zv_tbk_7 71 rfl rfl), zyi_9, zyc_9, Nat.le_of_ble_eq_true rfl⟩
theorem ze_244 : Cond.instanceMethod zy_244 ∈ zv_tb ∧ Cond.selects zy_244.cls zy_244 zy_244 ∈ zv_tb ∧ (parseMethodDescriptor zy_244.desc).map (fun d => d.parameters.length + 1) = some 3 ∧ zv_isI 244 = true := ⟨(zv_tbk_7 70 rfl rfl), (zv_tb_sel (List.mem_of_getElem? (i := 45) rfl) rfl), (by decide +kernel), rfl⟩
abbrev zy_245 : MethodName := ⟨"BranchedTextModel", "which", "([J)I"⟩
theorem zd_245 : zv_inf 245 = some (zy_245, (prog_11_method_63_code, (3, (some .int)))) ∧ zv_vD zy_245 prog_11_method_63_code 3 (some .int) := ⟨rfl, (zv_tbk_7 63 rfl rfl), zyi_9, zyc_9, Nat.le_of_ble_eq_true rfl⟩
theorem ze_245 : Cond.instanceMethod zy_245 ∈ zv_tb ∧ Cond.selects zy_245.cls zy_245 zy_245 ∈ zv_tb ∧ (parseMethodDescriptor zy_245.desc).map (fun d => d.parameters.length + 1) = some 2 ∧ zv_isI 245 = true := ⟨(zv_tbk_7 62 rfl rfl), (zv_tb_sel (List.mem_of_getElem? (i := 43) rfl) rfl), (by decide +kernel), rfl⟩
abbrev zy_246 : MethodName := ⟨"BranchedTextModel", "isSign", "(C)Z"⟩
theorem zd_246 : zv_inf 246 = some (zy_246, (prog_11_method_64_code, (2, (some .boolean)))) ∧ zv_vD zy_246 prog_11_method_64_code 2 (some .boolean) := ⟨rfl, (zv_tbk_7 79 rfl rfl), zyi_9, zyc_9, Nat.le_of_ble_eq_true rfl⟩
theorem ze_246 : Cond.instanceMethod zy_246 ∈ zv_tb ∧ Cond.selects zy_246.cls zy_246 zy_246 ∈ zv_tb ∧ (parseMethodDescriptor zy_246.desc).map (fun d => d.parameters.length + 1) = some 2 ∧ zv_isI 246 = true := ⟨(zv_tbk_7 78 rfl rfl), (zv_tb_sel (List.mem_of_getElem? (i := 47) rfl) rfl), (by decide +kernel), rfl⟩
abbrev zy_247 : MethodName := ⟨"BranchedTextModel", "takes", "(C)V"⟩
theorem zd_247 : zv_inf 247 = some (zy_247, (prog_11_method_65_code, (2, none))) ∧ zv_vD zy_247 prog_11_method_65_code 2 none := ⟨rfl, (zv_tbk_7 75 rfl rfl), zyi_9, zyc_9, Nat.le_of_ble_eq_true rfl⟩
theorem ze_247 : Cond.instanceMethod zy_247 ∈ zv_tb ∧ Cond.selects zy_247.cls zy_247 zy_247 ∈ zv_tb ∧ (parseMethodDescriptor zy_247.desc).map (fun d => d.parameters.length + 1) = some 2 ∧ zv_isI 247 = true := ⟨(zv_tbk_7 74 rfl rfl), (zv_tb_sel (List.mem_of_getElem? (i := 46) rfl) rfl), (by decide +kernel), rfl⟩
abbrev zy_248 : MethodName := ⟨"BranchedTextModel", "takesNumber", "()I"⟩
theorem zd_248 : zv_inf 248 = some (zy_248, (prog_11_method_66_code, (2, (some .int)))) ∧ zv_vD zy_248 prog_11_method_66_code 2 (some .int) := ⟨rfl, (zv_tbk_7 99 rfl rfl), zyi_9, zyc_9, Nat.le_of_ble_eq_true rfl⟩
theorem ze_248 : Cond.instanceMethod zy_248 ∈ zv_tb ∧ Cond.selects zy_248.cls zy_248 zy_248 ∈ zv_tb ∧ (parseMethodDescriptor zy_248.desc).map (fun d => d.parameters.length + 1) = some 1 ∧ zv_isI 248 = true := ⟨(zv_tbk_7 98 rfl rfl), (zv_tb_sel (List.mem_of_getElem? (i := 52) rfl) rfl), (by decide +kernel), rfl⟩
abbrev zy_249 : MethodName := ⟨"BranchedTextModel", "takesWord", "(I)V"⟩
theorem zd_249 : zv_inf 249 = some (zy_249, (prog_11_method_67_code, (3, none))) ∧ zv_vD zy_249 prog_11_method_67_code 3 none := ⟨rfl, (zv_tbk_7 67 rfl rfl), zyi_9, zyc_9, Nat.le_of_ble_eq_true rfl⟩
theorem ze_249 : Cond.instanceMethod zy_249 ∈ zv_tb ∧ Cond.selects zy_249.cls zy_249 zy_249 ∈ zv_tb ∧ (parseMethodDescriptor zy_249.desc).map (fun d => d.parameters.length + 1) = some 2 ∧ zv_isI 249 = true := ⟨(zv_tbk_7 66 rfl rfl), (zv_tb_sel (List.mem_of_getElem? (i := 44) rfl) rfl), (by decide +kernel), rfl⟩
abbrev zy_250 : MethodName := ⟨"BranchedTextModel", "emits", "(I)V"⟩
theorem zd_250 : zv_inf 250 = some (zy_250, (prog_11_method_68_code, (2, none))) ∧ zv_vD zy_250 prog_11_method_68_code 2 none := ⟨rfl, (zv_tbk_7 95 rfl rfl), zyi_9, zyc_9, Nat.le_of_ble_eq_true rfl⟩
theorem ze_250 : Cond.instanceMethod zy_250 ∈ zv_tb ∧ Cond.selects zy_250.cls zy_250 zy_250 ∈ zv_tb ∧ (parseMethodDescriptor zy_250.desc).map (fun d => d.parameters.length + 1) = some 2 ∧ zv_isI 250 = true := ⟨(zv_tbk_7 94 rfl rfl), (zv_tb_sel (List.mem_of_getElem? (i := 51) rfl) rfl), (by decide +kernel), rfl⟩
abbrev zy_251 : MethodName := ⟨"BranchedTextModel", "test", "()V"⟩
theorem zd_251 : zv_inf 251 = some (zy_251, (prog_11_method_69_code, (1, none))) ∧ zv_vD zy_251 prog_11_method_69_code 1 none := ⟨rfl, (zv_tbk_7 83 rfl rfl), zyi_9, zyc_9, Nat.le_of_ble_eq_true rfl⟩
theorem ze_251 : Cond.instanceMethod zy_251 ∈ zv_tb ∧ Cond.selects zy_251.cls zy_251 zy_251 ∈ zv_tb ∧ (parseMethodDescriptor zy_251.desc).map (fun d => d.parameters.length + 1) = some 1 ∧ zv_isI 251 = true := ⟨(zv_tbk_7 82 rfl rfl), (zv_tb_sel (List.mem_of_getElem? (i := 48) rfl) rfl), (by decide +kernel), rfl⟩
abbrev zy_252 : MethodName := ⟨"BranchedTextModel", "side", "()V"⟩
theorem zd_252 : zv_inf 252 = some (zy_252, (prog_11_method_70_code, (1, none))) ∧ zv_vD zy_252 prog_11_method_70_code 1 none := ⟨rfl, (zv_tbk_7 87 rfl rfl), zyi_9, zyc_9, Nat.le_of_ble_eq_true rfl⟩
theorem ze_252 : Cond.instanceMethod zy_252 ∈ zv_tb ∧ Cond.selects zy_252.cls zy_252 zy_252 ∈ zv_tb ∧ (parseMethodDescriptor zy_252.desc).map (fun d => d.parameters.length + 1) = some 1 ∧ zv_isI 252 = true := ⟨(zv_tbk_7 86 rfl rfl), (zv_tb_sel (List.mem_of_getElem? (i := 49) rfl) rfl), (by decide +kernel), rfl⟩
abbrev zy_253 : MethodName := ⟨"BranchedTextModel", "fact", "()V"⟩
theorem zd_253 : zv_inf 253 = some (zy_253, (prog_11_method_71_code, (5, none))) ∧ zv_vD zy_253 prog_11_method_71_code 5 none := ⟨rfl, (zv_tbk_7 91 rfl rfl), zyi_9, zyc_9, Nat.le_of_ble_eq_true rfl⟩
theorem ze_253 : Cond.instanceMethod zy_253 ∈ zv_tb ∧ Cond.selects zy_253.cls zy_253 zy_253 ∈ zv_tb ∧ (parseMethodDescriptor zy_253.desc).map (fun d => d.parameters.length + 1) = some 1 ∧ zv_isI 253 = true := ⟨(zv_tbk_7 90 rfl rfl), (zv_tb_sel (List.mem_of_getElem? (i := 50) rfl) rfl), (by decide +kernel), rfl⟩
abbrev zy_254 : MethodName := ⟨"BranchedTextModel", "readsLine", "()V"⟩
theorem zd_254 : zv_inf 254 = some (zy_254, (prog_11_method_72_code, (2, none))) ∧ zv_vD zy_254 prog_11_method_72_code 2 none := ⟨rfl, (zv_tbk_7 103 rfl rfl), zyi_9, zyc_9, Nat.le_of_ble_eq_true rfl⟩
theorem ze_254 : Cond.instanceMethod zy_254 ∈ zv_tb ∧ Cond.selects zy_254.cls zy_254 zy_254 ∈ zv_tb ∧ (parseMethodDescriptor zy_254.desc).map (fun d => d.parameters.length + 1) = some 1 ∧ zv_isI 254 = true := ⟨(zv_tbk_7 102 rfl rfl), (zv_tb_sel (List.mem_of_getElem? (i := 53) rfl) rfl), (by decide +kernel), rfl⟩
abbrev zy_255 : MethodName := ⟨"BranchedTextModel", "does", "(I)I"⟩
theorem zd_255 : zv_inf 255 = some (zy_255, (prog_11_method_73_code, (2, (some .int)))) ∧ zv_vD zy_255 prog_11_method_73_code 2 (some .int) := ⟨rfl, (zv_tbk_7 107 rfl rfl), zyi_9, zyc_9, Nat.le_of_ble_eq_true rfl⟩
theorem ze_255 : Cond.instanceMethod zy_255 ∈ zv_tb ∧ Cond.selects zy_255.cls zy_255 zy_255 ∈ zv_tb ∧ (parseMethodDescriptor zy_255.desc).map (fun d => d.parameters.length + 1) = some 2 ∧ zv_isI 255 = true := ⟨(zv_tbk_7 106 rfl rfl), (zv_tb_sel (List.mem_of_getElem? (i := 54) rfl) rfl), (by decide +kernel), rfl⟩
abbrev zy_256 : MethodName := ⟨"BranchedTextModel", "load", "(I)I"⟩
theorem zd_256 : zv_inf 256 = some (zy_256, (prog_11_method_74_code, (3, (some .int)))) ∧ zv_vD zy_256 prog_11_method_74_code 3 (some .int) := ⟨rfl, (zv_tbk_6 226 rfl rfl), zyi_9, zyc_9, Nat.le_of_ble_eq_true rfl⟩
theorem ze_256 : Cond.instanceMethod zy_256 ∈ zv_tb ∧ Cond.selects zy_256.cls zy_256 zy_256 ∈ zv_tb ∧ (parseMethodDescriptor zy_256.desc).map (fun d => d.parameters.length + 1) = some 2 ∧ zv_isI 256 = true := ⟨(zv_tbk_6 224 rfl rfl), (zv_tbk_6 225 rfl rfl), (by decide +kernel), rfl⟩
abbrev zy_257 : MethodName := ⟨"BranchedTextModel", "fault", "(I)I"⟩
theorem zd_257 : zv_inf 257 = some (zy_257, (prog_11_method_75_code, (2, (some .int)))) ∧ zv_vD zy_257 prog_11_method_75_code 2 (some .int) := ⟨rfl, (zv_tbk_8 65 rfl rfl), zyi_9, zyc_9, Nat.le_of_ble_eq_true rfl⟩
theorem ze_257 : Cond.instanceMethod zy_257 ∈ zv_tb ∧ Cond.selects zy_257.cls zy_257 zy_257 ∈ zv_tb ∧ (parseMethodDescriptor zy_257.desc).map (fun d => d.parameters.length + 1) = some 2 ∧ zv_isI 257 = true := ⟨(zv_tbk_8 63 rfl rfl), (zv_tbk_8 64 rfl rfl), (by decide +kernel), rfl⟩
abbrev zy_258 : MethodName := ⟨"BranchedTextModel", "leaves", "()I"⟩
theorem zd_258 : zv_inf 258 = some (zy_258, (prog_11_method_76_code, (3, (some .int)))) ∧ zv_vD zy_258 prog_11_method_76_code 3 (some .int) := ⟨rfl, (zv_tbk_8 73 rfl rfl), zyi_9, zyc_9, Nat.le_of_ble_eq_true rfl⟩
theorem ze_258 : Cond.instanceMethod zy_258 ∈ zv_tb ∧ Cond.selects zy_258.cls zy_258 zy_258 ∈ zv_tb ∧ (parseMethodDescriptor zy_258.desc).map (fun d => d.parameters.length + 1) = some 1 ∧ zv_isI 258 = true := ⟨(zv_tbk_8 72 rfl rfl), (zv_tb_sel (List.mem_of_getElem? (i := 102) rfl) rfl), (by decide +kernel), rfl⟩
abbrev zy_259 : MethodName := ⟨"BranchedTextModel", "groups", "()I"⟩
theorem zd_259 : zv_inf 259 = some (zy_259, (prog_11_method_77_code, (3, (some .int)))) ∧ zv_vD zy_259 prog_11_method_77_code 3 (some .int) := ⟨rfl, (zv_tbk_8 77 rfl rfl), zyi_9, zyc_9, Nat.le_of_ble_eq_true rfl⟩
theorem ze_259 : Cond.instanceMethod zy_259 ∈ zv_tb ∧ Cond.selects zy_259.cls zy_259 zy_259 ∈ zv_tb ∧ (parseMethodDescriptor zy_259.desc).map (fun d => d.parameters.length + 1) = some 1 ∧ zv_isI 259 = true := ⟨(zv_tbk_8 76 rfl rfl), (zv_tb_sel (List.mem_of_getElem? (i := 103) rfl) rfl), (by decide +kernel), rfl⟩
abbrev zy_260 : MethodName := ⟨"BranchedTextModel", "gone", "()I"⟩
theorem zd_260 : zv_inf 260 = some (zy_260, (prog_11_method_78_code, (3, (some .int)))) ∧ zv_vD zy_260 prog_11_method_78_code 3 (some .int) := ⟨rfl, (zv_tbk_8 81 rfl rfl), zyi_9, zyc_9, Nat.le_of_ble_eq_true rfl⟩
theorem ze_260 : Cond.instanceMethod zy_260 ∈ zv_tb ∧ Cond.selects zy_260.cls zy_260 zy_260 ∈ zv_tb ∧ (parseMethodDescriptor zy_260.desc).map (fun d => d.parameters.length + 1) = some 1 ∧ zv_isI 260 = true := ⟨(zv_tbk_8 80 rfl rfl), (zv_tb_sel (List.mem_of_getElem? (i := 104) rfl) rfl), (by decide +kernel), rfl⟩
abbrev zy_261 : MethodName := ⟨"BranchedTextModel", "many", "(I)I"⟩
theorem zd_261 : zv_inf 261 = some (zy_261, (prog_11_method_79_code, (2, (some .int)))) ∧ zv_vD zy_261 prog_11_method_79_code 2 (some .int) := ⟨rfl, (zv_tbk_8 69 rfl rfl), zyi_9, zyc_9, Nat.le_of_ble_eq_true rfl⟩
theorem ze_261 : Cond.instanceMethod zy_261 ∈ zv_tb ∧ Cond.selects zy_261.cls zy_261 zy_261 ∈ zv_tb ∧ (parseMethodDescriptor zy_261.desc).map (fun d => d.parameters.length + 1) = some 2 ∧ zv_isI 261 = true := ⟨(zv_tbk_8 67 rfl rfl), (zv_tbk_8 68 rfl rfl), (by decide +kernel), rfl⟩
abbrev zy_262 : MethodName := ⟨"BranchedTextModel", "letter", "(II)I"⟩
theorem zd_262 : zv_inf 262 = some (zy_262, (prog_11_method_80_code, (3, (some .int)))) ∧ zv_vD zy_262 prog_11_method_80_code 3 (some .int) := ⟨rfl, (zv_tbk_8 85 rfl rfl), zyi_9, zyc_9, Nat.le_of_ble_eq_true rfl⟩
theorem ze_262 : Cond.instanceMethod zy_262 ∈ zv_tb ∧ Cond.selects zy_262.cls zy_262 zy_262 ∈ zv_tb ∧ (parseMethodDescriptor zy_262.desc).map (fun d => d.parameters.length + 1) = some 3 ∧ zv_isI 262 = true := ⟨(zv_tbk_8 83 rfl rfl), (zv_tbk_8 84 rfl rfl), (by decide +kernel), rfl⟩
abbrev zy_263 : MethodName := ⟨"BranchedTextModel", "namesOf", "(I)I"⟩
theorem zd_263 : zv_inf 263 = some (zy_263, (prog_11_method_81_code, (4, (some .int)))) ∧ zv_vD zy_263 prog_11_method_81_code 4 (some .int) := ⟨rfl, (zv_tbk_8 61 rfl rfl), zyi_9, zyc_9, Nat.le_of_ble_eq_true rfl⟩
theorem ze_263 : Cond.instanceMethod zy_263 ∈ zv_tb ∧ Cond.selects zy_263.cls zy_263 zy_263 ∈ zv_tb ∧ (parseMethodDescriptor zy_263.desc).map (fun d => d.parameters.length + 1) = some 2 ∧ zv_isI 263 = true := ⟨(zv_tbk_8 60 rfl rfl), (zv_tb_sel (List.mem_of_getElem? (i := 101) rfl) rfl), (by decide +kernel), rfl⟩
abbrev zy_264 : MethodName := ⟨"BranchedTextModel", "state", "(II)I"⟩
theorem zd_264 : zv_inf 264 = some (zy_264, (prog_11_method_82_code, (3, (some .int)))) ∧ zv_vD zy_264 prog_11_method_82_code 3 (some .int) := ⟨rfl, (zv_tbk_8 93 rfl rfl), zyi_9, zyc_9, Nat.le_of_ble_eq_true rfl⟩
theorem ze_264 : Cond.instanceMethod zy_264 ∈ zv_tb ∧ Cond.selects zy_264.cls zy_264 zy_264 ∈ zv_tb ∧ (parseMethodDescriptor zy_264.desc).map (fun d => d.parameters.length + 1) = some 3 ∧ zv_isI 264 = true := ⟨(zv_tbk_8 91 rfl rfl), (zv_tbk_8 92 rfl rfl), (by decide +kernel), rfl⟩
abbrev zy_265 : MethodName := ⟨"BranchedTextModel", "child", "(II)I"⟩
theorem zd_265 : zv_inf 265 = some (zy_265, (prog_11_method_83_code, (4, (some .int)))) ∧ zv_vD zy_265 prog_11_method_83_code 4 (some .int) := ⟨rfl, (zv_tbk_8 97 rfl rfl), zyi_9, zyc_9, Nat.le_of_ble_eq_true rfl⟩
theorem ze_265 : Cond.instanceMethod zy_265 ∈ zv_tb ∧ Cond.selects zy_265.cls zy_265 zy_265 ∈ zv_tb ∧ (parseMethodDescriptor zy_265.desc).map (fun d => d.parameters.length + 1) = some 3 ∧ zv_isI 265 = true := ⟨(zv_tbk_8 95 rfl rfl), (zv_tbk_8 96 rfl rfl), (by decide +kernel), rfl⟩
abbrev zy_266 : MethodName := ⟨"BranchedTextModel", "force", "(II)I"⟩
theorem zd_266 : zv_inf 266 = some (zy_266, (prog_11_method_84_code, (3, (some .int)))) ∧ zv_vD zy_266 prog_11_method_84_code 3 (some .int) := ⟨rfl, (zv_tbk_8 101 rfl rfl), zyi_9, zyc_9, Nat.le_of_ble_eq_true rfl⟩
theorem ze_266 : Cond.instanceMethod zy_266 ∈ zv_tb ∧ Cond.selects zy_266.cls zy_266 zy_266 ∈ zv_tb ∧ (parseMethodDescriptor zy_266.desc).map (fun d => d.parameters.length + 1) = some 3 ∧ zv_isI 266 = true := ⟨(zv_tbk_8 99 rfl rfl), (zv_tbk_8 100 rfl rfl), (by decide +kernel), rfl⟩
abbrev zy_267 : MethodName := ⟨"BranchedTextModel", "blame", "(II)I"⟩
theorem zd_267 : zv_inf 267 = some (zy_267, (prog_11_method_85_code, (4, (some .int)))) ∧ zv_vD zy_267 prog_11_method_85_code 4 (some .int) := ⟨rfl, (zv_tbk_8 105 rfl rfl), zyi_9, zyc_9, Nat.le_of_ble_eq_true rfl⟩
theorem ze_267 : Cond.instanceMethod zy_267 ∈ zv_tb ∧ Cond.selects zy_267.cls zy_267 zy_267 ∈ zv_tb ∧ (parseMethodDescriptor zy_267.desc).map (fun d => d.parameters.length + 1) = some 3 ∧ zv_isI 267 = true := ⟨(zv_tbk_8 103 rfl rfl), (zv_tbk_8 104 rfl rfl), (by decide +kernel), rfl⟩
abbrev zy_268 : MethodName := ⟨"BranchedTextModel", "cutsOf", "(IIZ)I"⟩
theorem zd_268 : zv_inf 268 = some (zy_268, (prog_11_method_86_code, (8, (some .int)))) ∧ zv_vD zy_268 prog_11_method_86_code 8 (some .int) := ⟨rfl, (zv_tbk_8 113 rfl rfl), zyi_9, zyc_9, Nat.le_of_ble_eq_true rfl⟩
theorem ze_268 : Cond.instanceMethod zy_268 ∈ zv_tb ∧ Cond.selects zy_268.cls zy_268 zy_268 ∈ zv_tb ∧ (parseMethodDescriptor zy_268.desc).map (fun d => d.parameters.length + 1) = some 4 ∧ zv_isI 268 = true := ⟨(zv_tbk_8 112 rfl rfl), (zv_tb_sel (List.mem_of_getElem? (i := 106) rfl) rfl), (by decide +kernel), rfl⟩
abbrev zy_269 : MethodName := ⟨"BranchedTextModel", "row", "(II)I"⟩
theorem zd_269 : zv_inf 269 = some (zy_269, (prog_11_method_87_code, (3, (some .int)))) ∧ zv_vD zy_269 prog_11_method_87_code 3 (some .int) := ⟨rfl, (zv_tbk_8 109 rfl rfl), zyi_9, zyc_9, Nat.le_of_ble_eq_true rfl⟩
theorem ze_269 : Cond.instanceMethod zy_269 ∈ zv_tb ∧ Cond.selects zy_269.cls zy_269 zy_269 ∈ zv_tb ∧ (parseMethodDescriptor zy_269.desc).map (fun d => d.parameters.length + 1) = some 3 ∧ zv_isI 269 = true := ⟨(zv_tbk_8 107 rfl rfl), (zv_tbk_8 108 rfl rfl), (by decide +kernel), rfl⟩
abbrev zy_270 : MethodName := ⟨"BranchedTextModel", "visit", "(II)I"⟩
theorem zd_270 : zv_inf 270 = some (zy_270, (prog_11_method_88_code, (3, (some .int)))) ∧ zv_vD zy_270 prog_11_method_88_code 3 (some .int) := ⟨rfl, (zv_tbk_8 117 rfl rfl), zyi_9, zyc_9, Nat.le_of_ble_eq_true rfl⟩
theorem ze_270 : Cond.instanceMethod zy_270 ∈ zv_tb ∧ Cond.selects zy_270.cls zy_270 zy_270 ∈ zv_tb ∧ (parseMethodDescriptor zy_270.desc).map (fun d => d.parameters.length + 1) = some 3 ∧ zv_isI 270 = true := ⟨(zv_tbk_8 115 rfl rfl), (zv_tbk_8 116 rfl rfl), (by decide +kernel), rfl⟩
abbrev zy_271 : MethodName := ⟨"BranchedTextModel", "named", "()I"⟩
theorem zd_271 : zv_inf 271 = some (zy_271, (prog_11_method_89_code, (2, (some .int)))) ∧ zv_vD zy_271 prog_11_method_89_code 2 (some .int) := ⟨rfl, (zv_tbk_8 121 rfl rfl), zyi_9, zyc_9, Nat.le_of_ble_eq_true rfl⟩
theorem ze_271 : Cond.instanceMethod zy_271 ∈ zv_tb ∧ Cond.selects zy_271.cls zy_271 zy_271 ∈ zv_tb ∧ (parseMethodDescriptor zy_271.desc).map (fun d => d.parameters.length + 1) = some 1 ∧ zv_isI 271 = true := ⟨(zv_tbk_8 119 rfl rfl), (zv_tbk_8 120 rfl rfl), (by decide +kernel), rfl⟩
abbrev zy_272 : MethodName := ⟨"BranchedTextModel", "leans", "(II)I"⟩
theorem zd_272 : zv_inf 272 = some (zy_272, (prog_11_method_90_code, (3, (some .int)))) ∧ zv_vD zy_272 prog_11_method_90_code 3 (some .int) := ⟨rfl, (zv_tbk_8 125 rfl rfl), zyi_9, zyc_9, Nat.le_of_ble_eq_true rfl⟩
theorem ze_272 : Cond.instanceMethod zy_272 ∈ zv_tb ∧ Cond.selects zy_272.cls zy_272 zy_272 ∈ zv_tb ∧ (parseMethodDescriptor zy_272.desc).map (fun d => d.parameters.length + 1) = some 3 ∧ zv_isI 272 = true := ⟨(zv_tbk_8 123 rfl rfl), (zv_tbk_8 124 rfl rfl), (by decide +kernel), rfl⟩
abbrev zy_273 : MethodName := ⟨"BranchedTextModel", "put", "(I)I"⟩
theorem zd_273 : zv_inf 273 = some (zy_273, (prog_11_method_91_code, (2, (some .int)))) ∧ zv_vD zy_273 prog_11_method_91_code 2 (some .int) := ⟨rfl, (zv_tbk_8 129 rfl rfl), zyi_9, zyc_9, Nat.le_of_ble_eq_true rfl⟩
theorem ze_273 : Cond.instanceMethod zy_273 ∈ zv_tb ∧ Cond.selects zy_273.cls zy_273 zy_273 ∈ zv_tb ∧ (parseMethodDescriptor zy_273.desc).map (fun d => d.parameters.length + 1) = some 2 ∧ zv_isI 273 = true := ⟨(zv_tbk_8 127 rfl rfl), (zv_tbk_8 128 rfl rfl), (by decide +kernel), rfl⟩
abbrev zy_274 : MethodName := ⟨"BranchedTextModel", "cut", "(II)I"⟩
theorem zd_274 : zv_inf 274 = some (zy_274, (prog_11_method_92_code, (3, (some .int)))) ∧ zv_vD zy_274 prog_11_method_92_code 3 (some .int) := ⟨rfl, (zv_tbk_8 137 rfl rfl), zyi_9, zyc_9, Nat.le_of_ble_eq_true rfl⟩
theorem ze_274 : Cond.instanceMethod zy_274 ∈ zv_tb ∧ Cond.selects zy_274.cls zy_274 zy_274 ∈ zv_tb ∧ (parseMethodDescriptor zy_274.desc).map (fun d => d.parameters.length + 1) = some 3 ∧ zv_isI 274 = true := ⟨(zv_tbk_8 135 rfl rfl), (zv_tbk_8 136 rfl rfl), (by decide +kernel), rfl⟩
abbrev zy_275 : MethodName := ⟨"BranchedTextModel", "wait", "(I)I"⟩
theorem zd_275 : zv_inf 275 = some (zy_275, (prog_11_method_93_code, (2, (some .int)))) ∧ zv_vD zy_275 prog_11_method_93_code 2 (some .int) := ⟨rfl, (zv_tbk_8 141 rfl rfl), zyi_9, zyc_9, Nat.le_of_ble_eq_true rfl⟩
theorem ze_275 : Cond.instanceMethod zy_275 ∈ zv_tb ∧ Cond.selects zy_275.cls zy_275 zy_275 ∈ zv_tb ∧ (parseMethodDescriptor zy_275.desc).map (fun d => d.parameters.length + 1) = some 2 ∧ zv_isI 275 = true := ⟨(zv_tbk_8 139 rfl rfl), (zv_tbk_8 140 rfl rfl), (by decide +kernel), rfl⟩
abbrev zy_276 : MethodName := ⟨"BranchedTextModel", "undo", "()I"⟩
theorem zd_276 : zv_inf 276 = some (zy_276, (prog_11_method_94_code, (1, (some .int)))) ∧ zv_vD zy_276 prog_11_method_94_code 1 (some .int) := ⟨rfl, (zv_tbk_8 145 rfl rfl), zyi_9, zyc_9, Nat.le_of_ble_eq_true rfl⟩
theorem ze_276 : Cond.instanceMethod zy_276 ∈ zv_tb ∧ Cond.selects zy_276.cls zy_276 zy_276 ∈ zv_tb ∧ (parseMethodDescriptor zy_276.desc).map (fun d => d.parameters.length + 1) = some 1 ∧ zv_isI 276 = true := ⟨(zv_tbk_8 143 rfl rfl), (zv_tbk_8 144 rfl rfl), (by decide +kernel), rfl⟩
abbrev zy_277 : MethodName := ⟨"BranchedTextModel", "redo", "()I"⟩
theorem zd_277 : zv_inf 277 = some (zy_277, (prog_11_method_95_code, (1, (some .int)))) ∧ zv_vD zy_277 prog_11_method_95_code 1 (some .int) := ⟨rfl, (zv_tbk_8 149 rfl rfl), zyi_9, zyc_9, Nat.le_of_ble_eq_true rfl⟩
theorem ze_277 : Cond.instanceMethod zy_277 ∈ zv_tb ∧ Cond.selects zy_277.cls zy_277 zy_277 ∈ zv_tb ∧ (parseMethodDescriptor zy_277.desc).map (fun d => d.parameters.length + 1) = some 1 ∧ zv_isI 277 = true := ⟨(zv_tbk_8 147 rfl rfl), (zv_tbk_8 148 rfl rfl), (by decide +kernel), rfl⟩
abbrev zy_278 : MethodName := ⟨"BranchedTextModel", "go", "(I)I"⟩
theorem zd_278 : zv_inf 278 = some (zy_278, (prog_11_method_96_code, (2, (some .int)))) ∧ zv_vD zy_278 prog_11_method_96_code 2 (some .int) := ⟨rfl, (zv_tbk_8 153 rfl rfl), zyi_9, zyc_9, Nat.le_of_ble_eq_true rfl⟩
theorem ze_278 : Cond.instanceMethod zy_278 ∈ zv_tb ∧ Cond.selects zy_278.cls zy_278 zy_278 ∈ zv_tb ∧ (parseMethodDescriptor zy_278.desc).map (fun d => d.parameters.length + 1) = some 2 ∧ zv_isI 278 = true := ⟨(zv_tbk_8 151 rfl rfl), (zv_tbk_8 152 rfl rfl), (by decide +kernel), rfl⟩
abbrev zy_279 : MethodName := ⟨"BranchedTextModel", "name", "()I"⟩
theorem zd_279 : zv_inf 279 = some (zy_279, (prog_11_method_97_code, (1, (some .int)))) ∧ zv_vD zy_279 prog_11_method_97_code 1 (some .int) := ⟨rfl, (zv_tbk_8 157 rfl rfl), zyi_9, zyc_9, Nat.le_of_ble_eq_true rfl⟩
theorem ze_279 : Cond.instanceMethod zy_279 ∈ zv_tb ∧ Cond.selects zy_279.cls zy_279 zy_279 ∈ zv_tb ∧ (parseMethodDescriptor zy_279.desc).map (fun d => d.parameters.length + 1) = some 1 ∧ zv_isI 279 = true := ⟨(zv_tbk_8 155 rfl rfl), (zv_tbk_8 156 rfl rfl), (by decide +kernel), rfl⟩
abbrev zy_280 : MethodName := ⟨"BranchedTextModel", "unname", "()I"⟩
theorem zd_280 : zv_inf 280 = some (zy_280, (prog_11_method_98_code, (3, (some .int)))) ∧ zv_vD zy_280 prog_11_method_98_code 3 (some .int) := ⟨rfl, (zv_tbk_8 161 rfl rfl), zyi_9, zyc_9, Nat.le_of_ble_eq_true rfl⟩
theorem ze_280 : Cond.instanceMethod zy_280 ∈ zv_tb ∧ Cond.selects zy_280.cls zy_280 zy_280 ∈ zv_tb ∧ (parseMethodDescriptor zy_280.desc).map (fun d => d.parameters.length + 1) = some 1 ∧ zv_isI 280 = true := ⟨(zv_tbk_8 159 rfl rfl), (zv_tbk_8 160 rfl rfl), (by decide +kernel), rfl⟩
abbrev zy_281 : MethodName := ⟨"BranchedTextModel", "withdraw", "(I)I"⟩
theorem zd_281 : zv_inf 281 = some (zy_281, (prog_11_method_99_code, (2, (some .int)))) ∧ zv_vD zy_281 prog_11_method_99_code 2 (some .int) := ⟨rfl, (zv_tbk_8 165 rfl rfl), zyi_9, zyc_9, Nat.le_of_ble_eq_true rfl⟩
theorem ze_281 : Cond.instanceMethod zy_281 ∈ zv_tb ∧ Cond.selects zy_281.cls zy_281 zy_281 ∈ zv_tb ∧ (parseMethodDescriptor zy_281.desc).map (fun d => d.parameters.length + 1) = some 2 ∧ zv_isI 281 = true := ⟨(zv_tbk_8 163 rfl rfl), (zv_tbk_8 164 rfl rfl), (by decide +kernel), rfl⟩
abbrev zy_282 : MethodName := ⟨"BranchedTextModel", "restore", "(I)I"⟩
theorem zd_282 : zv_inf 282 = some (zy_282, (prog_11_method_100_code, (2, (some .int)))) ∧ zv_vD zy_282 prog_11_method_100_code 2 (some .int) := ⟨rfl, (zv_tbk_8 169 rfl rfl), zyi_9, zyc_9, Nat.le_of_ble_eq_true rfl⟩
theorem ze_282 : Cond.instanceMethod zy_282 ∈ zv_tb ∧ Cond.selects zy_282.cls zy_282 zy_282 ∈ zv_tb ∧ (parseMethodDescriptor zy_282.desc).map (fun d => d.parameters.length + 1) = some 2 ∧ zv_isI 282 = true := ⟨(zv_tbk_8 167 rfl rfl), (zv_tbk_8 168 rfl rfl), (by decide +kernel), rfl⟩
abbrev zy_283 : MethodName := ⟨"BranchedTextModel", "firstOut", "()I"⟩
theorem zd_283 : zv_inf 283 = some (zy_283, (prog_11_method_101_code, (3, (some .int)))) ∧ zv_vD zy_283 prog_11_method_101_code 3 (some .int) := ⟨rfl, (zv_tbk_8 53 rfl rfl), zyi_9, zyc_9, Nat.le_of_ble_eq_true rfl⟩
theorem ze_283 : Cond.instanceMethod zy_283 ∈ zv_tb ∧ Cond.selects zy_283.cls zy_283 zy_283 ∈ zv_tb ∧ (parseMethodDescriptor zy_283.desc).map (fun d => d.parameters.length + 1) = some 1 ∧ zv_isI 283 = true := ⟨(zv_tbk_8 52 rfl rfl), (zv_tb_sel (List.mem_of_getElem? (i := 99) rfl) rfl), (by decide +kernel), rfl⟩
abbrev zy_284 : MethodName := ⟨"BranchedTextModel", "carry", "(I)I"⟩
theorem zd_284 : zv_inf 284 = some (zy_284, (prog_11_method_102_code, (2, (some .int)))) ∧ zv_vD zy_284 prog_11_method_102_code 2 (some .int) := ⟨rfl, (zv_tbk_8 173 rfl rfl), zyi_9, zyc_9, Nat.le_of_ble_eq_true rfl⟩
theorem ze_284 : Cond.instanceMethod zy_284 ∈ zv_tb ∧ Cond.selects zy_284.cls zy_284 zy_284 ∈ zv_tb ∧ (parseMethodDescriptor zy_284.desc).map (fun d => d.parameters.length + 1) = some 2 ∧ zv_isI 284 = true := ⟨(zv_tbk_8 171 rfl rfl), (zv_tbk_8 172 rfl rfl), (by decide +kernel), rfl⟩
abbrev zy_285 : MethodName := ⟨"BranchedTextModel", "merge", "(I)I"⟩
theorem zd_285 : zv_inf 285 = some (zy_285, (prog_11_method_103_code, (2, (some .int)))) ∧ zv_vD zy_285 prog_11_method_103_code 2 (some .int) := ⟨rfl, (zv_tbk_8 177 rfl rfl), zyi_9, zyc_9, Nat.le_of_ble_eq_true rfl⟩
theorem ze_285 : Cond.instanceMethod zy_285 ∈ zv_tb ∧ Cond.selects zy_285.cls zy_285 zy_285 ∈ zv_tb ∧ (parseMethodDescriptor zy_285.desc).map (fun d => d.parameters.length + 1) = some 2 ∧ zv_isI 285 = true := ⟨(zv_tbk_8 175 rfl rfl), (zv_tbk_8 176 rfl rfl), (by decide +kernel), rfl⟩
abbrev zy_286 : MethodName := ⟨"BranchedTextModel", "prune", "(I)I"⟩
theorem zd_286 : zv_inf 286 = some (zy_286, (prog_11_method_104_code, (2, (some .int)))) ∧ zv_vD zy_286 prog_11_method_104_code 2 (some .int) := ⟨rfl, (zv_tbk_8 181 rfl rfl), zyi_9, zyc_9, Nat.le_of_ble_eq_true rfl⟩
theorem ze_286 : Cond.instanceMethod zy_286 ∈ zv_tb ∧ Cond.selects zy_286.cls zy_286 zy_286 ∈ zv_tb ∧ (parseMethodDescriptor zy_286.desc).map (fun d => d.parameters.length + 1) = some 2 ∧ zv_isI 286 = true := ⟨(zv_tbk_8 179 rfl rfl), (zv_tbk_8 180 rfl rfl), (by decide +kernel), rfl⟩
abbrev zy_287 : MethodName := ⟨"BranchedTextModel", "pruneNow", "(I)I"⟩
theorem zd_287 : zv_inf 287 = some (zy_287, (prog_11_method_105_code, (5, (some .int)))) ∧ zv_vD zy_287 prog_11_method_105_code 5 (some .int) := ⟨rfl, (zv_tbk_8 49 rfl rfl), zyi_9, zyc_9, Nat.le_of_ble_eq_true rfl⟩
theorem ze_287 : Cond.instanceMethod zy_287 ∈ zv_tb ∧ Cond.selects zy_287.cls zy_287 zy_287 ∈ zv_tb ∧ (parseMethodDescriptor zy_287.desc).map (fun d => d.parameters.length + 1) = some 2 ∧ zv_isI 287 = true := ⟨(zv_tbk_8 48 rfl rfl), (zv_tb_sel (List.mem_of_getElem? (i := 98) rfl) rfl), (by decide +kernel), rfl⟩
abbrev zy_288 : MethodName := ⟨"BranchedTextModel", "common", "(II)I"⟩
theorem zd_288 : zv_inf 288 = some (zy_288, (prog_11_method_106_code, (3, (some .int)))) ∧ zv_vD zy_288 prog_11_method_106_code 3 (some .int) := ⟨rfl, (zv_tbk_8 185 rfl rfl), zyi_9, zyc_9, Nat.le_of_ble_eq_true rfl⟩
theorem ze_288 : Cond.instanceMethod zy_288 ∈ zv_tb ∧ Cond.selects zy_288.cls zy_288 zy_288 ∈ zv_tb ∧ (parseMethodDescriptor zy_288.desc).map (fun d => d.parameters.length + 1) = some 3 ∧ zv_isI 288 = true := ⟨(zv_tbk_8 183 rfl rfl), (zv_tbk_8 184 rfl rfl), (by decide +kernel), rfl⟩
abbrev zy_289 : MethodName := ⟨"BranchedTextModel", "way", "(III)I"⟩
theorem zd_289 : zv_inf 289 = some (zy_289, (prog_11_method_107_code, (8, (some .int)))) ∧ zv_vD zy_289 prog_11_method_107_code 8 (some .int) := ⟨rfl, (zv_tbk_8 189 rfl rfl), zyi_9, zyc_9, Nat.le_of_ble_eq_true rfl⟩
theorem ze_289 : Cond.instanceMethod zy_289 ∈ zv_tb ∧ Cond.selects zy_289.cls zy_289 zy_289 ∈ zv_tb ∧ (parseMethodDescriptor zy_289.desc).map (fun d => d.parameters.length + 1) = some 4 ∧ zv_isI 289 = true := ⟨(zv_tbk_8 187 rfl rfl), (zv_tbk_8 188 rfl rfl), (by decide +kernel), rfl⟩
abbrev zy_290 : MethodName := ⟨"BranchedTextModel", "keysOf", "(I)I"⟩
theorem zd_290 : zv_inf 290 = some (zy_290, (prog_11_method_108_code, (4, (some .int)))) ∧ zv_vD zy_290 prog_11_method_108_code 4 (some .int) := ⟨rfl, (zv_tbk_8 209 rfl rfl), zyi_9, zyc_9, Nat.le_of_ble_eq_true rfl⟩
theorem ze_290 : Cond.instanceMethod zy_290 ∈ zv_tb ∧ Cond.selects zy_290.cls zy_290 zy_290 ∈ zv_tb ∧ (parseMethodDescriptor zy_290.desc).map (fun d => d.parameters.length + 1) = some 2 ∧ zv_isI 290 = true := ⟨(zv_tbk_8 208 rfl rfl), (zv_tb_sel (List.mem_of_getElem? (i := 111) rfl) rfl), (by decide +kernel), rfl⟩
abbrev zy_291 : MethodName := ⟨"BranchedTextModel", "keptOf", "(II)I"⟩
theorem zd_291 : zv_inf 291 = some (zy_291, (prog_11_method_109_code, (7, (some .int)))) ∧ zv_vD zy_291 prog_11_method_109_code 7 (some .int) := ⟨rfl, (zv_tbk_8 205 rfl rfl), zyi_9, zyc_9, Nat.le_of_ble_eq_true rfl⟩
theorem ze_291 : Cond.instanceMethod zy_291 ∈ zv_tb ∧ Cond.selects zy_291.cls zy_291 zy_291 ∈ zv_tb ∧ (parseMethodDescriptor zy_291.desc).map (fun d => d.parameters.length + 1) = some 3 ∧ zv_isI 291 = true := ⟨(zv_tbk_8 204 rfl rfl), (zv_tb_sel (List.mem_of_getElem? (i := 110) rfl) rfl), (by decide +kernel), rfl⟩
abbrev zy_292 : MethodName := ⟨"BranchedTextModel", "differ", "(II)I"⟩
theorem zd_292 : zv_inf 292 = some (zy_292, (prog_11_method_110_code, (6, (some .int)))) ∧ zv_vD zy_292 prog_11_method_110_code 6 (some .int) := ⟨rfl, (zv_tbk_8 197 rfl rfl), zyi_9, zyc_9, Nat.le_of_ble_eq_true rfl⟩
theorem ze_292 : Cond.instanceMethod zy_292 ∈ zv_tb ∧ Cond.selects zy_292.cls zy_292 zy_292 ∈ zv_tb ∧ (parseMethodDescriptor zy_292.desc).map (fun d => d.parameters.length + 1) = some 3 ∧ zv_isI 292 = true := ⟨(zv_tbk_8 196 rfl rfl), (zv_tb_sel (List.mem_of_getElem? (i := 108) rfl) rfl), (by decide +kernel), rfl⟩
abbrev zy_293 : MethodName := ⟨"BranchedTextModel", "between", "(III)I"⟩
theorem zd_293 : zv_inf 293 = some (zy_293, (prog_11_method_111_code, (5, (some .int)))) ∧ zv_vD zy_293 prog_11_method_111_code 5 (some .int) := ⟨rfl, (zv_tbk_8 193 rfl rfl), zyi_9, zyc_9, Nat.le_of_ble_eq_true rfl⟩
theorem ze_293 : Cond.instanceMethod zy_293 ∈ zv_tb ∧ Cond.selects zy_293.cls zy_293 zy_293 ∈ zv_tb ∧ (parseMethodDescriptor zy_293.desc).map (fun d => d.parameters.length + 1) = some 4 ∧ zv_isI 293 = true := ⟨(zv_tbk_8 191 rfl rfl), (zv_tbk_8 192 rfl rfl), (by decide +kernel), rfl⟩
abbrev zy_294 : MethodName := ⟨"BranchedTextModel", "least", "(II)I"⟩
theorem zd_294 : zv_inf 294 = some (zy_294, (prog_11_method_112_code, (11, (some .int)))) ∧ zv_vD zy_294 prog_11_method_112_code 11 (some .int) := ⟨rfl, (zv_tbk_8 213 rfl rfl), zyi_9, zyc_9, Nat.le_of_ble_eq_true rfl⟩
theorem ze_294 : Cond.instanceMethod zy_294 ∈ zv_tb ∧ Cond.selects zy_294.cls zy_294 zy_294 ∈ zv_tb ∧ (parseMethodDescriptor zy_294.desc).map (fun d => d.parameters.length + 1) = some 3 ∧ zv_isI 294 = true := ⟨(zv_tbk_8 211 rfl rfl), (zv_tbk_8 212 rfl rfl), (by decide +kernel), rfl⟩
abbrev zy_295 : MethodName := ⟨"BranchedTextModel", "merges", "(II)I"⟩
theorem zd_295 : zv_inf 295 = some (zy_295, (prog_11_method_113_code, (5, (some .int)))) ∧ zv_vD zy_295 prog_11_method_113_code 5 (some .int) := ⟨rfl, (zv_tbk_8 217 rfl rfl), zyi_9, zyc_9, Nat.le_of_ble_eq_true rfl⟩
theorem ze_295 : Cond.instanceMethod zy_295 ∈ zv_tb ∧ Cond.selects zy_295.cls zy_295 zy_295 ∈ zv_tb ∧ (parseMethodDescriptor zy_295.desc).map (fun d => d.parameters.length + 1) = some 3 ∧ zv_isI 295 = true := ⟨(zv_tbk_8 215 rfl rfl), (zv_tbk_8 216 rfl rfl), (by decide +kernel), rfl⟩
abbrev zy_296 : MethodName := ⟨"BranchedTextModel", "tells", "(I)V"⟩
theorem zd_296 : zv_inf 296 = some (zy_296, (prog_11_method_114_code, (2, none))) ∧ zv_vD zy_296 prog_11_method_114_code 2 none := ⟨rfl, (zv_tbk_8 225 rfl rfl), zyi_9, zyc_9, Nat.le_of_ble_eq_true rfl⟩
theorem ze_296 : Cond.instanceMethod zy_296 ∈ zv_tb ∧ Cond.selects zy_296.cls zy_296 zy_296 ∈ zv_tb ∧ (parseMethodDescriptor zy_296.desc).map (fun d => d.parameters.length + 1) = some 2 ∧ zv_isI 296 = true := ⟨(zv_tbk_8 224 rfl rfl), (zv_tb_sel (List.mem_of_getElem? (i := 112) rfl) rfl), (by decide +kernel), rfl⟩
abbrev zy_297 : MethodName := ⟨"BranchedTextModel", "tellsNumber", "(I)V"⟩
theorem zd_297 : zv_inf 297 = some (zy_297, (prog_11_method_115_code, (2, none))) ∧ zv_vD zy_297 prog_11_method_115_code 2 none := ⟨rfl, (zv_tbk_8 229 rfl rfl), zyi_9, zyc_9, Nat.le_of_ble_eq_true rfl⟩
theorem ze_297 : Cond.instanceMethod zy_297 ∈ zv_tb ∧ Cond.selects zy_297.cls zy_297 zy_297 ∈ zv_tb ∧ (parseMethodDescriptor zy_297.desc).map (fun d => d.parameters.length + 1) = some 2 ∧ zv_isI 297 = true := ⟨(zv_tbk_8 228 rfl rfl), (zv_tb_sel (List.mem_of_getElem? (i := 113) rfl) rfl), (by decide +kernel), rfl⟩
abbrev zy_298 : MethodName := ⟨"BranchedTextModel", "tellsNames", "()V"⟩
theorem zd_298 : zv_inf 298 = some (zy_298, (prog_11_method_116_code, (4, none))) ∧ zv_vD zy_298 prog_11_method_116_code 4 none := ⟨rfl, (zv_tbk_8 233 rfl rfl), zyi_9, zyc_9, Nat.le_of_ble_eq_true rfl⟩
theorem ze_298 : Cond.instanceMethod zy_298 ∈ zv_tb ∧ Cond.selects zy_298.cls zy_298 zy_298 ∈ zv_tb ∧ (parseMethodDescriptor zy_298.desc).map (fun d => d.parameters.length + 1) = some 1 ∧ zv_isI 298 = true := ⟨(zv_tbk_8 232 rfl rfl), (zv_tb_sel (List.mem_of_getElem? (i := 114) rfl) rfl), (by decide +kernel), rfl⟩
abbrev zy_299 : MethodName := ⟨"BranchedTextModel", "tell", "(I)I"⟩
theorem zd_299 : zv_inf 299 = some (zy_299, (prog_11_method_117_code, (3, (some .int)))) ∧ zv_vD zy_299 prog_11_method_117_code 3 (some .int) := ⟨rfl, (zv_tbk_8 221 rfl rfl), zyi_9, zyc_9, Nat.le_of_ble_eq_true rfl⟩
theorem ze_299 : Cond.instanceMethod zy_299 ∈ zv_tb ∧ Cond.selects zy_299.cls zy_299 zy_299 ∈ zv_tb ∧ (parseMethodDescriptor zy_299.desc).map (fun d => d.parameters.length + 1) = some 2 ∧ zv_isI 299 = true := ⟨(zv_tbk_8 219 rfl rfl), (zv_tbk_8 220 rfl rfl), (by decide +kernel), rfl⟩
abbrev zy_300 : MethodName := ⟨"BranchedTextModel", "out", "(I)I"⟩
theorem zd_300 : zv_inf 300 = some (zy_300, (prog_11_method_118_code, (2, (some .int)))) ∧ zv_vD zy_300 prog_11_method_118_code 2 (some .int) := ⟨rfl, (zv_tbk_8 237 rfl rfl), zyi_9, zyc_9, Nat.le_of_ble_eq_true rfl⟩
theorem ze_300 : Cond.instanceMethod zy_300 ∈ zv_tb ∧ Cond.selects zy_300.cls zy_300 zy_300 ∈ zv_tb ∧ (parseMethodDescriptor zy_300.desc).map (fun d => d.parameters.length + 1) = some 2 ∧ zv_isI 300 = true := ⟨(zv_tbk_8 235 rfl rfl), (zv_tbk_8 236 rfl rfl), (by decide +kernel), rfl⟩
abbrev zy_301 : MethodName := ⟨"BranchedTextModel", "leaning", "(II)I"⟩
theorem zd_301 : zv_inf 301 = some (zy_301, (prog_11_method_119_code, (5, (some .int)))) ∧ zv_vD zy_301 prog_11_method_119_code 5 (some .int) := ⟨rfl, (zv_tbk_9 1 rfl rfl), zyi_9, zyc_9, Nat.le_of_ble_eq_true rfl⟩
theorem ze_301 : Cond.instanceMethod zy_301 ∈ zv_tb ∧ Cond.selects zy_301.cls zy_301 zy_301 ∈ zv_tb ∧ (parseMethodDescriptor zy_301.desc).map (fun d => d.parameters.length + 1) = some 3 ∧ zv_isI 301 = true := ⟨(zv_tbk_8 239 rfl rfl), (zv_tbk_9 0 rfl rfl), (by decide +kernel), rfl⟩
abbrev zy_302 : MethodName := ⟨"BranchedTextModel", "placeIn", "(I)I"⟩
theorem zd_302 : zv_inf 302 = some (zy_302, (prog_11_method_120_code, (6, (some .int)))) ∧ zv_vD zy_302 prog_11_method_120_code 6 (some .int) := ⟨rfl, (zv_tbk_9 9 rfl rfl), zyi_9, zyc_9, Nat.le_of_ble_eq_true rfl⟩
theorem ze_302 : Cond.instanceMethod zy_302 ∈ zv_tb ∧ Cond.selects zy_302.cls zy_302 zy_302 ∈ zv_tb ∧ (parseMethodDescriptor zy_302.desc).map (fun d => d.parameters.length + 1) = some 2 ∧ zv_isI 302 = true := ⟨(zv_tbk_9 8 rfl rfl), (zv_tb_sel (List.mem_of_getElem? (i := 115) rfl) rfl), (by decide +kernel), rfl⟩
abbrev zy_303 : MethodName := ⟨"BranchedTextModel", "find", "(I)I"⟩
theorem zd_303 : zv_inf 303 = some (zy_303, (prog_11_method_121_code, (5, (some .int)))) ∧ zv_vD zy_303 prog_11_method_121_code 5 (some .int) := ⟨rfl, (zv_tbk_9 5 rfl rfl), zyi_9, zyc_9, Nat.le_of_ble_eq_true rfl⟩
theorem ze_303 : Cond.instanceMethod zy_303 ∈ zv_tb ∧ Cond.selects zy_303.cls zy_303 zy_303 ∈ zv_tb ∧ (parseMethodDescriptor zy_303.desc).map (fun d => d.parameters.length + 1) = some 2 ∧ zv_isI 303 = true := ⟨(zv_tbk_9 3 rfl rfl), (zv_tbk_9 4 rfl rfl), (by decide +kernel), rfl⟩
abbrev zy_304 : MethodName := ⟨"BranchedTextModel", "first", "()I"⟩
theorem zd_304 : zv_inf 304 = some (zy_304, (prog_11_method_122_code, (2, (some .int)))) ∧ zv_vD zy_304 prog_11_method_122_code 2 (some .int) := ⟨rfl, (zv_tbk_9 13 rfl rfl), zyi_9, zyc_9, Nat.le_of_ble_eq_true rfl⟩
theorem ze_304 : Cond.instanceMethod zy_304 ∈ zv_tb ∧ Cond.selects zy_304.cls zy_304 zy_304 ∈ zv_tb ∧ (parseMethodDescriptor zy_304.desc).map (fun d => d.parameters.length + 1) = some 1 ∧ zv_isI 304 = true := ⟨(zv_tbk_9 11 rfl rfl), (zv_tbk_9 12 rfl rfl), (by decide +kernel), rfl⟩
abbrev zy_305 : MethodName := ⟨"BranchedTextModel", "twin", "(I)I"⟩
theorem zd_305 : zv_inf 305 = some (zy_305, (prog_11_method_123_code, (3, (some .int)))) ∧ zv_vD zy_305 prog_11_method_123_code 3 (some .int) := ⟨rfl, (zv_tbk_9 17 rfl rfl), zyi_9, zyc_9, Nat.le_of_ble_eq_true rfl⟩
theorem ze_305 : Cond.instanceMethod zy_305 ∈ zv_tb ∧ Cond.selects zy_305.cls zy_305 zy_305 ∈ zv_tb ∧ (parseMethodDescriptor zy_305.desc).map (fun d => d.parameters.length + 1) = some 2 ∧ zv_isI 305 = true := ⟨(zv_tbk_9 15 rfl rfl), (zv_tbk_9 16 rfl rfl), (by decide +kernel), rfl⟩
abbrev zy_306 : MethodName := ⟨"BranchedTextModel", "back", "(I)I"⟩
theorem zd_306 : zv_inf 306 = some (zy_306, (prog_11_method_124_code, (4, (some .int)))) ∧ zv_vD zy_306 prog_11_method_124_code 4 (some .int) := ⟨rfl, (zv_tbk_9 21 rfl rfl), zyi_9, zyc_9, Nat.le_of_ble_eq_true rfl⟩
theorem ze_306 : Cond.instanceMethod zy_306 ∈ zv_tb ∧ Cond.selects zy_306.cls zy_306 zy_306 ∈ zv_tb ∧ (parseMethodDescriptor zy_306.desc).map (fun d => d.parameters.length + 1) = some 2 ∧ zv_isI 306 = true := ⟨(zv_tbk_9 19 rfl rfl), (zv_tbk_9 20 rfl rfl), (by decide +kernel), rfl⟩
abbrev zy_307 : MethodName := ⟨"java/lang/Long", "bitCount", "(J)I"⟩
theorem zd_307 : zv_inf 307 = some (zy_307, (prog_13_method_50_code, (2, (some .int)))) ∧ zv_vD zy_307 prog_13_method_50_code 2 (some .int) := ⟨rfl, (zv_tbk_4 96 rfl rfl), zyi_10, zyc_10, Nat.le_of_ble_eq_true rfl⟩
theorem ze_307 : Cond.static zy_307 ∈ zv_tb ∧ (parseMethodDescriptor zy_307.desc).map (fun d => d.parameters.length) = some 1 := ⟨(zv_tbk_4 95 rfl rfl), (by decide +kernel)⟩
abbrev zy_308 : MethodName := ⟨"java/lang/String", "coder", "()B"⟩
theorem zd_308 : zv_inf 308 = some (zy_308, (prog_15_method_152_code, (1, (some .byte)))) ∧ zv_vD zy_308 prog_15_method_152_code 1 (some .byte) := ⟨rfl, (zv_tbk_3 25 rfl rfl), zyi_11, zyc_11, Nat.le_of_ble_eq_true rfl⟩
theorem ze_308 : Cond.instanceMethod zy_308 ∈ zv_tb ∧ Cond.selects zy_308.cls zy_308 zy_308 ∈ zv_tb ∧ (parseMethodDescriptor zy_308.desc).map (fun d => d.parameters.length + 1) = some 1 ∧ zv_isI 308 = true := ⟨(zv_tbk_3 23 rfl rfl), (zv_tbk_3 24 rfl rfl), (by decide +kernel), rfl⟩
abbrev zy_309 : MethodName := ⟨"java/lang/String", "isLatin1", "()Z"⟩
theorem zd_309 : zv_inf 309 = some (zy_309, (prog_15_method_154_code, (1, (some .boolean)))) ∧ zv_vD zy_309 prog_15_method_154_code 1 (some .boolean) := ⟨rfl, (zv_tbk_3 35 rfl rfl), zyi_11, zyc_11, Nat.le_of_ble_eq_true rfl⟩
theorem ze_309 : Cond.instanceMethod zy_309 ∈ zv_tb ∧ Cond.selects zy_309.cls zy_309 zy_309 ∈ zv_tb ∧ (parseMethodDescriptor zy_309.desc).map (fun d => d.parameters.length + 1) = some 1 ∧ zv_isI 309 = true := ⟨(zv_tbk_3 33 rfl rfl), (zv_tbk_3 34 rfl rfl), (by decide +kernel), rfl⟩
abbrev zy_310 : MethodName := ⟨"java/lang/String", "length", "()I"⟩
theorem zd_310 : zv_inf 310 = some (zy_310, (prog_15_method_54_code, (1, (some .int)))) ∧ zv_vD zy_310 prog_15_method_54_code 1 (some .int) := ⟨rfl, (zv_tbk_3 21 rfl rfl), zyi_11, zyc_11, Nat.le_of_ble_eq_true rfl⟩
theorem ze_310 : Cond.instanceMethod zy_310 ∈ zv_tb ∧ Cond.selects zy_310.cls zy_310 zy_310 ∈ zv_tb ∧ (parseMethodDescriptor zy_310.desc).map (fun d => d.parameters.length + 1) = some 1 ∧ zv_isI 310 = true := ⟨(zv_tbk_3 19 rfl rfl), (zv_tbk_3 20 rfl rfl), (by decide +kernel), rfl⟩
abbrev zy_311 : MethodName := ⟨"java/lang/StringLatin1", "charAt", "([BI)C"⟩
theorem zd_311 : zv_inf 311 = some (zy_311, (prog_16_method_2_code, (2, (some .char)))) ∧ zv_vD zy_311 prog_16_method_2_code 2 (some .char) := ⟨rfl, (zv_tbk_3 38 rfl rfl), zyi_12, zyc_12, Nat.le_of_ble_eq_true rfl⟩
theorem ze_311 : Cond.static zy_311 ∈ zv_tb ∧ (parseMethodDescriptor zy_311.desc).map (fun d => d.parameters.length) = some 2 := ⟨(zv_tbk_3 37 rfl rfl), (by decide +kernel)⟩
abbrev zy_312 : MethodName := ⟨"java/lang/String", "charAt", "(I)C"⟩
theorem zd_312 : zv_inf 312 = some (zy_312, (prog_15_method_56_code, (2, (some .char)))) ∧ zv_vD zy_312 prog_15_method_56_code 2 (some .char) := ⟨rfl, (zv_tbk_3 31 rfl rfl), zyi_11, zyc_11, Nat.le_of_ble_eq_true rfl⟩
theorem ze_312 : Cond.instanceMethod zy_312 ∈ zv_tb ∧ Cond.selects zy_312.cls zy_312 zy_312 ∈ zv_tb ∧ (parseMethodDescriptor zy_312.desc).map (fun d => d.parameters.length + 1) = some 2 ∧ zv_isI 312 = true := ⟨(zv_tbk_3 29 rfl rfl), (zv_tbk_3 30 rfl rfl), (by decide +kernel), rfl⟩
abbrev zy_313 : MethodName := ⟨"java/lang/StringLatin1", "canEncode", "(I)Z"⟩
theorem zd_313 : zv_inf 313 = some (zy_313, (prog_16_method_4_code, (1, (some .boolean)))) ∧ zv_vD zy_313 prog_16_method_4_code 1 (some .boolean) := ⟨rfl, (zv_tbk_7 13 rfl rfl), zyi_12, zyc_12, Nat.le_of_ble_eq_true rfl⟩
theorem ze_313 : Cond.static zy_313 ∈ zv_tb ∧ (parseMethodDescriptor zy_313.desc).map (fun d => d.parameters.length) = some 1 := ⟨(zv_tbk_7 12 rfl rfl), (by decide +kernel)⟩
abbrev zy_314 : MethodName := ⟨"java/lang/StringLatin1", "indexOfChar", "([BIII)I"⟩
theorem zd_314 : zv_inf 314 = some (zy_314, (prog_16_method_23_code, (6, (some .int)))) ∧ zv_vD zy_314 prog_16_method_23_code 6 (some .int) := ⟨rfl, (zv_tbk_7 18 rfl rfl), zyi_12, zyc_12, Nat.le_of_ble_eq_true rfl⟩
theorem ze_314 : Cond.static zy_314 ∈ zv_tb ∧ (parseMethodDescriptor zy_314.desc).map (fun d => d.parameters.length) = some 4 := ⟨(zv_tbk_7 17 rfl rfl), (by decide +kernel)⟩
abbrev zy_315 : MethodName := ⟨"java/lang/StringLatin1", "indexOf", "([BIII)I"⟩
theorem zd_315 : zv_inf 315 = some (zy_315, (prog_16_method_22_code, (4, (some .int)))) ∧ zv_vD zy_315 prog_16_method_22_code 4 (some .int) := ⟨rfl, (zv_tbk_7 10 rfl rfl), zyi_12, zyc_12, Nat.le_of_ble_eq_true rfl⟩
theorem ze_315 : Cond.static zy_315 ∈ zv_tb ∧ (parseMethodDescriptor zy_315.desc).map (fun d => d.parameters.length) = some 4 := ⟨(zv_tbk_7 9 rfl rfl), (by decide +kernel)⟩
abbrev zy_316 : MethodName := ⟨"java/lang/String", "indexOf", "(II)I"⟩
theorem zd_316 : zv_inf 316 = some (zy_316, (prog_15_method_80_code, (3, (some .int)))) ∧ zv_vD zy_316 prog_15_method_80_code 3 (some .int) := ⟨rfl, (zv_tbk_7 6 rfl rfl), zyi_11, zyc_11, Nat.le_of_ble_eq_true rfl⟩
theorem ze_316 : Cond.instanceMethod zy_316 ∈ zv_tb ∧ Cond.selects zy_316.cls zy_316 zy_316 ∈ zv_tb ∧ (parseMethodDescriptor zy_316.desc).map (fun d => d.parameters.length + 1) = some 3 ∧ zv_isI 316 = true := ⟨(zv_tbk_7 4 rfl rfl), (zv_tbk_7 5 rfl rfl), (by decide +kernel), rfl⟩
abbrev zy_317 : MethodName := ⟨"java/lang/String", "indexOf", "(I)I"⟩
theorem zd_317 : zv_inf 317 = some (zy_317, (prog_15_method_79_code, (2, (some .int)))) ∧ zv_vD zy_317 prog_15_method_79_code 2 (some .int) := ⟨rfl, (zv_tbk_7 2 rfl rfl), zyi_11, zyc_11, Nat.le_of_ble_eq_true rfl⟩
theorem ze_317 : Cond.instanceMethod zy_317 ∈ zv_tb ∧ Cond.selects zy_317.cls zy_317 zy_317 ∈ zv_tb ∧ (parseMethodDescriptor zy_317.desc).map (fun d => d.parameters.length + 1) = some 2 ∧ zv_isI 317 = true := ⟨(zv_tbk_7 0 rfl rfl), (zv_tbk_7 1 rfl rfl), (by decide +kernel), rfl⟩
abbrev zy_906 : MethodName := ⟨"java/lang/String", "checkIndex", "(II)V"⟩
theorem zd_906 : zv_inf 906 = some (zy_906, (prog_15_method_155_code, (2, none))) ∧ zv_vD zy_906 prog_15_method_155_code 2 none := ⟨rfl, (zv_tbk_3 41 rfl rfl), zyi_11, zyc_11, Nat.le_of_ble_eq_true rfl⟩
theorem ze_906 : Cond.static zy_906 ∈ zv_tb ∧ (parseMethodDescriptor zy_906.desc).map (fun d => d.parameters.length) = some 2 := ⟨(zv_tbk_3 40 rfl rfl), (by decide +kernel)⟩
