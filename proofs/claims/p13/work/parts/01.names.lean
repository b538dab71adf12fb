/-! 01.names -/
section
theorem lw_t_1 {w : Cond} (i : Nat) (h : tables_1_1[i]? = some w) : w ∈ tables_1 := (List.mem_append_left _ (List.mem_of_getElem? h))
theorem lw_t_2 {w : Cond} (i : Nat) (h : tables_1_2[i]? = some w) : w ∈ tables_1 := (List.mem_append_right _ (List.mem_append_left _ (List.mem_of_getElem? h)))
theorem lw_t_3 {w : Cond} (i : Nat) (h : tables_1_3[i]? = some w) : w ∈ tables_1 := (List.mem_append_right _ (List.mem_append_right _ (List.mem_append_left _ (List.mem_of_getElem? h))))
theorem lw_t_4 {w : Cond} (i : Nat) (h : tables_1_4[i]? = some w) : w ∈ tables_1 := (List.mem_append_right _ (List.mem_append_right _ (List.mem_append_right _ (List.mem_append_left _ (List.mem_of_getElem? h)))))
theorem lw_t_5 {w : Cond} (i : Nat) (h : tables_1_5[i]? = some w) : w ∈ tables_1 := (List.mem_append_right _ (List.mem_append_right _ (List.mem_append_right _ (List.mem_append_right _ (List.mem_append_left _ (List.mem_of_getElem? h))))))
theorem lw_t_6 {w : Cond} (i : Nat) (h : tables_1_6[i]? = some w) : w ∈ tables_1 := (List.mem_append_right _ (List.mem_append_right _ (List.mem_append_right _ (List.mem_append_right _ (List.mem_append_right _ (List.mem_append_left _ (List.mem_of_getElem? h)))))))
theorem lw_t_7 {w : Cond} (i : Nat) (h : tables_1_7[i]? = some w) : w ∈ tables_1 := (List.mem_append_right _ (List.mem_append_right _ (List.mem_append_right _ (List.mem_append_right _ (List.mem_append_right _ (List.mem_append_right _ (List.mem_append_left _ (List.mem_of_getElem? h))))))))
theorem lw_t_8 {w : Cond} (i : Nat) (h : tables_1_8[i]? = some w) : w ∈ tables_1 := (List.mem_append_right _ (List.mem_append_right _ (List.mem_append_right _ (List.mem_append_right _ (List.mem_append_right _ (List.mem_append_right _ (List.mem_append_right _ (List.mem_append_left _ (List.mem_of_getElem? h)))))))))
theorem lw_t_9 {w : Cond} (i : Nat) (h : tables_1_9[i]? = some w) : w ∈ tables_1 := (List.mem_append_right _ (List.mem_append_right _ (List.mem_append_right _ (List.mem_append_right _ (List.mem_append_right _ (List.mem_append_right _ (List.mem_append_right _ (List.mem_append_right _ (List.mem_of_getElem? h)))))))))
-- ===== PART A: goes FIRST, ahead of the names: the tables' words, and 'selects' of the private methods out of them =====
/-- a private method of a class that the tables say can be made, by its rows of tables_1 -/
def lw_okq (q : MethodName × Nat) : Prop := (q.1.cls ≠ "java/lang/invoke/MethodHandle" ∧ q.1.cls ≠ "java/lang/invoke/VarHandle") ∧ Cond.instantiable q.1.cls q.2 ∈ tables_1 ∧ Cond.privateMethod q.1 ∈ tables_1 ∧ Cond.instanceMethod q.1 ∈ tables_1
theorem lw_p0 : lw_okq (⟨"BranchedText", "feedInt", "(I)V"⟩, 8) := ⟨⟨by decide +kernel, by decide +kernel⟩, lw_t_1 20 rfl, lw_t_2 186 rfl, lw_t_2 187 rfl⟩
theorem lw_p1 : lw_okq (⟨"BranchedText", "refused", "(I)I"⟩, 8) := ⟨⟨by decide +kernel, by decide +kernel⟩, lw_t_1 20 rfl, lw_t_2 220 rfl, lw_t_2 221 rfl⟩
theorem lw_p2 : lw_okq (⟨"BranchedText$Reader", "byteAt", "(I)I"⟩, 13) := ⟨⟨by decide +kernel, by decide +kernel⟩, lw_t_1 44 rfl, lw_t_2 236 rfl, lw_t_2 237 rfl⟩
theorem lw_p3 : lw_okq (⟨"BranchedText$Reader", "is", "(Ljava/lang/String;)Z"⟩, 13) := ⟨⟨by decide +kernel, by decide +kernel⟩, lw_t_1 44 rfl, lw_t_3 15 rfl, lw_t_3 16 rfl⟩
theorem lw_p4 : lw_okq (⟨"BranchedText$Reader", "spelled", "(I)Z"⟩, 13) := ⟨⟨by decide +kernel, by decide +kernel⟩, lw_t_1 44 rfl, lw_t_3 67 rfl, lw_t_3 68 rfl⟩
theorem lw_p5 : lw_okq (⟨"BranchedText$Reader", "closed", "()Z"⟩, 13) := ⟨⟨by decide +kernel, by decide +kernel⟩, lw_t_1 44 rfl, lw_t_3 73 rfl, lw_t_3 74 rfl⟩
theorem lw_p6 : lw_okq (⟨"BranchedText$Reader", "isSign", "(I)Z"⟩, 13) := ⟨⟨by decide +kernel, by decide +kernel⟩, lw_t_1 44 rfl, lw_t_3 77 rfl, lw_t_3 78 rfl⟩
theorem lw_p7 : lw_okq (⟨"BranchedText$History", "setGlyph", "(II)V"⟩, 14) := ⟨⟨by decide +kernel, by decide +kernel⟩, lw_t_1 99 rfl, lw_t_3 92 rfl, lw_t_3 93 rfl⟩
theorem lw_p8 : lw_okq (⟨"BranchedText$Reader", "test", "(LBranchedText$JoinTest;I)Z"⟩, 13) := ⟨⟨by decide +kernel, by decide +kernel⟩, lw_t_1 44 rfl, lw_t_3 102 rfl, lw_t_3 103 rfl⟩
theorem lw_p9 : lw_okq (⟨"BranchedText$Reader", "side", "(LBranchedText$JoinTest;I)Z"⟩, 13) := ⟨⟨by decide +kernel, by decide +kernel⟩, lw_t_1 44 rfl, lw_t_3 106 rfl, lw_t_3 107 rfl⟩
theorem lw_p10 : lw_okq (⟨"BranchedText$Reader", "fact", "(LBranchedText$JoinTest;I)Z"⟩, 13) := ⟨⟨by decide +kernel, by decide +kernel⟩, lw_t_1 44 rfl, lw_t_3 110 rfl, lw_t_3 111 rfl⟩
theorem lw_p11 : lw_okq (⟨"BranchedText$Reader", "asked", "()I"⟩, 13) := ⟨⟨by decide +kernel, by decide +kernel⟩, lw_t_1 44 rfl, lw_t_3 115 rfl, lw_t_3 116 rfl⟩
theorem lw_p12 : lw_okq (⟨"BranchedText$Reader", "comparison", "(LBranchedText$JoinTest;I)Z"⟩, 13) := ⟨⟨by decide +kernel, by decide +kernel⟩, lw_t_1 44 rfl, lw_t_3 125 rfl, lw_t_3 126 rfl⟩
theorem lw_p13 : lw_okq (⟨"BranchedText$Reader", "verbHere", "()I"⟩, 13) := ⟨⟨by decide +kernel, by decide +kernel⟩, lw_t_1 44 rfl, lw_t_3 141 rfl, lw_t_3 142 rfl⟩
theorem lw_p14 : lw_okq (⟨"BranchedText", "done", "(LBranchedText$History;)I"⟩, 8) := ⟨⟨by decide +kernel, by decide +kernel⟩, lw_t_1 20 rfl, lw_t_3 157 rfl, lw_t_3 158 rfl⟩
theorem lw_p15 : lw_okq (⟨"BranchedText$History", "grow", "(III)LBranchedText$State;"⟩, 14) := ⟨⟨by decide +kernel, by decide +kernel⟩, lw_t_1 99 rfl, lw_t_3 165 rfl, lw_t_3 166 rfl⟩
def lw_privs_1 : List (MethodName × Nat) := [(⟨"BranchedText", "feedInt", "(I)V"⟩, 8), (⟨"BranchedText", "refused", "(I)I"⟩, 8), (⟨"BranchedText$Reader", "byteAt", "(I)I"⟩, 13), (⟨"BranchedText$Reader", "is", "(Ljava/lang/String;)Z"⟩, 13), (⟨"BranchedText$Reader", "spelled", "(I)Z"⟩, 13), (⟨"BranchedText$Reader", "closed", "()Z"⟩, 13), (⟨"BranchedText$Reader", "isSign", "(I)Z"⟩, 13), (⟨"BranchedText$History", "setGlyph", "(II)V"⟩, 14), (⟨"BranchedText$Reader", "test", "(LBranchedText$JoinTest;I)Z"⟩, 13), (⟨"BranchedText$Reader", "side", "(LBranchedText$JoinTest;I)Z"⟩, 13), (⟨"BranchedText$Reader", "fact", "(LBranchedText$JoinTest;I)Z"⟩, 13), (⟨"BranchedText$Reader", "asked", "()I"⟩, 13), (⟨"BranchedText$Reader", "comparison", "(LBranchedText$JoinTest;I)Z"⟩, 13), (⟨"BranchedText$Reader", "verbHere", "()I"⟩, 13), (⟨"BranchedText", "done", "(LBranchedText$History;)I"⟩, 8), (⟨"BranchedText$History", "grow", "(III)LBranchedText$State;"⟩, 14)]
theorem lw_r1 : ∀ q ∈ lw_privs_1, lw_okq q := List.forall_mem_cons.mpr ⟨lw_p0, List.forall_mem_cons.mpr ⟨lw_p1, List.forall_mem_cons.mpr ⟨lw_p2, List.forall_mem_cons.mpr ⟨lw_p3, List.forall_mem_cons.mpr ⟨lw_p4, List.forall_mem_cons.mpr ⟨lw_p5, List.forall_mem_cons.mpr ⟨lw_p6, List.forall_mem_cons.mpr ⟨lw_p7, List.forall_mem_cons.mpr ⟨lw_p8, List.forall_mem_cons.mpr ⟨lw_p9, List.forall_mem_cons.mpr ⟨lw_p10, List.forall_mem_cons.mpr ⟨lw_p11, List.forall_mem_cons.mpr ⟨lw_p12, List.forall_mem_cons.mpr ⟨lw_p13, List.forall_mem_cons.mpr ⟨lw_p14, List.forall_mem_cons.mpr ⟨lw_p15, fun _ h => absurd h List.not_mem_nil⟩⟩⟩⟩⟩⟩⟩⟩⟩⟩⟩⟩⟩⟩⟩⟩
theorem lw_p16 : lw_okq (⟨"BranchedText$History", "joinGroup", "(LBranchedText$State;LBranchedText$State;)V"⟩, 14) := ⟨⟨by decide +kernel, by decide +kernel⟩, lw_t_1 99 rfl, lw_t_3 187 rfl, lw_t_3 188 rfl⟩
theorem lw_p17 : lw_okq (⟨"BranchedText$History", "moveTo", "(LBranchedText$State;)V"⟩, 14) := ⟨⟨by decide +kernel, by decide +kernel⟩, lw_t_1 99 rfl, lw_t_3 224 rfl, lw_t_3 225 rfl⟩
theorem lw_p18 : lw_okq (⟨"BranchedText$History", "findNewest", "()V"⟩, 14) := ⟨⟨by decide +kernel, by decide +kernel⟩, lw_t_1 99 rfl, lw_t_3 236 rfl, lw_t_3 237 rfl⟩
theorem lw_p19 : lw_okq (⟨"BranchedText$History", "newestChild", "(LBranchedText$State;I)LBranchedText$State;"⟩, 14) := ⟨⟨by decide +kernel, by decide +kernel⟩, lw_t_1 99 rfl, lw_t_4 3 rfl, lw_t_4 4 rfl⟩
theorem lw_p20 : lw_okq (⟨"BranchedText$Row", "link", "(LBranchedText$State;)V"⟩, 10) := ⟨⟨by decide +kernel, by decide +kernel⟩, lw_t_1 205 rfl, lw_t_4 67 rfl, lw_t_4 68 rfl⟩
theorem lw_p21 : lw_okq (⟨"BranchedText$History", "turn", "(IJJ)I"⟩, 14) := ⟨⟨by decide +kernel, by decide +kernel⟩, lw_t_1 99 rfl, lw_t_4 90 rfl, lw_t_4 91 rfl⟩
theorem lw_p22 : lw_okq (⟨"BranchedText$History", "standForThemselves", "()V"⟩, 14) := ⟨⟨by decide +kernel, by decide +kernel⟩, lw_t_1 99 rfl, lw_t_4 121 rfl, lw_t_4 122 rfl⟩
theorem lw_p23 : lw_okq (⟨"BranchedText$History", "carryOne", "(LBranchedText$State;)I"⟩, 14) := ⟨⟨by decide +kernel, by decide +kernel⟩, lw_t_1 99 rfl, lw_t_4 125 rfl, lw_t_4 126 rfl⟩
theorem lw_p24 : lw_okq (⟨"BranchedText$History", "firstTaken", "(LBranchedText$State;)I"⟩, 14) := ⟨⟨by decide +kernel, by decide +kernel⟩, lw_t_1 99 rfl, lw_t_4 129 rfl, lw_t_4 130 rfl⟩
theorem lw_p25 : lw_okq (⟨"BranchedText$History", "takes", "(LBranchedText$State;I)Z"⟩, 14) := ⟨⟨by decide +kernel, by decide +kernel⟩, lw_t_1 99 rfl, lw_t_4 133 rfl, lw_t_4 134 rfl⟩
theorem lw_p26 : lw_okq (⟨"BranchedText$History", "standOf", "(I)I"⟩, 14) := ⟨⟨by decide +kernel, by decide +kernel⟩, lw_t_1 99 rfl, lw_t_4 138 rfl, lw_t_4 139 rfl⟩
theorem lw_p27 : lw_okq (⟨"BranchedText$History", "takenFrom", "(LBranchedText$State;I)I"⟩, 14) := ⟨⟨by decide +kernel, by decide +kernel⟩, lw_t_1 99 rfl, lw_t_4 145 rfl, lw_t_4 146 rfl⟩
theorem lw_p28 : lw_okq (⟨"BranchedText$History", "remove", "(LBranchedText$State;)V"⟩, 14) := ⟨⟨by decide +kernel, by decide +kernel⟩, lw_t_1 99 rfl, lw_t_4 187 rfl, lw_t_4 188 rfl⟩
theorem lw_p29 : lw_okq (⟨"BranchedText", "given", "(I)I"⟩, 8) := ⟨⟨by decide +kernel, by decide +kernel⟩, lw_t_1 20 rfl, lw_t_4 197 rfl, lw_t_4 198 rfl⟩
theorem lw_p30 : lw_okq (⟨"BranchedText$Visits", "slot", "(I)I"⟩, 6) := ⟨⟨by decide +kernel, by decide +kernel⟩, lw_t_2 31 rfl, lw_t_5 44 rfl, lw_t_5 45 rfl⟩
theorem lw_p31 : lw_okq (⟨"BranchedText", "answered", "(I)I"⟩, 8) := ⟨⟨by decide +kernel, by decide +kernel⟩, lw_t_1 20 rfl, lw_t_5 68 rfl, lw_t_5 69 rfl⟩
def lw_privs_2 : List (MethodName × Nat) := [(⟨"BranchedText$History", "joinGroup", "(LBranchedText$State;LBranchedText$State;)V"⟩, 14), (⟨"BranchedText$History", "moveTo", "(LBranchedText$State;)V"⟩, 14), (⟨"BranchedText$History", "findNewest", "()V"⟩, 14), (⟨"BranchedText$History", "newestChild", "(LBranchedText$State;I)LBranchedText$State;"⟩, 14), (⟨"BranchedText$Row", "link", "(LBranchedText$State;)V"⟩, 10), (⟨"BranchedText$History", "turn", "(IJJ)I"⟩, 14), (⟨"BranchedText$History", "standForThemselves", "()V"⟩, 14), (⟨"BranchedText$History", "carryOne", "(LBranchedText$State;)I"⟩, 14), (⟨"BranchedText$History", "firstTaken", "(LBranchedText$State;)I"⟩, 14), (⟨"BranchedText$History", "takes", "(LBranchedText$State;I)Z"⟩, 14), (⟨"BranchedText$History", "standOf", "(I)I"⟩, 14), (⟨"BranchedText$History", "takenFrom", "(LBranchedText$State;I)I"⟩, 14), (⟨"BranchedText$History", "remove", "(LBranchedText$State;)V"⟩, 14), (⟨"BranchedText", "given", "(I)I"⟩, 8), (⟨"BranchedText$Visits", "slot", "(I)I"⟩, 6), (⟨"BranchedText", "answered", "(I)I"⟩, 8)]
theorem lw_r2 : ∀ q ∈ lw_privs_2, lw_okq q := List.forall_mem_cons.mpr ⟨lw_p16, List.forall_mem_cons.mpr ⟨lw_p17, List.forall_mem_cons.mpr ⟨lw_p18, List.forall_mem_cons.mpr ⟨lw_p19, List.forall_mem_cons.mpr ⟨lw_p20, List.forall_mem_cons.mpr ⟨lw_p21, List.forall_mem_cons.mpr ⟨lw_p22, List.forall_mem_cons.mpr ⟨lw_p23, List.forall_mem_cons.mpr ⟨lw_p24, List.forall_mem_cons.mpr ⟨lw_p25, List.forall_mem_cons.mpr ⟨lw_p26, List.forall_mem_cons.mpr ⟨lw_p27, List.forall_mem_cons.mpr ⟨lw_p28, List.forall_mem_cons.mpr ⟨lw_p29, List.forall_mem_cons.mpr ⟨lw_p30, List.forall_mem_cons.mpr ⟨lw_p31, fun _ h => absurd h List.not_mem_nil⟩⟩⟩⟩⟩⟩⟩⟩⟩⟩⟩⟩⟩⟩⟩⟩
theorem lw_p32 : lw_okq (⟨"BranchedText", "tellDocument", "()V"⟩, 8) := ⟨⟨by decide +kernel, by decide +kernel⟩, lw_t_1 20 rfl, lw_t_5 186 rfl, lw_t_5 187 rfl⟩
theorem lw_p33 : lw_okq (⟨"BranchedText", "tellByte", "(I)V"⟩, 8) := ⟨⟨by decide +kernel, by decide +kernel⟩, lw_t_1 20 rfl, lw_t_5 190 rfl, lw_t_5 191 rfl⟩
theorem lw_p34 : lw_okq (⟨"BranchedText", "tellLine", "()V"⟩, 8) := ⟨⟨by decide +kernel, by decide +kernel⟩, lw_t_1 20 rfl, lw_t_5 194 rfl, lw_t_5 195 rfl⟩
theorem lw_p35 : lw_okq (⟨"BranchedText", "tellNumber", "(I)V"⟩, 8) := ⟨⟨by decide +kernel, by decide +kernel⟩, lw_t_1 20 rfl, lw_t_5 202 rfl, lw_t_5 203 rfl⟩
theorem lw_p36 : lw_okq (⟨"BranchedText", "tellNames", "()V"⟩, 8) := ⟨⟨by decide +kernel, by decide +kernel⟩, lw_t_1 20 rfl, lw_t_5 206 rfl, lw_t_5 207 rfl⟩
theorem lw_p37 : lw_okq (⟨"BranchedTextModel", "clears", "()V"⟩, 48) := ⟨⟨by decide +kernel, by decide +kernel⟩, lw_t_6 25 rfl, lw_t_6 54 rfl, lw_t_6 55 rfl⟩
theorem lw_p38 : lw_okq (⟨"BranchedTextModel", "sets", "(III)V"⟩, 48) := ⟨⟨by decide +kernel, by decide +kernel⟩, lw_t_6 25 rfl, lw_t_6 58 rfl, lw_t_6 59 rfl⟩
theorem lw_p39 : lw_okq (⟨"BranchedTextModel", "lays", "(I)V"⟩, 48) := ⟨⟨by decide +kernel, by decide +kernel⟩, lw_t_6 25 rfl, lw_t_6 220 rfl, lw_t_6 221 rfl⟩
theorem lw_p40 : lw_okq (⟨"BranchedTextModel", "is", "(I)Z"⟩, 48) := ⟨⟨by decide +kernel, by decide +kernel⟩, lw_t_6 25 rfl, lw_t_6 231 rfl, lw_t_6 232 rfl⟩
theorem lw_p41 : lw_okq (⟨"BranchedTextModel", "reads", "()V"⟩, 48) := ⟨⟨by decide +kernel, by decide +kernel⟩, lw_t_6 25 rfl, lw_t_6 235 rfl, lw_t_6 236 rfl⟩
theorem lw_p42 : lw_okq (⟨"BranchedTextModel", "isOf", "(III)Z"⟩, 48) := ⟨⟨by decide +kernel, by decide +kernel⟩, lw_t_6 25 rfl, lw_t_7 55 rfl, lw_t_7 56 rfl⟩
theorem lw_p43 : lw_okq (⟨"BranchedTextModel", "which", "([J)I"⟩, 48) := ⟨⟨by decide +kernel, by decide +kernel⟩, lw_t_6 25 rfl, lw_t_7 61 rfl, lw_t_7 62 rfl⟩
theorem lw_p44 : lw_okq (⟨"BranchedTextModel", "takesWord", "(I)V"⟩, 48) := ⟨⟨by decide +kernel, by decide +kernel⟩, lw_t_6 25 rfl, lw_t_7 65 rfl, lw_t_7 66 rfl⟩
theorem lw_p45 : lw_okq (⟨"BranchedTextModel", "must", "(ZI)V"⟩, 48) := ⟨⟨by decide +kernel, by decide +kernel⟩, lw_t_6 25 rfl, lw_t_7 69 rfl, lw_t_7 70 rfl⟩
theorem lw_p46 : lw_okq (⟨"BranchedTextModel", "takes", "(C)V"⟩, 48) := ⟨⟨by decide +kernel, by decide +kernel⟩, lw_t_6 25 rfl, lw_t_7 73 rfl, lw_t_7 74 rfl⟩
theorem lw_p47 : lw_okq (⟨"BranchedTextModel", "isSign", "(C)Z"⟩, 48) := ⟨⟨by decide +kernel, by decide +kernel⟩, lw_t_6 25 rfl, lw_t_7 77 rfl, lw_t_7 78 rfl⟩
def lw_privs_3 : List (MethodName × Nat) := [(⟨"BranchedText", "tellDocument", "()V"⟩, 8), (⟨"BranchedText", "tellByte", "(I)V"⟩, 8), (⟨"BranchedText", "tellLine", "()V"⟩, 8), (⟨"BranchedText", "tellNumber", "(I)V"⟩, 8), (⟨"BranchedText", "tellNames", "()V"⟩, 8), (⟨"BranchedTextModel", "clears", "()V"⟩, 48), (⟨"BranchedTextModel", "sets", "(III)V"⟩, 48), (⟨"BranchedTextModel", "lays", "(I)V"⟩, 48), (⟨"BranchedTextModel", "is", "(I)Z"⟩, 48), (⟨"BranchedTextModel", "reads", "()V"⟩, 48), (⟨"BranchedTextModel", "isOf", "(III)Z"⟩, 48), (⟨"BranchedTextModel", "which", "([J)I"⟩, 48), (⟨"BranchedTextModel", "takesWord", "(I)V"⟩, 48), (⟨"BranchedTextModel", "must", "(ZI)V"⟩, 48), (⟨"BranchedTextModel", "takes", "(C)V"⟩, 48), (⟨"BranchedTextModel", "isSign", "(C)Z"⟩, 48)]
theorem lw_r3 : ∀ q ∈ lw_privs_3, lw_okq q := List.forall_mem_cons.mpr ⟨lw_p32, List.forall_mem_cons.mpr ⟨lw_p33, List.forall_mem_cons.mpr ⟨lw_p34, List.forall_mem_cons.mpr ⟨lw_p35, List.forall_mem_cons.mpr ⟨lw_p36, List.forall_mem_cons.mpr ⟨lw_p37, List.forall_mem_cons.mpr ⟨lw_p38, List.forall_mem_cons.mpr ⟨lw_p39, List.forall_mem_cons.mpr ⟨lw_p40, List.forall_mem_cons.mpr ⟨lw_p41, List.forall_mem_cons.mpr ⟨lw_p42, List.forall_mem_cons.mpr ⟨lw_p43, List.forall_mem_cons.mpr ⟨lw_p44, List.forall_mem_cons.mpr ⟨lw_p45, List.forall_mem_cons.mpr ⟨lw_p46, List.forall_mem_cons.mpr ⟨lw_p47, fun _ h => absurd h List.not_mem_nil⟩⟩⟩⟩⟩⟩⟩⟩⟩⟩⟩⟩⟩⟩⟩⟩
theorem lw_p48 : lw_okq (⟨"BranchedTextModel", "test", "()V"⟩, 48) := ⟨⟨by decide +kernel, by decide +kernel⟩, lw_t_6 25 rfl, lw_t_7 81 rfl, lw_t_7 82 rfl⟩
theorem lw_p49 : lw_okq (⟨"BranchedTextModel", "side", "()V"⟩, 48) := ⟨⟨by decide +kernel, by decide +kernel⟩, lw_t_6 25 rfl, lw_t_7 85 rfl, lw_t_7 86 rfl⟩
theorem lw_p50 : lw_okq (⟨"BranchedTextModel", "fact", "()V"⟩, 48) := ⟨⟨by decide +kernel, by decide +kernel⟩, lw_t_6 25 rfl, lw_t_7 89 rfl, lw_t_7 90 rfl⟩
theorem lw_p51 : lw_okq (⟨"BranchedTextModel", "emits", "(I)V"⟩, 48) := ⟨⟨by decide +kernel, by decide +kernel⟩, lw_t_6 25 rfl, lw_t_7 93 rfl, lw_t_7 94 rfl⟩
theorem lw_p52 : lw_okq (⟨"BranchedTextModel", "takesNumber", "()I"⟩, 48) := ⟨⟨by decide +kernel, by decide +kernel⟩, lw_t_6 25 rfl, lw_t_7 97 rfl, lw_t_7 98 rfl⟩
theorem lw_p53 : lw_okq (⟨"BranchedTextModel", "readsLine", "()V"⟩, 48) := ⟨⟨by decide +kernel, by decide +kernel⟩, lw_t_6 25 rfl, lw_t_7 101 rfl, lw_t_7 102 rfl⟩
theorem lw_p54 : lw_okq (⟨"BranchedTextModel", "does", "(I)I"⟩, 48) := ⟨⟨by decide +kernel, by decide +kernel⟩, lw_t_6 25 rfl, lw_t_7 105 rfl, lw_t_7 106 rfl⟩
theorem lw_p55 : lw_okq (⟨"BranchedTextModel", "putNow", "(I)I"⟩, 48) := ⟨⟨by decide +kernel, by decide +kernel⟩, lw_t_6 25 rfl, lw_t_7 109 rfl, lw_t_7 110 rfl⟩
theorem lw_p56 : lw_okq (⟨"BranchedTextModel", "here", "()I"⟩, 48) := ⟨⟨by decide +kernel, by decide +kernel⟩, lw_t_6 25 rfl, lw_t_7 113 rfl, lw_t_7 114 rfl⟩
theorem lw_p57 : lw_okq (⟨"BranchedTextModel", "lettersOf", "(I)I"⟩, 48) := ⟨⟨by decide +kernel, by decide +kernel⟩, lw_t_6 25 rfl, lw_t_7 117 rfl, lw_t_7 118 rfl⟩
theorem lw_p58 : lw_okq (⟨"BranchedTextModel", "sees", "(I)V"⟩, 48) := ⟨⟨by decide +kernel, by decide +kernel⟩, lw_t_6 25 rfl, lw_t_7 121 rfl, lw_t_7 122 rfl⟩
theorem lw_p59 : lw_okq (⟨"BranchedTextModel", "depthOf", "(I)I"⟩, 48) := ⟨⟨by decide +kernel, by decide +kernel⟩, lw_t_6 25 rfl, lw_t_7 125 rfl, lw_t_7 126 rfl⟩
theorem lw_p60 : lw_okq (⟨"BranchedTextModel", "of", "(II)I"⟩, 48) := ⟨⟨by decide +kernel, by decide +kernel⟩, lw_t_6 25 rfl, lw_t_7 129 rfl, lw_t_7 130 rfl⟩
theorem lw_p61 : lw_okq (⟨"BranchedTextModel", "isEdit", "(I)Z"⟩, 48) := ⟨⟨by decide +kernel, by decide +kernel⟩, lw_t_6 25 rfl, lw_t_7 133 rfl, lw_t_7 134 rfl⟩
theorem lw_p62 : lw_okq (⟨"BranchedTextModel", "letsIn", "(I)V"⟩, 48) := ⟨⟨by decide +kernel, by decide +kernel⟩, lw_t_6 25 rfl, lw_t_7 137 rfl, lw_t_7 138 rfl⟩
theorem lw_p63 : lw_okq (⟨"BranchedTextModel", "rowOf", "(II)I"⟩, 48) := ⟨⟨by decide +kernel, by decide +kernel⟩, lw_t_6 25 rfl, lw_t_7 141 rfl, lw_t_7 142 rfl⟩
def lw_privs_4 : List (MethodName × Nat) := [(⟨"BranchedTextModel", "test", "()V"⟩, 48), (⟨"BranchedTextModel", "side", "()V"⟩, 48), (⟨"BranchedTextModel", "fact", "()V"⟩, 48), (⟨"BranchedTextModel", "emits", "(I)V"⟩, 48), (⟨"BranchedTextModel", "takesNumber", "()I"⟩, 48), (⟨"BranchedTextModel", "readsLine", "()V"⟩, 48), (⟨"BranchedTextModel", "does", "(I)I"⟩, 48), (⟨"BranchedTextModel", "putNow", "(I)I"⟩, 48), (⟨"BranchedTextModel", "here", "()I"⟩, 48), (⟨"BranchedTextModel", "lettersOf", "(I)I"⟩, 48), (⟨"BranchedTextModel", "sees", "(I)V"⟩, 48), (⟨"BranchedTextModel", "depthOf", "(I)I"⟩, 48), (⟨"BranchedTextModel", "of", "(II)I"⟩, 48), (⟨"BranchedTextModel", "isEdit", "(I)Z"⟩, 48), (⟨"BranchedTextModel", "letsIn", "(I)V"⟩, 48), (⟨"BranchedTextModel", "rowOf", "(II)I"⟩, 48)]
theorem lw_r4 : ∀ q ∈ lw_privs_4, lw_okq q := List.forall_mem_cons.mpr ⟨lw_p48, List.forall_mem_cons.mpr ⟨lw_p49, List.forall_mem_cons.mpr ⟨lw_p50, List.forall_mem_cons.mpr ⟨lw_p51, List.forall_mem_cons.mpr ⟨lw_p52, List.forall_mem_cons.mpr ⟨lw_p53, List.forall_mem_cons.mpr ⟨lw_p54, List.forall_mem_cons.mpr ⟨lw_p55, List.forall_mem_cons.mpr ⟨lw_p56, List.forall_mem_cons.mpr ⟨lw_p57, List.forall_mem_cons.mpr ⟨lw_p58, List.forall_mem_cons.mpr ⟨lw_p59, List.forall_mem_cons.mpr ⟨lw_p60, List.forall_mem_cons.mpr ⟨lw_p61, List.forall_mem_cons.mpr ⟨lw_p62, List.forall_mem_cons.mpr ⟨lw_p63, fun _ h => absurd h List.not_mem_nil⟩⟩⟩⟩⟩⟩⟩⟩⟩⟩⟩⟩⟩⟩⟩⟩
theorem lw_p64 : lw_okq (⟨"BranchedTextModel", "turns", "(I)V"⟩, 48) := ⟨⟨by decide +kernel, by decide +kernel⟩, lw_t_6 25 rfl, lw_t_7 145 rfl, lw_t_7 146 rfl⟩
theorem lw_p65 : lw_okq (⟨"BranchedTextModel", "names", "(II)Z"⟩, 48) := ⟨⟨by decide +kernel, by decide +kernel⟩, lw_t_6 25 rfl, lw_t_7 149 rfl, lw_t_7 150 rfl⟩
theorem lw_p66 : lw_okq (⟨"BranchedTextModel", "refuse", "(I)I"⟩, 48) := ⟨⟨by decide +kernel, by decide +kernel⟩, lw_t_6 25 rfl, lw_t_7 153 rfl, lw_t_7 154 rfl⟩
theorem lw_p67 : lw_okq (⟨"BranchedTextModel", "states", "()I"⟩, 48) := ⟨⟨by decide +kernel, by decide +kernel⟩, lw_t_6 25 rfl, lw_t_7 157 rfl, lw_t_7 158 rfl⟩
theorem lw_p68 : lw_okq (⟨"BranchedTextModel", "freeState", "()I"⟩, 48) := ⟨⟨by decide +kernel, by decide +kernel⟩, lw_t_6 25 rfl, lw_t_7 161 rfl, lw_t_7 162 rfl⟩
theorem lw_p69 : lw_okq (⟨"BranchedTextModel", "rowPlace", "(I)I"⟩, 48) := ⟨⟨by decide +kernel, by decide +kernel⟩, lw_t_6 25 rfl, lw_t_7 165 rfl, lw_t_7 166 rfl⟩
theorem lw_p70 : lw_okq (⟨"BranchedTextModel", "joins", "(III)Z"⟩, 48) := ⟨⟨by decide +kernel, by decide +kernel⟩, lw_t_6 25 rfl, lw_t_7 169 rfl, lw_t_7 170 rfl⟩
theorem lw_p71 : lw_okq (⟨"BranchedTextModel", "isNear", "(IIII)Z"⟩, 48) := ⟨⟨by decide +kernel, by decide +kernel⟩, lw_t_6 25 rfl, lw_t_7 173 rfl, lw_t_7 174 rfl⟩
theorem lw_p72 : lw_okq (⟨"BranchedTextModel", "holds", "()Z"⟩, 48) := ⟨⟨by decide +kernel, by decide +kernel⟩, lw_t_6 25 rfl, lw_t_7 177 rfl, lw_t_7 178 rfl⟩
theorem lw_p73 : lw_okq (⟨"BranchedTextModel", "begins", "(IIIIZ)V"⟩, 48) := ⟨⟨by decide +kernel, by decide +kernel⟩, lw_t_6 25 rfl, lw_t_7 184 rfl, lw_t_7 185 rfl⟩
theorem lw_p74 : lw_okq (⟨"BranchedTextModel", "visits", "(I)V"⟩, 48) := ⟨⟨by decide +kernel, by decide +kernel⟩, lw_t_6 25 rfl, lw_t_7 188 rfl, lw_t_7 189 rfl⟩
theorem lw_p75 : lw_okq (⟨"BranchedTextModel", "cutNow", "(II)I"⟩, 48) := ⟨⟨by decide +kernel, by decide +kernel⟩, lw_t_6 25 rfl, lw_t_7 192 rfl, lw_t_7 193 rfl⟩
theorem lw_p76 : lw_okq (⟨"BranchedTextModel", "undoNow", "()I"⟩, 48) := ⟨⟨by decide +kernel, by decide +kernel⟩, lw_t_6 25 rfl, lw_t_7 196 rfl, lw_t_7 197 rfl⟩
theorem lw_p77 : lw_okq (⟨"BranchedTextModel", "redoNow", "()I"⟩, 48) := ⟨⟨by decide +kernel, by decide +kernel⟩, lw_t_6 25 rfl, lw_t_7 200 rfl, lw_t_7 201 rfl⟩
theorem lw_p78 : lw_okq (⟨"BranchedTextModel", "childOf", "(II)I"⟩, 48) := ⟨⟨by decide +kernel, by decide +kernel⟩, lw_t_6 25 rfl, lw_t_7 204 rfl, lw_t_7 205 rfl⟩
theorem lw_p79 : lw_okq (⟨"BranchedTextModel", "isState", "(I)Z"⟩, 48) := ⟨⟨by decide +kernel, by decide +kernel⟩, lw_t_6 25 rfl, lw_t_7 208 rfl, lw_t_7 209 rfl⟩
def lw_privs_5 : List (MethodName × Nat) := [(⟨"BranchedTextModel", "turns", "(I)V"⟩, 48), (⟨"BranchedTextModel", "names", "(II)Z"⟩, 48), (⟨"BranchedTextModel", "refuse", "(I)I"⟩, 48), (⟨"BranchedTextModel", "states", "()I"⟩, 48), (⟨"BranchedTextModel", "freeState", "()I"⟩, 48), (⟨"BranchedTextModel", "rowPlace", "(I)I"⟩, 48), (⟨"BranchedTextModel", "joins", "(III)Z"⟩, 48), (⟨"BranchedTextModel", "isNear", "(IIII)Z"⟩, 48), (⟨"BranchedTextModel", "holds", "()Z"⟩, 48), (⟨"BranchedTextModel", "begins", "(IIIIZ)V"⟩, 48), (⟨"BranchedTextModel", "visits", "(I)V"⟩, 48), (⟨"BranchedTextModel", "cutNow", "(II)I"⟩, 48), (⟨"BranchedTextModel", "undoNow", "()I"⟩, 48), (⟨"BranchedTextModel", "redoNow", "()I"⟩, 48), (⟨"BranchedTextModel", "childOf", "(II)I"⟩, 48), (⟨"BranchedTextModel", "isState", "(I)Z"⟩, 48)]
theorem lw_r5 : ∀ q ∈ lw_privs_5, lw_okq q := List.forall_mem_cons.mpr ⟨lw_p64, List.forall_mem_cons.mpr ⟨lw_p65, List.forall_mem_cons.mpr ⟨lw_p66, List.forall_mem_cons.mpr ⟨lw_p67, List.forall_mem_cons.mpr ⟨lw_p68, List.forall_mem_cons.mpr ⟨lw_p69, List.forall_mem_cons.mpr ⟨lw_p70, List.forall_mem_cons.mpr ⟨lw_p71, List.forall_mem_cons.mpr ⟨lw_p72, List.forall_mem_cons.mpr ⟨lw_p73, List.forall_mem_cons.mpr ⟨lw_p74, List.forall_mem_cons.mpr ⟨lw_p75, List.forall_mem_cons.mpr ⟨lw_p76, List.forall_mem_cons.mpr ⟨lw_p77, List.forall_mem_cons.mpr ⟨lw_p78, List.forall_mem_cons.mpr ⟨lw_p79, fun _ h => absurd h List.not_mem_nil⟩⟩⟩⟩⟩⟩⟩⟩⟩⟩⟩⟩⟩⟩⟩⟩
theorem lw_p80 : lw_okq (⟨"BranchedTextModel", "latestIn", "(I)I"⟩, 48) := ⟨⟨by decide +kernel, by decide +kernel⟩, lw_t_6 25 rfl, lw_t_7 212 rfl, lw_t_7 213 rfl⟩
theorem lw_p81 : lw_okq (⟨"BranchedTextModel", "isOfLine", "(II)Z"⟩, 48) := ⟨⟨by decide +kernel, by decide +kernel⟩, lw_t_6 25 rfl, lw_t_7 216 rfl, lw_t_7 217 rfl⟩
theorem lw_p82 : lw_okq (⟨"BranchedTextModel", "goNow", "(I)I"⟩, 48) := ⟨⟨by decide +kernel, by decide +kernel⟩, lw_t_6 25 rfl, lw_t_7 220 rfl, lw_t_7 221 rfl⟩
theorem lw_p83 : lw_okq (⟨"BranchedTextModel", "wayMany", "(II)I"⟩, 48) := ⟨⟨by decide +kernel, by decide +kernel⟩, lw_t_6 25 rfl, lw_t_7 224 rfl, lw_t_7 225 rfl⟩
theorem lw_p84 : lw_okq (⟨"BranchedTextModel", "commonOf", "(II)I"⟩, 48) := ⟨⟨by decide +kernel, by decide +kernel⟩, lw_t_6 25 rfl, lw_t_7 228 rfl, lw_t_7 229 rfl⟩
theorem lw_p85 : lw_okq (⟨"BranchedTextModel", "nameNow", "()I"⟩, 48) := ⟨⟨by decide +kernel, by decide +kernel⟩, lw_t_6 25 rfl, lw_t_7 232 rfl, lw_t_7 233 rfl⟩
theorem lw_p86 : lw_okq (⟨"BranchedTextModel", "nameAt", "(I)I"⟩, 48) := ⟨⟨by decide +kernel, by decide +kernel⟩, lw_t_6 25 rfl, lw_t_7 239 rfl, lw_t_8 0 rfl⟩
theorem lw_p87 : lw_okq (⟨"BranchedTextModel", "turnNow", "(II)I"⟩, 48) := ⟨⟨by decide +kernel, by decide +kernel⟩, lw_t_6 25 rfl, lw_t_8 3 rfl, lw_t_8 4 rfl⟩
theorem lw_p88 : lw_okq (⟨"BranchedTextModel", "marks", "(IZ)V"⟩, 48) := ⟨⟨by decide +kernel, by decide +kernel⟩, lw_t_6 25 rfl, lw_t_8 7 rfl, lw_t_8 8 rfl⟩
theorem lw_p89 : lw_okq (⟨"BranchedTextModel", "leansOn", "(II)Z"⟩, 48) := ⟨⟨by decide +kernel, by decide +kernel⟩, lw_t_6 25 rfl, lw_t_8 11 rfl, lw_t_8 12 rfl⟩
theorem lw_p90 : lw_okq (⟨"BranchedTextModel", "triesNames", "(I)I"⟩, 48) := ⟨⟨by decide +kernel, by decide +kernel⟩, lw_t_6 25 rfl, lw_t_8 15 rfl, lw_t_8 16 rfl⟩
theorem lw_p91 : lw_okq (⟨"BranchedTextModel", "namesToo", "(II)V"⟩, 48) := ⟨⟨by decide +kernel, by decide +kernel⟩, lw_t_6 25 rfl, lw_t_8 19 rfl, lw_t_8 20 rfl⟩
theorem lw_p92 : lw_okq (⟨"BranchedTextModel", "carryNow", "(I)I"⟩, 48) := ⟨⟨by decide +kernel, by decide +kernel⟩, lw_t_6 25 rfl, lw_t_8 23 rfl, lw_t_8 24 rfl⟩
theorem lw_p93 : lw_okq (⟨"BranchedTextModel", "plain", "()V"⟩, 48) := ⟨⟨by decide +kernel, by decide +kernel⟩, lw_t_6 25 rfl, lw_t_8 27 rfl, lw_t_8 28 rfl⟩
theorem lw_p94 : lw_okq (⟨"BranchedTextModel", "carries", "(I)I"⟩, 48) := ⟨⟨by decide +kernel, by decide +kernel⟩, lw_t_6 25 rfl, lw_t_8 31 rfl, lw_t_8 32 rfl⟩
theorem lw_p95 : lw_okq (⟨"BranchedTextModel", "carriesCut", "(I)I"⟩, 48) := ⟨⟨by decide +kernel, by decide +kernel⟩, lw_t_6 25 rfl, lw_t_8 35 rfl, lw_t_8 36 rfl⟩
def lw_privs_6 : List (MethodName × Nat) := [(⟨"BranchedTextModel", "latestIn", "(I)I"⟩, 48), (⟨"BranchedTextModel", "isOfLine", "(II)Z"⟩, 48), (⟨"BranchedTextModel", "goNow", "(I)I"⟩, 48), (⟨"BranchedTextModel", "wayMany", "(II)I"⟩, 48), (⟨"BranchedTextModel", "commonOf", "(II)I"⟩, 48), (⟨"BranchedTextModel", "nameNow", "()I"⟩, 48), (⟨"BranchedTextModel", "nameAt", "(I)I"⟩, 48), (⟨"BranchedTextModel", "turnNow", "(II)I"⟩, 48), (⟨"BranchedTextModel", "marks", "(IZ)V"⟩, 48), (⟨"BranchedTextModel", "leansOn", "(II)Z"⟩, 48), (⟨"BranchedTextModel", "triesNames", "(I)I"⟩, 48), (⟨"BranchedTextModel", "namesToo", "(II)V"⟩, 48), (⟨"BranchedTextModel", "carryNow", "(I)I"⟩, 48), (⟨"BranchedTextModel", "plain", "()V"⟩, 48), (⟨"BranchedTextModel", "carries", "(I)I"⟩, 48), (⟨"BranchedTextModel", "carriesCut", "(I)I"⟩, 48)]
theorem lw_r6 : ∀ q ∈ lw_privs_6, lw_okq q := List.forall_mem_cons.mpr ⟨lw_p80, List.forall_mem_cons.mpr ⟨lw_p81, List.forall_mem_cons.mpr ⟨lw_p82, List.forall_mem_cons.mpr ⟨lw_p83, List.forall_mem_cons.mpr ⟨lw_p84, List.forall_mem_cons.mpr ⟨lw_p85, List.forall_mem_cons.mpr ⟨lw_p86, List.forall_mem_cons.mpr ⟨lw_p87, List.forall_mem_cons.mpr ⟨lw_p88, List.forall_mem_cons.mpr ⟨lw_p89, List.forall_mem_cons.mpr ⟨lw_p90, List.forall_mem_cons.mpr ⟨lw_p91, List.forall_mem_cons.mpr ⟨lw_p92, List.forall_mem_cons.mpr ⟨lw_p93, List.forall_mem_cons.mpr ⟨lw_p94, List.forall_mem_cons.mpr ⟨lw_p95, fun _ h => absurd h List.not_mem_nil⟩⟩⟩⟩⟩⟩⟩⟩⟩⟩⟩⟩⟩⟩⟩⟩
theorem lw_p96 : lw_okq (⟨"BranchedTextModel", "isTaken", "(II)Z"⟩, 48) := ⟨⟨by decide +kernel, by decide +kernel⟩, lw_t_6 25 rfl, lw_t_8 39 rfl, lw_t_8 40 rfl⟩
theorem lw_p97 : lw_okq (⟨"BranchedTextModel", "mergeNow", "(I)I"⟩, 48) := ⟨⟨by decide +kernel, by decide +kernel⟩, lw_t_6 25 rfl, lw_t_8 43 rfl, lw_t_8 44 rfl⟩
theorem lw_p98 : lw_okq (⟨"BranchedTextModel", "pruneNow", "(I)I"⟩, 48) := ⟨⟨by decide +kernel, by decide +kernel⟩, lw_t_6 25 rfl, lw_t_8 47 rfl, lw_t_8 48 rfl⟩
theorem lw_p99 : lw_okq (⟨"BranchedTextModel", "firstOut", "()I"⟩, 48) := ⟨⟨by decide +kernel, by decide +kernel⟩, lw_t_6 25 rfl, lw_t_8 51 rfl, lw_t_8 52 rfl⟩
theorem lw_p100 : lw_okq (⟨"BranchedTextModel", "childrenOf", "(I)I"⟩, 48) := ⟨⟨by decide +kernel, by decide +kernel⟩, lw_t_6 25 rfl, lw_t_8 55 rfl, lw_t_8 56 rfl⟩
theorem lw_p101 : lw_okq (⟨"BranchedTextModel", "namesOf", "(I)I"⟩, 48) := ⟨⟨by decide +kernel, by decide +kernel⟩, lw_t_6 25 rfl, lw_t_8 59 rfl, lw_t_8 60 rfl⟩
theorem lw_p102 : lw_okq (⟨"BranchedTextModel", "leaves", "()I"⟩, 48) := ⟨⟨by decide +kernel, by decide +kernel⟩, lw_t_6 25 rfl, lw_t_8 71 rfl, lw_t_8 72 rfl⟩
theorem lw_p103 : lw_okq (⟨"BranchedTextModel", "groups", "()I"⟩, 48) := ⟨⟨by decide +kernel, by decide +kernel⟩, lw_t_6 25 rfl, lw_t_8 75 rfl, lw_t_8 76 rfl⟩
theorem lw_p104 : lw_okq (⟨"BranchedTextModel", "gone", "()I"⟩, 48) := ⟨⟨by decide +kernel, by decide +kernel⟩, lw_t_6 25 rfl, lw_t_8 79 rfl, lw_t_8 80 rfl⟩
theorem lw_p105 : lw_okq (⟨"BranchedTextModel", "letterIn", "(I)I"⟩, 48) := ⟨⟨by decide +kernel, by decide +kernel⟩, lw_t_6 25 rfl, lw_t_8 87 rfl, lw_t_8 88 rfl⟩
theorem lw_p106 : lw_okq (⟨"BranchedTextModel", "cutsOf", "(IIZ)I"⟩, 48) := ⟨⟨by decide +kernel, by decide +kernel⟩, lw_t_6 25 rfl, lw_t_8 111 rfl, lw_t_8 112 rfl⟩
theorem lw_p107 : lw_okq (⟨"BranchedTextModel", "hand", "()V"⟩, 48) := ⟨⟨by decide +kernel, by decide +kernel⟩, lw_t_6 25 rfl, lw_t_8 131 rfl, lw_t_8 132 rfl⟩
theorem lw_p108 : lw_okq (⟨"BranchedTextModel", "differ", "(II)I"⟩, 48) := ⟨⟨by decide +kernel, by decide +kernel⟩, lw_t_6 25 rfl, lw_t_8 195 rfl, lw_t_8 196 rfl⟩
theorem lw_p109 : lw_okq (⟨"BranchedTextModel", "copies", "(I[I)I"⟩, 48) := ⟨⟨by decide +kernel, by decide +kernel⟩, lw_t_6 25 rfl, lw_t_8 199 rfl, lw_t_8 200 rfl⟩
theorem lw_p110 : lw_okq (⟨"BranchedTextModel", "keptOf", "(II)I"⟩, 48) := ⟨⟨by decide +kernel, by decide +kernel⟩, lw_t_6 25 rfl, lw_t_8 203 rfl, lw_t_8 204 rfl⟩
theorem lw_p111 : lw_okq (⟨"BranchedTextModel", "keysOf", "(I)I"⟩, 48) := ⟨⟨by decide +kernel, by decide +kernel⟩, lw_t_6 25 rfl, lw_t_8 207 rfl, lw_t_8 208 rfl⟩
def lw_privs_7 : List (MethodName × Nat) := [(⟨"BranchedTextModel", "isTaken", "(II)Z"⟩, 48), (⟨"BranchedTextModel", "mergeNow", "(I)I"⟩, 48), (⟨"BranchedTextModel", "pruneNow", "(I)I"⟩, 48), (⟨"BranchedTextModel", "firstOut", "()I"⟩, 48), (⟨"BranchedTextModel", "childrenOf", "(I)I"⟩, 48), (⟨"BranchedTextModel", "namesOf", "(I)I"⟩, 48), (⟨"BranchedTextModel", "leaves", "()I"⟩, 48), (⟨"BranchedTextModel", "groups", "()I"⟩, 48), (⟨"BranchedTextModel", "gone", "()I"⟩, 48), (⟨"BranchedTextModel", "letterIn", "(I)I"⟩, 48), (⟨"BranchedTextModel", "cutsOf", "(IIZ)I"⟩, 48), (⟨"BranchedTextModel", "hand", "()V"⟩, 48), (⟨"BranchedTextModel", "differ", "(II)I"⟩, 48), (⟨"BranchedTextModel", "copies", "(I[I)I"⟩, 48), (⟨"BranchedTextModel", "keptOf", "(II)I"⟩, 48), (⟨"BranchedTextModel", "keysOf", "(I)I"⟩, 48)]
theorem lw_r7 : ∀ q ∈ lw_privs_7, lw_okq q := List.forall_mem_cons.mpr ⟨lw_p96, List.forall_mem_cons.mpr ⟨lw_p97, List.forall_mem_cons.mpr ⟨lw_p98, List.forall_mem_cons.mpr ⟨lw_p99, List.forall_mem_cons.mpr ⟨lw_p100, List.forall_mem_cons.mpr ⟨lw_p101, List.forall_mem_cons.mpr ⟨lw_p102, List.forall_mem_cons.mpr ⟨lw_p103, List.forall_mem_cons.mpr ⟨lw_p104, List.forall_mem_cons.mpr ⟨lw_p105, List.forall_mem_cons.mpr ⟨lw_p106, List.forall_mem_cons.mpr ⟨lw_p107, List.forall_mem_cons.mpr ⟨lw_p108, List.forall_mem_cons.mpr ⟨lw_p109, List.forall_mem_cons.mpr ⟨lw_p110, List.forall_mem_cons.mpr ⟨lw_p111, fun _ h => absurd h List.not_mem_nil⟩⟩⟩⟩⟩⟩⟩⟩⟩⟩⟩⟩⟩⟩⟩⟩
theorem lw_p112 : lw_okq (⟨"BranchedTextModel", "tells", "(I)V"⟩, 48) := ⟨⟨by decide +kernel, by decide +kernel⟩, lw_t_6 25 rfl, lw_t_8 223 rfl, lw_t_8 224 rfl⟩
theorem lw_p113 : lw_okq (⟨"BranchedTextModel", "tellsNumber", "(I)V"⟩, 48) := ⟨⟨by decide +kernel, by decide +kernel⟩, lw_t_6 25 rfl, lw_t_8 227 rfl, lw_t_8 228 rfl⟩
theorem lw_p114 : lw_okq (⟨"BranchedTextModel", "tellsNames", "()V"⟩, 48) := ⟨⟨by decide +kernel, by decide +kernel⟩, lw_t_6 25 rfl, lw_t_8 231 rfl, lw_t_8 232 rfl⟩
theorem lw_p115 : lw_okq (⟨"BranchedTextModel", "placeIn", "(I)I"⟩, 48) := ⟨⟨by decide +kernel, by decide +kernel⟩, lw_t_6 25 rfl, lw_t_9 7 rfl, lw_t_9 8 rfl⟩
def lw_privs_8 : List (MethodName × Nat) := [(⟨"BranchedTextModel", "tells", "(I)V"⟩, 48), (⟨"BranchedTextModel", "tellsNumber", "(I)V"⟩, 48), (⟨"BranchedTextModel", "tellsNames", "()V"⟩, 48), (⟨"BranchedTextModel", "placeIn", "(I)I"⟩, 48)]
theorem lw_r8 : ∀ q ∈ lw_privs_8, lw_okq q := List.forall_mem_cons.mpr ⟨lw_p112, List.forall_mem_cons.mpr ⟨lw_p113, List.forall_mem_cons.mpr ⟨lw_p114, List.forall_mem_cons.mpr ⟨lw_p115, fun _ h => absurd h List.not_mem_nil⟩⟩⟩⟩
def lw_privs : List (MethodName × Nat) := lw_privs_1 ++ (lw_privs_2 ++ (lw_privs_3 ++ (lw_privs_4 ++ (lw_privs_5 ++ (lw_privs_6 ++ (lw_privs_7 ++ (lw_privs_8)))))))
def lw_tbl : List Cond := k2_sels lw_privs ++ tables_1
theorem lw_privs_ok : ∀ q ∈ lw_privs, lw_okq q := by
  show ∀ q ∈ lw_privs_1 ++ (lw_privs_2 ++ (lw_privs_3 ++ (lw_privs_4 ++ (lw_privs_5 ++ (lw_privs_6 ++ (lw_privs_7 ++ (lw_privs_8))))))), lw_okq q
  exact List.forall_mem_append.mpr ⟨lw_r1, List.forall_mem_append.mpr ⟨lw_r2, List.forall_mem_append.mpr ⟨lw_r3, List.forall_mem_append.mpr ⟨lw_r4, List.forall_mem_append.mpr ⟨lw_r5, List.forall_mem_append.mpr ⟨lw_r6, List.forall_mem_append.mpr ⟨lw_r7, lw_r8⟩⟩⟩⟩⟩⟩⟩
-- ===== end of PART A; then your names; then what follows =====
def RX0 : String := "BranchedText$History"
def TX0 : u_T := fun k => match k with
  | 0 => ("BranchedText$History", "start", "LBranchedText$State;", true)
  | 1 => ("BranchedText$History", "states", "[LBranchedText$State;", true)
  | 2 => ("BranchedText$History", "glyphs", "[I", true)
  | 3 => ("BranchedText$History", "stands", "[I", true)
  | 4 => ("BranchedText$History", "lengths", "[I", true)
  | 5 => ("BranchedText$History", "row", "LBranchedText$Row;", true)
  | 6 => ("BranchedText$History", "names", "LBranchedText$Names;", true)
  | 7 => ("BranchedText$History", "visits", "LBranchedText$Visits;", true)
  | 8 => ("BranchedText$History", "join", "LBranchedText$JoinTest;", true)
  | 9 => ("BranchedText$History", "carried", "LBranchedText$Word;", true)
  | 10 => ("BranchedText$History", "here", "LBranchedText$State;", false)
  | 11 => ("BranchedText$History", "now", "I", false)
  | 12 => ("BranchedText$History", "count", "I", false)
  | _ => ("BranchedText$History", "leftOut", "I", false)
def tyX0 : Nat → FieldType := fun k => match k with
  | 0 => .object "BranchedText$State"
  | 1 => .array (.object "BranchedText$State")
  | 2 => .array .int
  | 3 => .array .int
  | 4 => .array .int
  | 5 => .object "BranchedText$Row"
  | 6 => .object "BranchedText$Names"
  | 7 => .object "BranchedText$Visits"
  | 8 => .object "BranchedText$JoinTest"
  | 9 => .object "BranchedText$Word"
  | 10 => .object "BranchedText$State"
  | 11 => .int
  | 12 => .int
  | _ => .int
abbrev wsX00 : List Cond := u_ws RX0 TX0 14
def RX1 : String := "BranchedText$JoinTest"
def TX1 : u_T := fun k => match k with
  | 0 => ("BranchedText$JoinTest", "steps", "[I", true)
  | 1 => ("BranchedText$JoinTest", "numbers", "[I", true)
  | 2 => ("BranchedText$JoinTest", "values", "[I", true)
  | _ => ("BranchedText$JoinTest", "size", "I", false)
def tyX1 : Nat → FieldType := fun k => match k with
  | 0 => .array .int
  | 1 => .array .int
  | 2 => .array .int
  | _ => .int
abbrev wsX10 : List Cond := u_ws RX1 TX1 4
def RX2 : String := "BranchedText$Names"
def TX2 : u_T := fun k => match k with
  | 0 => ("BranchedText$Names", "keys", "[I", true)
  | 1 => ("BranchedText$Names", "owners", "[I", true)
  | _ => ("BranchedText$Names", "size", "I", false)
def tyX2 : Nat → FieldType := fun k => match k with
  | 0 => .array .int
  | 1 => .array .int
  | _ => .int
abbrev wsX20 : List Cond := u_ws RX2 TX2 3
def RX3 : String := "BranchedText$Reader"
def TX3 : u_T := fun k => match k with
  | 0 => ("BranchedText$Reader", "tape", "[I", true)
  | 1 => ("BranchedText$Reader", "word", "LBranchedText$Word;", true)
  | 2 => ("BranchedText$Reader", "tapeSize", "I", false)
  | 3 => ("BranchedText$Reader", "length", "I", false)
  | 4 => ("BranchedText$Reader", "kind", "I", false)
  | 5 => ("BranchedText$Reader", "from", "I", false)
  | 6 => ("BranchedText$Reader", "end", "I", false)
  | 7 => ("BranchedText$Reader", "value", "I", false)
  | 8 => ("BranchedText$Reader", "fault", "I", false)
  | 9 => ("BranchedText$Reader", "faultPlace", "I", false)
  | 10 => ("BranchedText$Reader", "verb", "I", false)
  | 11 => ("BranchedText$Reader", "one", "I", false)
  | _ => ("BranchedText$Reader", "two", "I", false)
def tyX3 : Nat → FieldType := fun k => match k with
  | 0 => .array .int
  | 1 => .object "BranchedText$Word"
  | 2 => .int
  | 3 => .int
  | 4 => .int
  | 5 => .int
  | 6 => .int
  | 7 => .int
  | 8 => .int
  | 9 => .int
  | 10 => .int
  | 11 => .int
  | _ => .int
abbrev wsX30 : List Cond := u_ws RX3 TX3 13
def RX4 : String := "BranchedText$Row"
def TX4 : u_T := fun k => match k with
  | 0 => ("BranchedText$Row", "path", "[LBranchedText$State;", true)
  | 1 => ("BranchedText$Row", "ids", "[I", true)
  | 2 => ("BranchedText$Row", "sees", "[Z", true)
  | 3 => ("BranchedText$Row", "gone", "[Z", true)
  | 4 => ("BranchedText$Row", "next", "[I", true)
  | 5 => ("BranchedText$Row", "length", "I", false)
  | 6 => ("BranchedText$Row", "size", "I", false)
  | 7 => ("BranchedText$Row", "seen", "I", false)
  | 8 => ("BranchedText$Row", "acts", "J", false)
  | _ => ("BranchedText$Row", "force", "J", false)
def tyX4 : Nat → FieldType := fun k => match k with
  | 0 => .array (.object "BranchedText$State")
  | 1 => .array .int
  | 2 => .array .boolean
  | 3 => .array .boolean
  | 4 => .array .int
  | 5 => .int
  | 6 => .int
  | 7 => .int
  | 8 => .long
  | _ => .long
abbrev wsX40 : List Cond := u_ws RX4 TX4 10
def RX5 : String := "BranchedText$State"
def TX5 : u_T := fun k => match k with
  | 0 => ("BranchedText$State", "number", "I", true)
  | 1 => ("BranchedText$State", "took", "[I", true)
  | 2 => ("BranchedText$State", "document", "[I", true)
  | 3 => ("BranchedText$State", "there", "Z", false)
  | 4 => ("BranchedText$State", "parent", "LBranchedText$State;", false)
  | 5 => ("BranchedText$State", "first", "LBranchedText$State;", false)
  | 6 => ("BranchedText$State", "act", "I", false)
  | 7 => ("BranchedText$State", "time", "I", false)
  | 8 => ("BranchedText$State", "place", "I", false)
  | 9 => ("BranchedText$State", "size", "I", false)
  | 10 => ("BranchedText$State", "depth", "I", false)
  | 11 => ("BranchedText$State", "children", "I", false)
  | 12 => ("BranchedText$State", "letters", "I", false)
  | 13 => ("BranchedText$State", "visited", "I", false)
  | 14 => ("BranchedText$State", "newest", "I", false)
  | 15 => ("BranchedText$State", "anchor", "I", false)
  | 16 => ("BranchedText$State", "named", "J", false)
  | _ => ("BranchedText$State", "base", "J", false)
def tyX5 : Nat → FieldType := fun k => match k with
  | 0 => .int
  | 1 => .array .int
  | 2 => .array .int
  | 3 => .boolean
  | 4 => .object "BranchedText$State"
  | 5 => .object "BranchedText$State"
  | 6 => .int
  | 7 => .int
  | 8 => .int
  | 9 => .int
  | 10 => .int
  | 11 => .int
  | 12 => .int
  | 13 => .int
  | 14 => .int
  | 15 => .int
  | 16 => .long
  | _ => .long
abbrev wsX50 : List Cond := u_ws RX5 TX5 18
def RX6 : String := "BranchedText$Visits"
def TX6 : u_T := fun k => match k with
  | 0 => ("BranchedText$Visits", "states", "[I", true)
  | 1 => ("BranchedText$Visits", "times", "[I", true)
  | 2 => ("BranchedText$Visits", "keptStates", "[I", true)
  | 3 => ("BranchedText$Visits", "keptTimes", "[I", true)
  | 4 => ("BranchedText$Visits", "count", "I", false)
  | _ => ("BranchedText$Visits", "keptCount", "I", false)
def tyX6 : Nat → FieldType := fun k => match k with
  | 0 => .array .int
  | 1 => .array .int
  | 2 => .array .int
  | 3 => .array .int
  | 4 => .int
  | _ => .int
abbrev wsX60 : List Cond := u_ws RX6 TX6 6
def RX7 : String := "BranchedText$Word"
def TX7 : u_T := fun k => match k with
  | 0 => ("BranchedText$Word", "letters", "[I", true)
  | _ => ("BranchedText$Word", "size", "I", false)
def tyX7 : Nat → FieldType := fun k => match k with
  | 0 => .array .int
  | _ => .int
abbrev wsX70 : List Cond := u_ws RX7 TX7 2
def RX8 : String := "BranchedText"
def TX8 : u_T := fun k => match k with
  | 0 => ("BranchedText", "told", "[I", true)
  | 1 => ("BranchedText", "typed", "LBranchedText$Word;", true)
  | 2 => ("BranchedText", "reader", "LBranchedText$Reader;", true)
  | 3 => ("BranchedText", "history", "LBranchedText$History;", false)
  | 4 => ("BranchedText", "spare", "LBranchedText$History;", false)
  | 5 => ("BranchedText", "toldSize", "I", false)
  | 6 => ("BranchedText", "status", "I", false)
  | _ => ("BranchedText", "loaded", "Z", false)
def tyX8 : Nat → FieldType := fun k => match k with
  | 0 => .array .int
  | 1 => .object "BranchedText$Word"
  | 2 => .object "BranchedText$Reader"
  | 3 => .object "BranchedText$History"
  | 4 => .object "BranchedText$History"
  | 5 => .int
  | 6 => .int
  | _ => .boolean
abbrev wsX80 : List Cond := u_ws RX8 TX8 8
def RX9 : String := "BranchedTextModel"
def TX9 : u_T := fun k => match k with
  | 0 => ("BranchedTextModel", "c", "[I", true)
  | 1 => ("BranchedTextModel", "whole", "[I", true)
  | 2 => ("BranchedTextModel", "paper", "[I", true)
  | 3 => ("BranchedTextModel", "status", "I", false)
  | 4 => ("BranchedTextModel", "thrown", "I", false)
  | 5 => ("BranchedTextModel", "line", "[I", true)
  | 6 => ("BranchedTextModel", "rowBy", "[I", true)
  | 7 => ("BranchedTextModel", "rowAt", "[I", true)
  | 8 => ("BranchedTextModel", "force", "[Z", true)
  | 9 => ("BranchedTextModel", "seen", "[Z", true)
  | 10 => ("BranchedTextModel", "lineMany", "I", false)
  | 11 => ("BranchedTextModel", "rowMany", "I", false)
  | 12 => ("BranchedTextModel", "seenMany", "I", false)
  | 13 => ("BranchedTextModel", "doc", "[I", true)
  | 14 => ("BranchedTextModel", "other", "[I", true)
  | 15 => ("BranchedTextModel", "facts", "[I", true)
  | 16 => ("BranchedTextModel", "stack", "[Z", true)
  | 17 => ("BranchedTextModel", "word", "[I", true)
  | 18 => ("BranchedTextModel", "typed", "[I", true)
  | 19 => ("BranchedTextModel", "wordMany", "I", false)
  | 20 => ("BranchedTextModel", "typedMany", "I", false)
  | 21 => ("BranchedTextModel", "standsFor", "[I", true)
  | 22 => ("BranchedTextModel", "merged", "[I", true)
  | 23 => ("BranchedTextModel", "inForce", "[Z", true)
  | 24 => ("BranchedTextModel", "leftOut", "I", false)
  | 25 => ("BranchedTextModel", "marked", "[Z", true)
  | 26 => ("BranchedTextModel", "tape", "[B", true)
  | 27 => ("BranchedTextModel", "taped", "I", false)
  | 28 => ("BranchedTextModel", "faultKind", "I", false)
  | 29 => ("BranchedTextModel", "faultAt", "I", false)
  | 30 => ("BranchedTextModel", "wrong", "I", false)
  | 31 => ("BranchedTextModel", "wrongAt", "I", false)
  | 32 => ("BranchedTextModel", "at", "I", false)
  | 33 => ("BranchedTextModel", "next", "I", false)
  | 34 => ("BranchedTextModel", "sort", "I", false)
  | 35 => ("BranchedTextModel", "number", "I", false)
  | 36 => ("BranchedTextModel", "end", "I", false)
  | 37 => ("BranchedTextModel", "deep", "I", false)
  | 38 => ("BranchedTextModel", "key", "J", false)
  | 39 => ("BranchedTextModel", "lines", "[J", true)
  | 40 => ("BranchedTextModel", "others", "[J", true)
  | 41 => ("BranchedTextModel", "values", "[J", true)
  | 42 => ("BranchedTextModel", "first", "I", false)
  | 43 => ("BranchedTextModel", "second", "I", false)
  | 44 => ("BranchedTextModel", "keys", "[I", true)
  | 45 => ("BranchedTextModel", "common", "[I", true)
  | 46 => ("BranchedTextModel", "out", "[I", true)
  | _ => ("BranchedTextModel", "outMany", "I", false)
def tyX9 : Nat → FieldType := fun k => match k with
  | 0 => .array .int
  | 1 => .array .int
  | 2 => .array .int
  | 3 => .int
  | 4 => .int
  | 5 => .array .int
  | 6 => .array .int
  | 7 => .array .int
  | 8 => .array .boolean
  | 9 => .array .boolean
  | 10 => .int
  | 11 => .int
  | 12 => .int
  | 13 => .array .int
  | 14 => .array .int
  | 15 => .array .int
  | 16 => .array .boolean
  | 17 => .array .int
  | 18 => .array .int
  | 19 => .int
  | 20 => .int
  | 21 => .array .int
  | 22 => .array .int
  | 23 => .array .boolean
  | 24 => .int
  | 25 => .array .boolean
  | 26 => .array .byte
  | 27 => .int
  | 28 => .int
  | 29 => .int
  | 30 => .int
  | 31 => .int
  | 32 => .int
  | 33 => .int
  | 34 => .int
  | 35 => .int
  | 36 => .int
  | 37 => .int
  | 38 => .long
  | 39 => .array .long
  | 40 => .array .long
  | 41 => .array .long
  | 42 => .int
  | 43 => .int
  | 44 => .array .int
  | 45 => .array .int
  | 46 => .array .int
  | _ => .int
abbrev wsX90 : List Cond := u_ws RX9 TX9 48
abbrev vwCl : List vw_C := [(RX0, TX0, 14), (RX1, TX1, 4), (RX2, TX2, 3), (RX3, TX3, 13), (RX4, TX4, 10), (RX5, TX5, 18), (RX6, TX6, 6), (RX7, TX7, 2), (RX8, TX8, 8), (RX9, TX9, 48)]
theorem nmX0 : ∀ a, a < 14 → ∀ b, b < 14 → a ≠ b → (TX0 a).2.1 ≠ (TX0 b).2.1 := by decide +kernel
theorem tyX0_ok : ∀ k, k < 14 → parseFieldDescriptor (TX0 k).2.2.1 = some (tyX0 k) := by decide +kernel
theorem tpX0 : wsX00 = [363, 365, 367, 369, 371, 373, 375, 377, 379, 381, 383, 385, 387, 389].filterMap (fun i => tables_1[i]?) := by decide +kernel
theorem inX0 : ∀ w ∈ wsX00, w ∈ lw_tbl := by
  intro w hw
  rw [tpX0] at hw
  obtain ⟨i, -, hi⟩ := List.mem_filterMap.mp hw
  exact List.mem_append_right _ (List.mem_of_getElem? hi)
theorem nmX1 : ∀ a, a < 4 → ∀ b, b < 4 → a ≠ b → (TX1 a).2.1 ≠ (TX1 b).2.1 := by decide +kernel
theorem tyX1_ok : ∀ k, k < 4 → parseFieldDescriptor (TX1 k).2.2.1 = some (tyX1 k) := by decide +kernel
theorem tpX1 : wsX10 = [307, 309, 311, 313].filterMap (fun i => tables_1[i]?) := by decide +kernel
theorem inX1 : ∀ w ∈ wsX10, w ∈ lw_tbl := by
  intro w hw
  rw [tpX1] at hw
  obtain ⟨i, -, hi⟩ := List.mem_filterMap.mp hw
  exact List.mem_append_right _ (List.mem_of_getElem? hi)
theorem nmX2 : ∀ a, a < 3 → ∀ b, b < 3 → a ≠ b → (TX2 a).2.1 ≠ (TX2 b).2.1 := by decide +kernel
theorem tyX2_ok : ∀ k, k < 3 → parseFieldDescriptor (TX2 k).2.2.1 = some (tyX2 k) := by decide +kernel
theorem tpX2 : wsX20 = [263, 265, 267].filterMap (fun i => tables_1[i]?) := by decide +kernel
theorem inX2 : ∀ w ∈ wsX20, w ∈ lw_tbl := by
  intro w hw
  rw [tpX2] at hw
  obtain ⟨i, -, hi⟩ := List.mem_filterMap.mp hw
  exact List.mem_append_right _ (List.mem_of_getElem? hi)
theorem nmX3 : ∀ a, a < 13 → ∀ b, b < 13 → a ≠ b → (TX3 a).2.1 ≠ (TX3 b).2.1 := by decide +kernel
theorem tyX3_ok : ∀ k, k < 13 → parseFieldDescriptor (TX3 k).2.2.1 = some (tyX3 k) := by decide +kernel
theorem tpX3 : wsX30 = [71, 73, 75, 77, 79, 81, 83, 85, 87, 89, 91, 93, 95].filterMap (fun i => tables_1[i]?) := by decide +kernel
theorem inX3 : ∀ w ∈ wsX30, w ∈ lw_tbl := by
  intro w hw
  rw [tpX3] at hw
  obtain ⟨i, -, hi⟩ := List.mem_filterMap.mp hw
  exact List.mem_append_right _ (List.mem_of_getElem? hi)
theorem nmX4 : ∀ a, a < 10 → ∀ b, b < 10 → a ≠ b → (TX4 a).2.1 ≠ (TX4 b).2.1 := by decide +kernel
theorem tyX4_ok : ∀ k, k < 10 → parseFieldDescriptor (TX4 k).2.2.1 = some (tyX4 k) := by decide +kernel
theorem tpX4 : wsX40 = [230, 232, 234, 236, 238, 240, 242, 244, 246, 248].filterMap (fun i => tables_1[i]?) := by decide +kernel
theorem inX4 : ∀ w ∈ wsX40, w ∈ lw_tbl := by
  intro w hw
  rw [tpX4] at hw
  obtain ⟨i, -, hi⟩ := List.mem_filterMap.mp hw
  exact List.mem_append_right _ (List.mem_of_getElem? hi)
theorem nmX5 : ∀ a, a < 18 → ∀ b, b < 18 → a ≠ b → (TX5 a).2.1 ≠ (TX5 b).2.1 := by decide +kernel
theorem tyX5_ok : ∀ k, k < 18 → parseFieldDescriptor (TX5 k).2.2.1 = some (tyX5 k) := by decide +kernel
theorem tpX5 : wsX50 = [166, 168, 170, 172, 174, 176, 178, 180, 182, 184, 186, 188, 190, 192, 194, 196, 198, 200].filterMap (fun i => tables_1[i]?) := by decide +kernel
theorem inX5 : ∀ w ∈ wsX50, w ∈ lw_tbl := by
  intro w hw
  rw [tpX5] at hw
  obtain ⟨i, -, hi⟩ := List.mem_filterMap.mp hw
  exact List.mem_append_right _ (List.mem_of_getElem? hi)
theorem nmX6 : ∀ a, a < 6 → ∀ b, b < 6 → a ≠ b → (TX6 a).2.1 ≠ (TX6 b).2.1 := by decide +kernel
theorem tyX6_ok : ∀ k, k < 6 → parseFieldDescriptor (TX6 k).2.2.1 = some (tyX6 k) := by decide +kernel
theorem tpX6 : wsX60 = [284, 286, 288, 290, 292, 294].filterMap (fun i => tables_1[i]?) := by decide +kernel
theorem inX6 : ∀ w ∈ wsX60, w ∈ lw_tbl := by
  intro w hw
  rw [tpX6] at hw
  obtain ⟨i, -, hi⟩ := List.mem_filterMap.mp hw
  exact List.mem_append_right _ (List.mem_of_getElem? hi)
theorem nmX7 : ∀ a, a < 2 → ∀ b, b < 2 → a ≠ b → (TX7 a).2.1 ≠ (TX7 b).2.1 := by decide +kernel
theorem tyX7_ok : ∀ k, k < 2 → parseFieldDescriptor (TX7 k).2.2.1 = some (tyX7 k) := by decide +kernel
theorem tpX7 : wsX70 = [37, 39].filterMap (fun i => tables_1[i]?) := by decide +kernel
theorem inX7 : ∀ w ∈ wsX70, w ∈ lw_tbl := by
  intro w hw
  rw [tpX7] at hw
  obtain ⟨i, -, hi⟩ := List.mem_filterMap.mp hw
  exact List.mem_append_right _ (List.mem_of_getElem? hi)
theorem nmX8 : ∀ a, a < 8 → ∀ b, b < 8 → a ≠ b → (TX8 a).2.1 ≠ (TX8 b).2.1 := by decide +kernel
theorem tyX8_ok : ∀ k, k < 8 → parseFieldDescriptor (TX8 k).2.2.1 = some (tyX8 k) := by decide +kernel
theorem tpX8 : wsX80 = [400, 402, 404, 406, 408, 410, 412, 414].filterMap (fun i => tables_1[i]?) := by decide +kernel
theorem inX8 : ∀ w ∈ wsX80, w ∈ lw_tbl := by
  intro w hw
  rw [tpX8] at hw
  obtain ⟨i, -, hi⟩ := List.mem_filterMap.mp hw
  exact List.mem_append_right _ (List.mem_of_getElem? hi)
theorem nmX9 : ∀ a, a < 48 → ∀ b, b < 48 → a ≠ b → (TX9 a).2.1 ≠ (TX9 b).2.1 := by decide +kernel
theorem tyX9_ok : ∀ k, k < 48 → parseFieldDescriptor (TX9 k).2.2.1 = some (tyX9 k) := by decide +kernel
theorem tpX9 : wsX90 = [1309, 1311, 1313, 1315, 1317, 1319, 1321, 1323, 1325, 1327, 1329, 1331, 1333, 1335, 1337, 1339, 1341, 1343, 1345, 1347, 1349, 1351, 1353, 1355, 1357, 1359, 1361, 1363, 1365, 1367, 1369, 1371, 1373, 1375, 1377, 1379, 1381, 1383, 1385, 1387, 1389, 1391, 1393, 1395, 1397, 1399, 1401, 1403].filterMap (fun i => tables_1[i]?) := by decide +kernel
theorem inX9 : ∀ w ∈ wsX90, w ∈ lw_tbl := by
  intro w hw
  rw [tpX9] at hw
  obtain ⟨i, -, hi⟩ := List.mem_filterMap.mp hw
  exact List.mem_append_right _ (List.mem_of_getElem? hi)
end
/-! 02.lay -/
section
/-! the fields' kinds (0 int, 1 boolean, 2 long, 3 reference), class by class; the cells that the law makes, in order (0 none, 1 an object of a class, 2 ints, 3 booleans, 4 bytes, 5 longs, 6 States) -/
def zv_fts : List (List Nat) := [[3, 3, 3, 3, 3, 3, 3, 3, 3, 3, 3, 0, 0, 0], [3, 3, 3, 0], [3, 3, 0], [3, 3, 0, 0, 0, 0, 0, 0, 0, 0, 0, 0, 0], [3, 3, 3, 3, 3, 0, 0, 0, 2, 2], [0, 3, 3, 1, 3, 3, 0, 0, 0, 0, 0, 0, 0, 0, 0, 0, 2, 2], [3, 3, 3, 3, 0, 0], [3, 0], [3, 3, 3, 3, 3, 0, 0, 1], [3, 3, 3, 0, 0, 3, 3, 3, 3, 3, 0, 0, 0, 3, 3, 3, 3, 3, 3, 0, 0, 3, 3, 3, 0, 3, 3, 0, 0, 0, 0, 0, 0, 0, 0, 0, 0, 0, 2, 3, 3, 3, 0, 0, 3, 3, 3, 0], [5, 4]]
def zv_layL : List (Nat × Nat) := [(0, 0), (1, 8), (2, 160), (1, 7), (2, 40), (1, 3), (2, 700), (1, 7), (2, 40), (1, 0), (1, 5), (2, 12), (2, 120), (6, 48), (2, 604), (2, 48), (2, 121), (1, 4), (6, 48), (2, 604), (3, 604), (3, 604), (2, 605), (1, 2), (2, 12), (2, 12), (1, 6), (2, 40), (2, 40), (2, 40), (2, 40), (1, 1), (2, 176), (2, 176), (2, 6), (1, 7), (2, 40), (1, 5), (2, 12), (2, 120), (1, 5), (2, 12), (2, 120), (1, 5), (2, 12), (2, 120), (1, 5), (2, 12), (2, 120), (1, 5), (2, 12), (2, 120), (1, 5), (2, 12), (2, 120), (1, 5), (2, 12), (2, 120), (1, 5), (2, 12), (2, 120), (1, 5), (2, 12), (2, 120), (1, 5), (2, 12), (2, 120), (1, 5), (2, 12), (2, 120), (1, 5), (2, 12), (2, 120), (1, 5), (2, 12), (2, 120), (1, 5), (2, 12), (2, 120), (1, 5), (2, 12), (2, 120), (1, 5), (2, 12), (2, 120), (1, 5), (2, 12), (2, 120), (1, 5), (2, 12), (2, 120), (1, 5), (2, 12), (2, 120), (1, 5), (2, 12), (2, 120), (1, 5), (2, 12), (2, 120), (1, 5), (2, 12), (2, 120), (1, 5), (2, 12), (2, 120), (1, 5), (2, 12), (2, 120), (1, 5), (2, 12), (2, 120), (1, 5), (2, 12), (2, 120), (1, 5), (2, 12), (2, 120), (1, 5), (2, 12), (2, 120), (1, 5), (2, 12), (2, 120), (1, 5), (2, 12), (2, 120), (1, 5), (2, 12), (2, 120), (1, 5), (2, 12), (2, 120), (1, 5), (2, 12), (2, 120), (1, 5), (2, 12), (2, 120), (1, 5), (2, 12), (2, 120), (1, 5), (2, 12), (2, 120), (1, 5), (2, 12), (2, 120), (1, 5), (2, 12), (2, 120), (1, 5), (2, 12), (2, 120), (1, 5), (2, 12), (2, 120), (1, 5), (2, 12), (2, 120), (1, 5), (2, 12), (2, 120), (1, 5), (2, 12), (2, 120), (1, 5), (2, 12), (2, 120), (1, 5), (2, 12), (2, 120), (1, 5), (2, 12), (2, 120), (1, 5), (2, 12), (2, 120), (1, 0), (1, 5), (2, 12), (2, 120), (6, 48), (2, 604), (2, 48), (2, 121), (1, 4), (6, 48), (2, 604), (3, 604), (3, 604), (2, 605), (1, 2), (2, 12), (2, 12), (1, 6), (2, 40), (2, 40), (2, 40), (2, 40), (1, 1), (2, 176), (2, 176), (2, 6), (1, 7), (2, 40), (1, 5), (2, 12), (2, 120), (1, 5), (2, 12), (2, 120), (1, 5), (2, 12), (2, 120), (1, 5), (2, 12), (2, 120), (1, 5), (2, 12), (2, 120), (1, 5), (2, 12), (2, 120), (1, 5), (2, 12), (2, 120), (1, 5), (2, 12), (2, 120), (1, 5), (2, 12), (2, 120), (1, 5), (2, 12), (2, 120), (1, 5), (2, 12), (2, 120), (1, 5), (2, 12), (2, 120), (1, 5), (2, 12), (2, 120), (1, 5), (2, 12), (2, 120), (1, 5), (2, 12), (2, 120), (1, 5), (2, 12), (2, 120), (1, 5), (2, 12), (2, 120), (1, 5), (2, 12), (2, 120), (1, 5), (2, 12), (2, 120), (1, 5), (2, 12), (2, 120), (1, 5), (2, 12), (2, 120), (1, 5), (2, 12), (2, 120), (1, 5), (2, 12), (2, 120), (1, 5), (2, 12), (2, 120), (1, 5), (2, 12), (2, 120), (1, 5), (2, 12), (2, 120), (1, 5), (2, 12), (2, 120), (1, 5), (2, 12), (2, 120), (1, 5), (2, 12), (2, 120), (1, 5), (2, 12), (2, 120), (1, 5), (2, 12), (2, 120), (1, 5), (2, 12), (2, 120), (1, 5), (2, 12), (2, 120), (1, 5), (2, 12), (2, 120), (1, 5), (2, 12), (2, 120), (1, 5), (2, 12), (2, 120), (1, 5), (2, 12), (2, 120), (1, 5), (2, 12), (2, 120), (1, 5), (2, 12), (2, 120), (1, 5), (2, 12), (2, 120), (1, 5), (2, 12), (2, 120), (1, 5), (2, 12), (2, 120), (1, 5), (2, 12), (2, 120), (1, 5), (2, 12), (2, 120), (1, 5), (2, 12), (2, 120), (1, 5), (2, 12), (2, 120), (1, 5), (2, 12), (2, 120), (1, 9), (2, 4236), (2, 4236), (2, 4236), (2, 49), (2, 640), (2, 640), (3, 49), (3, 640), (2, 640), (2, 640), (2, 6), (3, 400), (2, 700), (2, 12), (2, 48), (2, 49), (3, 49), (3, 49), (4, 700), (5, 12), (5, 5), (5, 6), (2, 640), (2, 14641), (2, 200)]
def zv_lay (r : Nat) : Nat × Nat := zv_layL.getD r (0, 0)
end
/-! 03.mini -/
section
/-! A small machine: ints as Int (kept within 32 bits), longs as Int64, references as numbers (0 null, r the r-th cell made since the law began, from 1000000 on: what stood there before). -/
abbrev zv_V : Type := Int ⊕ (Int64 ⊕ Nat)
abbrev zv_i (x : Int) : zv_V := Sum.inl x
abbrev zv_j (x : Int64) : zv_V := Sum.inr (Sum.inl x)
abbrev zv_r (x : Nat) : zv_V := Sum.inr (Sum.inr x)
/-- cells made, slots made; ints, longs, references by cell and place; the script's length and contents -/
abbrev zv_H : Type := (Nat × Nat) × ((Nat → Nat → Int) × ((Nat → Nat → Int64) × ((Nat → Nat → Nat) × (Nat × (Nat → Int)))))
def zv_n (h : zv_H) : Nat := h.1.1
def zv_s (h : zv_H) : Nat := h.1.2
def zv_I (h : zv_H) (r k : Nat) : Int := h.2.1 r k
def zv_J (h : zv_H) (r k : Nat) : Int64 := h.2.2.1 r k
def zv_R (h : zv_H) (r k : Nat) : Nat := h.2.2.2.1 r k
def zv_L (h : zv_H) : Nat := h.2.2.2.2.1
def zv_X (h : zv_H) (k : Nat) : Int := h.2.2.2.2.2 k
def zv_up {α : Type} (f : Nat → Nat → α) (r k : Nat) (v : α) : Nat → Nat → α := fun a b => if a = r ∧ b = k then v else f a b
def zv_cl {α : Type} (f : Nat → Nat → α) (r : Nat) (v : α) : Nat → Nat → α := fun a b => if a = r then v else f a b
def zv_sI (h : zv_H) (r k : Nat) (v : Int) : zv_H := (h.1, (zv_up h.2.1 r k v, h.2.2))
def zv_sJ (h : zv_H) (r k : Nat) (v : Int64) : zv_H := (h.1, (h.2.1, (zv_up h.2.2.1 r k v, h.2.2.2)))
def zv_sR (h : zv_H) (r k : Nat) (v : Nat) : zv_H := (h.1, (h.2.1, (h.2.2.1, (zv_up h.2.2.2.1 r k v, h.2.2.2.2))))
/-- a new cell of so many slots, all 0 -/
def zv_mk (h : zv_H) (w : Nat) : zv_H := ((h.1.1 + 1, h.1.2 + w), (zv_cl h.2.1 (h.1.1 + 1) 0, (zv_cl h.2.2.1 (h.1.1 + 1) 0, (zv_cl h.2.2.2.1 (h.1.1 + 1) 0, h.2.2.2.2))))
def zv_cp (h : zv_H) (s sp d dp n : Nat) : zv_H := (h.1, ((fun a b => if a = d ∧ dp ≤ b ∧ b < dp + n then h.2.1 s (sp + (b - dp)) else h.2.1 a b), h.2.2))
/-- 32 bits -/
def zv_w (x : Int) : Int := (x + 2147483648) % 4294967296 - 2147483648
def zv_rg (x : Int) : Prop := -2147483648 ≤ x ∧ x < 2147483648
def zv_and (x y : Int) : Int := (Int32.ofInt x &&& Int32.ofInt y).toInt
def zv_or (x y : Int) : Int := (Int32.ofInt x ||| Int32.ofInt y).toInt
def zv_shl (x y : Int) : Int := (Int32.ofInt x <<< (Int32.ofInt y &&& 31)).toInt
def zv_shr (x y : Int) : Int := (Int32.ofInt x >>> (Int32.ofInt y &&& 31)).toInt
def zv_ushr (x y : Int) : Int := ((Int32.ofInt x).toUInt32 >>> ((Int32.ofInt y).toUInt32 &&& Int32.toUInt32 31)).toInt32.toInt
def zv_i2b (x : Int) : Int := (Int32.ofInt x).toInt8.toInt32.toInt
def zv_i2c (x : Int) : Int := ((Int32.ofInt x).toUInt32 % 65536).toInt32.toInt
def zv_i2l (x : Int) : Int64 := (Int32.ofInt x).toInt64
def zv_l2i (x : Int64) : Int := x.toInt32.toInt
def zv_lshl (x : Int64) (y : Int) : Int64 := x <<< ((Int32.ofInt y).toInt64 &&& 63)
def zv_lushr (x : Int64) (y : Int) : Int64 := (x.toUInt64 >>> ((Int32.ofInt y).toInt64.toUInt64 &&& Int64.toUInt64 63)).toInt64
def zv_lcmp (x y : Int64) : Int := if x = y then 0 else if y < x then 1 else -1
def zv_nz (x : Int) : Int := x % 2
/-! locals -/
abbrev zv_Ls : Type := List (Option zv_V)
def zv_ld : zv_Ls → Nat → Option zv_V
  | [], _ => none
  | a :: _, 0 => a
  | _ :: l, n + 1 => zv_ld l n
def zv_st : zv_Ls → Nat → Option zv_V → zv_Ls
  | [], _, _ => []
  | _ :: l, 0, v => v :: l
  | a :: l, n + 1, v => a :: zv_st l n v
def zv_two (v : Option zv_V) : Bool := match v with
  | some (Sum.inr (Sum.inl _)) => true
  | _ => false
/-- the first half of a long, of which the second is overwritten, goes -/
def zv_cr (l : zv_Ls) (n : Nat) : zv_Ls := match n with
  | 0 => l
  | k + 1 => if zv_two (zv_ld l k) then zv_st l k none else l
def zv_s1 (l : zv_Ls) (n : Nat) (v : zv_V) : zv_Ls := zv_st (zv_cr l n) n (some v)
def zv_s2 (l : zv_Ls) (n : Nat) (v : Int64) : zv_Ls := zv_st (zv_st (zv_cr l n) n (some (zv_j v))) (n + 1) none
def zv_msk : List Bool → zv_Ls → zv_Ls
  | true :: b, a :: l => a :: zv_msk b l
  | false :: b, _ :: l => none :: zv_msk b l
  | [], l => l
  | _, [] => []
/-! the length of an instruction (not of a switch) -/
def zv_len : Instr → Nat
  | .bipush _ | .iload _ | .lload _ | .aload _ | .istore _ | .lstore _ | .astore _ | .ldc _ | .newarray _ => 2
  | .sipush _ | .iinc _ _ | .ifCond _ _ | .if_icmp _ _ | .if_acmp _ _ | .ifnull _ | .ifnonnull _ | .goto _ | .getfield _ | .getstatic _ | .putfield _ | .invokevirtual _ | .invokespecial _ | .invokestatic _ | .new _ | .anewarray _ | .ldc_w _ | .ldc2_w _ => 3
  | _ => 1
/-! what an instruction does to locals and stack alone -/
def zv_op (i : Instr) (ls : zv_Ls) (st : List zv_V) : Option (zv_Ls × List zv_V) := match i, st with
  | .iconst n, st => if -1 ≤ n ∧ n ≤ 5 then some (ls, zv_i n :: st) else none
  | .bipush n, st => if -128 ≤ n ∧ n ≤ 127 then some (ls, zv_i n :: st) else none
  | .sipush n, st => if -32768 ≤ n ∧ n ≤ 32767 then some (ls, zv_i n :: st) else none
  | .lconst n, st => some (ls, zv_j (Int64.ofNat n.val) :: st)
  | .aconst_null, st => some (ls, zv_r 0 :: st)
  | .iload_n k, st => match zv_ld ls k.val with
    | some (Sum.inl x) => some (ls, zv_i x :: st)
    | _ => none
  | .iload k, st => match zv_ld ls k with
    | some (Sum.inl x) => some (ls, zv_i x :: st)
    | _ => none
  | .lload_n k, st => match zv_ld ls k.val with
    | some (Sum.inr (Sum.inl x)) => some (ls, zv_j x :: st)
    | _ => none
  | .lload k, st => match zv_ld ls k with
    | some (Sum.inr (Sum.inl x)) => some (ls, zv_j x :: st)
    | _ => none
  | .aload_n k, st => match zv_ld ls k.val with
    | some (Sum.inr (Sum.inr x)) => some (ls, zv_r x :: st)
    | _ => none
  | .aload k, st => match zv_ld ls k with
    | some (Sum.inr (Sum.inr x)) => some (ls, zv_r x :: st)
    | _ => none
  | .istore_n k, Sum.inl x :: st => if k.val < ls.length then some (zv_s1 ls k.val (zv_i x), st) else none
  | .istore k, Sum.inl x :: st => if k < ls.length then some (zv_s1 ls k (zv_i x), st) else none
  | .lstore_n k, Sum.inr (Sum.inl x) :: st => if k.val + 1 < ls.length then some (zv_s2 ls k.val x, st) else none
  | .lstore k, Sum.inr (Sum.inl x) :: st => if k + 1 < ls.length then some (zv_s2 ls k x, st) else none
  | .astore_n k, Sum.inr (Sum.inr x) :: st => if k.val < ls.length then some (zv_s1 ls k.val (zv_r x), st) else none
  | .astore k, Sum.inr (Sum.inr x) :: st => if k < ls.length then some (zv_s1 ls k (zv_r x), st) else none
  | .iinc k n, st => match zv_ld ls k with
    | some (Sum.inl x) => if k < ls.length then some (zv_s1 ls k (zv_i (zv_w (x + n))), st) else none
    | _ => none
  | .iadd, Sum.inl y :: Sum.inl x :: st => some (ls, zv_i (zv_w (x + y)) :: st)
  | .isub, Sum.inl y :: Sum.inl x :: st => some (ls, zv_i (zv_w (x - y)) :: st)
  | .imul, Sum.inl y :: Sum.inl x :: st => some (ls, zv_i (zv_w (x * y)) :: st)
  | .ineg, Sum.inl x :: st => some (ls, zv_i (zv_w (-x)) :: st)
  | .idiv, Sum.inl y :: Sum.inl x :: st => if y = 0 then none else some (ls, zv_i (zv_w (x.tdiv y)) :: st)
  | .irem, Sum.inl y :: Sum.inl x :: st => if y = 0 then none else some (ls, zv_i (x.tmod y) :: st)
  | .iand, Sum.inl y :: Sum.inl x :: st => some (ls, zv_i (zv_and x y) :: st)
  | .ior, Sum.inl y :: Sum.inl x :: st => some (ls, zv_i (zv_or x y) :: st)
  | .ishl, Sum.inl y :: Sum.inl x :: st => some (ls, zv_i (zv_shl x y) :: st)
  | .ishr, Sum.inl y :: Sum.inl x :: st => some (ls, zv_i (zv_shr x y) :: st)
  | .iushr, Sum.inl y :: Sum.inl x :: st => some (ls, zv_i (zv_ushr x y) :: st)
  | .i2b, Sum.inl x :: st => some (ls, zv_i (zv_i2b x) :: st)
  | .i2c, Sum.inl x :: st => some (ls, zv_i (zv_i2c x) :: st)
  | .i2l, Sum.inl x :: st => some (ls, zv_j (zv_i2l x) :: st)
  | .l2i, Sum.inr (Sum.inl x) :: st => some (ls, zv_i (zv_l2i x) :: st)
  | .ladd, Sum.inr (Sum.inl y) :: Sum.inr (Sum.inl x) :: st => some (ls, zv_j (x + y) :: st)
  | .lsub, Sum.inr (Sum.inl y) :: Sum.inr (Sum.inl x) :: st => some (ls, zv_j (x - y) :: st)
  | .lmul, Sum.inr (Sum.inl y) :: Sum.inr (Sum.inl x) :: st => some (ls, zv_j (x * y) :: st)
  | .land, Sum.inr (Sum.inl y) :: Sum.inr (Sum.inl x) :: st => some (ls, zv_j (x &&& y) :: st)
  | .lor, Sum.inr (Sum.inl y) :: Sum.inr (Sum.inl x) :: st => some (ls, zv_j (x ||| y) :: st)
  | .lxor, Sum.inr (Sum.inl y) :: Sum.inr (Sum.inl x) :: st => some (ls, zv_j (x ^^^ y) :: st)
  | .lshl, Sum.inl y :: Sum.inr (Sum.inl x) :: st => some (ls, zv_j (zv_lshl x y) :: st)
  | .lushr, Sum.inl y :: Sum.inr (Sum.inl x) :: st => some (ls, zv_j (zv_lushr x y) :: st)
  | .lcmp, Sum.inr (Sum.inl y) :: Sum.inr (Sum.inl x) :: st => some (ls, zv_i (zv_lcmp x y) :: st)
  | .dup, Sum.inl x :: st => some (ls, zv_i x :: zv_i x :: st)
  | .dup, Sum.inr (Sum.inr x) :: st => some (ls, zv_r x :: zv_r x :: st)
  | .dup2, Sum.inl y :: Sum.inr (Sum.inr x) :: st => some (ls, zv_i y :: zv_r x :: zv_i y :: zv_r x :: st)
  | .pop, Sum.inl _ :: st => some (ls, st)
  | .pop, Sum.inr (Sum.inr _) :: st => some (ls, st)
  | _, _ => none
def zv_txt : List (List Int) := [[115, 116, 97, 114, 116], [106, 111, 105, 110], [110, 111, 116], [103, 97, 112], [115, 105, 122, 101], [107, 105, 110, 100], [115, 97, 109, 101], [110, 101, 97, 114], [108, 111, 110, 103], [97, 110, 100], [111, 114], [112, 117, 116], [99, 117, 116], [119, 97, 105, 116], [117, 110, 100, 111], [114, 101, 100, 111], [103, 111], [110, 97, 109, 101], [119, 105, 116, 104, 100, 114, 97, 119], [114, 101, 115, 116, 111, 114, 101], [99, 97, 114, 114, 121], [109, 101, 114, 103, 101], [112, 114, 117, 110, 101], [60, 61, 62, 91, 93, 59]]
end
/-! 04.step -/
section
/-! The small machine's heap and its instructions. zv_lay (the cells in the order in which they are made) and zv_fts (the fields' kinds) stand in 02. -/
def zv_lk {α : Type} : List (Nat × α) → Nat → Option α
  | [], _ => none
  | a :: l, n => bif Nat.beq a.1 n then some a.2 else zv_lk l n
def zv_ft (ci k : Nat) : Nat := (zv_fts.getD ci []).getD k 9
def zv_nf (ci : Nat) : Nat := (zv_fts.getD ci []).length
def zv_gI (h : zv_H) (r ci k : Nat) : Option Int := if r ≤ zv_n h ∧ zv_lay r = (1, ci) then some (zv_I h r k) else none
def zv_gJ (h : zv_H) (r ci k : Nat) : Option Int64 := if r ≤ zv_n h ∧ zv_lay r = (1, ci) then some (zv_J h r k) else none
def zv_gR (h : zv_H) (r ci k : Nat) : Option Nat := if r ≤ zv_n h ∧ zv_lay r = (1, ci) then some (zv_R h r k) else none
def zv_pI (h : zv_H) (r ci k : Nat) (v : Int) : Option zv_H := if r ≤ zv_n h ∧ zv_lay r = (1, ci) then some (zv_sI h r k v) else none
def zv_pZ (h : zv_H) (r ci k : Nat) (v : Int) : Option zv_H := if (r ≤ zv_n h ∧ zv_lay r = (1, ci)) ∧ (v = 0 ∨ v = 1) then some (zv_sI h r k v) else none
def zv_pJ (h : zv_H) (r ci k : Nat) (v : Int64) : Option zv_H := if r ≤ zv_n h ∧ zv_lay r = (1, ci) then some (zv_sJ h r k v) else none
def zv_pR (h : zv_H) (r ci k : Nat) (v : Nat) : Option zv_H := if r ≤ zv_n h ∧ zv_lay r = (1, ci) then some (zv_sR h r k v) else none
def zv_aI (h : zv_H) (r : Nat) (j : Int) : Option Int :=
  if r = 2000000 then (if 0 ≤ j ∧ j < zv_L h then some (zv_X h j.toNat) else none)
  else if r ≤ zv_n h ∧ (zv_lay r).1 = 2 ∧ 0 ≤ j ∧ j < (zv_lay r).2 then some (zv_I h r j.toNat) else none
def zv_aB (h : zv_H) (r : Nat) (j : Int) : Option Int := if 1000100 ≤ r ∧ r < 1000124 then (if 0 ≤ j ∧ j < ((zv_txt.getD (r - 1000100) []).length : Int) then some ((zv_txt.getD (r - 1000100) []).getD j.toNat 0) else none) else if r ≤ zv_n h ∧ ((zv_lay r).1 = 3 ∨ (zv_lay r).1 = 4) ∧ 0 ≤ j ∧ j < (zv_lay r).2 then some (zv_I h r j.toNat) else none
def zv_aJ (h : zv_H) (r : Nat) (j : Int) : Option Int64 := if r ≤ zv_n h ∧ (zv_lay r).1 = 5 ∧ 0 ≤ j ∧ j < (zv_lay r).2 then some (zv_J h r j.toNat) else none
def zv_aR (h : zv_H) (r : Nat) (j : Int) : Option Nat := if r ≤ zv_n h ∧ (zv_lay r).1 = 6 ∧ 0 ≤ j ∧ j < (zv_lay r).2 then some (zv_R h r j.toNat) else none
def zv_wI (h : zv_H) (r : Nat) (j v : Int) : Option zv_H := if r ≤ zv_n h ∧ (zv_lay r).1 = 2 ∧ 0 ≤ j ∧ j < (zv_lay r).2 then some (zv_sI h r j.toNat v) else none
def zv_wB (h : zv_H) (r : Nat) (j v : Int) : Option zv_H := if r ≤ zv_n h ∧ ((zv_lay r).1 = 3 ∨ (zv_lay r).1 = 4) ∧ 0 ≤ j ∧ j < (zv_lay r).2 then some (zv_sI h r j.toNat (if (zv_lay r).1 = 3 then zv_nz v else zv_i2b v)) else none
def zv_wJ (h : zv_H) (r : Nat) (j : Int) (v : Int64) : Option zv_H := if r ≤ zv_n h ∧ (zv_lay r).1 = 5 ∧ 0 ≤ j ∧ j < (zv_lay r).2 then some (zv_sJ h r j.toNat v) else none
def zv_wR (h : zv_H) (r : Nat) (j : Int) (v : Nat) : Option zv_H := if (r ≤ zv_n h ∧ (zv_lay r).1 = 6 ∧ 0 ≤ j ∧ j < (zv_lay r).2) ∧ (v = 0 ∨ v ≤ zv_n h ∧ zv_lay v = (1, 5)) then some (zv_sR h r j.toNat v) else none
def zv_tC (r : Nat) : Option Int := if 1000000 ≤ r ∧ r < 1000024 then some 0 else none
def zv_tV (r : Nat) : Option Nat := if 1000000 ≤ r ∧ r < 1000024 then some (r + 100) else none
def zv_al (h : zv_H) (r : Nat) : Option Int := if r = 2000000 then some (zv_L h) else if 1000100 ≤ r ∧ r < 1000124 then some ((zv_txt.getD (r - 1000100) []).length : Int) else if r ≤ zv_n h ∧ 2 ≤ (zv_lay r).1 then some (zv_lay r).2 else none
def zv_nO (h : zv_H) (ci : Nat) : Option zv_H := if zv_lay (zv_n h + 1) = (1, ci) then some (zv_mk h (zv_nf ci)) else none
def zv_nA (h : zv_H) (kd : Nat) (x : Int) : Option zv_H := if (0 ≤ x ∧ x ≤ 60000) ∧ zv_lay (zv_n h + 1) = (kd, x.toNat) then some (zv_mk h x.toNat) else none
def zv_cy (h : zv_H) (s : Nat) (sp : Int) (d : Nat) (dp n : Int) : Option zv_H :=
  if (s ≤ zv_n h ∧ d ≤ zv_n h ∧ (zv_lay s).1 = 2 ∧ (zv_lay d).1 = 2) ∧ (0 ≤ sp ∧ 0 ≤ dp ∧ 0 ≤ n) ∧ sp + n ≤ (zv_lay s).2 ∧ dp + n ≤ (zv_lay d).2 ∧ ¬ s = d then some (zv_cp h s sp.toNat d dp.toNat n.toNat) else none
/-! a class's pool: fields (class, place, nest mate), methods (number, kind, parameters, what it answers), ints, longs, texts, classes -/
abbrev zv_P : Type := List (Nat × (Nat × (Nat × Bool))) × (List (Nat × (Nat × (Nat × (Nat × Nat)))) × (List (Nat × Int) × (List (Nat × Int64) × (List (Nat × Nat) × List (Nat × Nat)))))
/-- a method: its class, its name, its bytes, its locals, what it answers, its instructions, its heads (with what of the locals counts there), its class's pool -/
abbrev zv_M : Type := (String × (MethodName × (ByteArray × (Nat × Option FieldType)))) × (List (Nat × Instr) × (List (Nat × List Bool) × zv_P))
abbrev zv_O : Type := Option (Option zv_V × zv_H)
abbrev zv_G : Type := Nat → zv_Ls → List zv_V → zv_H → zv_O
/-- the four kinds of calls: of void, int, long, reference -/
abbrev zv_C : Type := (Nat → List zv_V → zv_H → Option zv_H) × ((Nat → List zv_V → zv_H → Option (Int × zv_H)) × ((Nat → List zv_V → zv_H → Option (Int64 × zv_H)) × (Nat → List zv_V → zv_H → Option (Nat × zv_H))))
def zv_wd : List zv_V → Nat
  | [] => 0
  | Sum.inr (Sum.inl _) :: t => zv_wd t + 2
  | _ :: t => zv_wd t + 1
def zv_tk : Nat → List zv_V → List zv_V → Option (List zv_V × List zv_V)
  | 0, acc, st => some (acc, st)
  | n + 1, acc, v :: st => zv_tk n (v :: acc) st
  | _ + 1, _, [] => none
def zv_jp (go : zv_G) (pc : Nat) (off : Int) (ls : zv_Ls) (st : List zv_V) (h : zv_H) : zv_O := if (pc : Int) + off < 0 then none else go ((pc : Int) + off).toNat ls st h
def zv_tsw (go : zv_G) (pc : Nat) (x dflt : Int) (ls : zv_Ls) (st : List zv_V) (h : zv_H) : Int → List Int → zv_O
  | _, [] => zv_jp go pc dflt ls st h
  | lo, o :: t => if x = lo then zv_jp go pc o ls st h else zv_tsw go pc x dflt ls st h (lo + 1) t
def zv_lsw (go : zv_G) (pc : Nat) (x dflt : Int) (ls : zv_Ls) (st : List zv_V) (h : zv_H) : List (Int × Int) → zv_O
  | [] => zv_jp go pc dflt ls st h
  | o :: t => if x = o.1 then zv_jp go pc o.2 ls st h else zv_lsw go pc x dflt ls st h t
def zv_call (c : zv_C) (go : zv_G) (pc : Nat) (ls : zv_Ls) (st : List zv_V) (h : zv_H) (e : Nat × (Nat × (Nat × Nat))) : zv_O :=
  match zv_tk e.2.2.1 [] st with
  | none => none
  | some (as, rest) =>
    if 8 < zv_wd rest then none else
    match e.2.2.2 with
    | 0 => (c.1 e.1 as h).bind fun h' => go (pc + 3) ls rest h'
    | 1 => (c.2.1 e.1 as h).bind fun q => go (pc + 3) ls (zv_i q.1 :: rest) q.2
    | 2 => (c.2.2.1 e.1 as h).bind fun q => go (pc + 3) ls (zv_j q.1 :: rest) q.2
    | _ => (c.2.2.2 e.1 as h).bind fun q => go (pc + 3) ls (zv_r q.1 :: rest) q.2
def zv_gf (go : zv_G) (pc : Nat) (ls : zv_Ls) (st : List zv_V) (h : zv_H) (r : Nat) (o : Option (Nat × (Nat × Bool))) : zv_O := match o with
  | none => none
  | some f => match zv_ft f.1 f.2.1 with
    | 0 => (zv_gI h r f.1 f.2.1).bind fun v => go (pc + 3) ls (zv_i v :: st) h
    | 1 => (zv_gI h r f.1 f.2.1).bind fun v => go (pc + 3) ls (zv_i v :: st) h
    | 2 => (zv_gJ h r f.1 f.2.1).bind fun v => go (pc + 3) ls (zv_j v :: st) h
    | 3 => (zv_gR h r f.1 f.2.1).bind fun v => go (pc + 3) ls (zv_r v :: st) h
    | 4 => (zv_tC r).bind fun v => go (pc + 3) ls (zv_i v :: st) h
    | 5 => (zv_tV r).bind fun v => go (pc + 3) ls (zv_r v :: st) h
    | _ => none
def zv_pf (go : zv_G) (pc : Nat) (ls : zv_Ls) (st : List zv_V) (h : zv_H) (r : Nat) (w : zv_V) (o : Option (Nat × (Nat × Bool))) : zv_O := match o with
  | none => none
  | some f => match w, zv_ft f.1 f.2.1 with
    | Sum.inl v, 0 => (zv_pI h r f.1 f.2.1 v).bind fun h' => go (pc + 3) ls st h'
    | Sum.inl v, 1 => (zv_pZ h r f.1 f.2.1 v).bind fun h' => go (pc + 3) ls st h'
    | Sum.inr (Sum.inl v), 2 => (zv_pJ h r f.1 f.2.1 v).bind fun h' => go (pc + 3) ls st h'
    | Sum.inr (Sum.inr v), 3 => (zv_pR h r f.1 f.2.1 v).bind fun h' => go (pc + 3) ls st h'
    | _, _ => none
def zv_gs (go : zv_G) (pc : Nat) (ls : zv_Ls) (st : List zv_V) (h : zv_H) (o : Option Int) : zv_O := match o with
  | some v => go (pc + 3) ls (zv_i v :: st) h
  | none => none
def zv_nw (go : zv_G) (pc : Nat) (ls : zv_Ls) (st : List zv_V) (h : zv_H) (o : Option Nat) : zv_O := match o with
  | none => none
  | some ci => (zv_nO h ci).bind fun h' => go (pc + 3) ls (zv_r (zv_n h + 1) :: st) h'
def zv_an (go : zv_G) (pc : Nat) (ls : zv_Ls) (st : List zv_V) (h : zv_H) (x : Int) (o : Option Nat) : zv_O := match o with
  | none => none
  | some ci => if ci = 5 then (zv_nA h 6 x).bind fun h' => go (pc + 3) ls (zv_r (zv_n h + 1) :: st) h' else none
def zv_ls (go : zv_G) (pc : Nat) (ls : zv_Ls) (st : List zv_V) (h : zv_H) (o : Option Nat) : zv_O := match o with
  | some k => go (pc + 2) ls (zv_r (1000000 + k) :: st) h
  | none => none
def zv_li (go : zv_G) (pc : Nat) (ls : zv_Ls) (st : List zv_V) (h : zv_H) (o : Option Nat) : zv_O := match o with
  | some k => go (pc + 3) ls (zv_r (1000000 + k) :: st) h
  | none => none
def zv_ll (go : zv_G) (pc : Nat) (ls : zv_Ls) (st : List zv_V) (h : zv_H) (o : Option Int64) : zv_O := match o with
  | some v => go (pc + 3) ls (zv_j v :: st) h
  | none => none
def zv_iv (c : zv_C) (go : zv_G) (pc : Nat) (ls : zv_Ls) (st : List zv_V) (h : zv_H) (o : Option (Nat × (Nat × (Nat × Nat)))) : zv_O := match o with
  | some e => if e.2.1 = 0 ∨ e.2.1 = 10 then zv_call c go pc ls st h e else none
  | none => none
def zv_cyS (go : zv_G) (pc : Nat) (ls : zv_Ls) (st : List zv_V) (h : zv_H) : zv_O := match st with
  | Sum.inl n :: Sum.inl dp :: Sum.inr (Sum.inr d) :: Sum.inl sp :: Sum.inr (Sum.inr s) :: st => if 8 < zv_wd st then none else (zv_cy h s sp d dp n).bind fun h' => go (pc + 3) ls st h'
  | _ => none
def zv_mx (go : zv_G) (pc : Nat) (ls : zv_Ls) (st : List zv_V) (h : zv_H) (b : Bool) : zv_O := match st with
  | Sum.inl y :: Sum.inl x :: st => if 8 < zv_wd st then none else go (pc + 3) ls (zv_i (bif b then max x y else min x y) :: st) h
  | _ => none
def zv_is (c : zv_C) (go : zv_G) (pc : Nat) (ls : zv_Ls) (st : List zv_V) (h : zv_H) (o : Option (Nat × (Nat × (Nat × Nat)))) : zv_O := match o with
  | some e => if e.2.1 = 2 ∨ e.2.1 = 12 then zv_call c go pc ls st h e else if e.2.1 = 21 then zv_cyS go pc ls st h else if e.2.1 = 22 then zv_mx go pc ls st h true else if e.2.1 = 23 then zv_mx go pc ls st h false else none
  | none => none
def zv_oi (go : zv_G) (pc : Nat) (ls : zv_Ls) (st : List zv_V) (h : zv_H) : zv_O := match st with
  | Sum.inr (Sum.inr r) :: st => if 8 < zv_wd st then none else if r = 0 then none else go (pc + 3) ls st h
  | _ => none
def zv_ip (c : zv_C) (go : zv_G) (pc : Nat) (ls : zv_Ls) (st : List zv_V) (h : zv_H) (o : Option (Nat × (Nat × (Nat × Nat)))) : zv_O := match o with
  | some e => if e.2.1 = 1 ∨ e.2.1 = 11 then zv_call c go pc ls st h e else if e.2.1 = 20 then zv_oi go pc ls st h else none
  | none => none
def zv_rt (h : zv_H) (w : Option zv_V) (t : Option FieldType) : zv_O := match w, t with
  | some (Sum.inl x), some .int => some (some (zv_i x), h)
  | some (Sum.inl x), some .boolean => if x = 0 ∨ x = 1 then some (some (zv_i x), h) else none
  | some (Sum.inl x), some .char => if 0 ≤ x ∧ x ≤ 65535 then some (some (zv_i x), h) else none
  | some (Sum.inl x), some .byte => if -128 ≤ x ∧ x ≤ 127 then some (some (zv_i x), h) else none
  | some (Sum.inr (Sum.inl x)), some .long => some (some (zv_j x), h)
  | some (Sum.inr (Sum.inr x)), some (.object _) => some (some (zv_r x), h)
  | none, none => some (none, h)
  | _, _ => none
def zv_bc (go : zv_G) (pc : Nat) (off : Int) (ls : zv_Ls) (st : List zv_V) (h : zv_H) (P : Prop) [Decidable P] : zv_O := if (pc : Int) + off < 0 then none else if P then go ((pc : Int) + off).toNat ls st h else go (pc + 3) ls st h
def zv_bn (go : zv_G) (pc : Nat) (off : Int) (ls : zv_Ls) (st : List zv_V) (h : zv_H) (P : Prop) [Decidable P] : zv_O := if (pc : Int) + off < 0 then none else if P then go (pc + 3) ls st h else go ((pc : Int) + off).toNat ls st h
/-- the instructions that read or write cells, jump, call, end -/
def zv_hp (c : zv_C) (M : zv_M) (go : zv_G) (pc : Nat) (ls : zv_Ls) (st : List zv_V) (h : zv_H) (i : Instr) : zv_O := match i, st with
  | .goto off, st => zv_jp go pc off ls st h
  | .ifCond .eq off, Sum.inl x :: st => zv_bc go pc off ls st h (x = 0)
  | .ifCond .ne off, Sum.inl x :: st => zv_bn go pc off ls st h (x = 0)
  | .ifCond .lt off, Sum.inl x :: st => zv_bc go pc off ls st h (x < 0)
  | .ifCond .ge off, Sum.inl x :: st => zv_bn go pc off ls st h (x < 0)
  | .ifCond .gt off, Sum.inl x :: st => zv_bn go pc off ls st h (x ≤ 0)
  | .ifCond .le off, Sum.inl x :: st => zv_bc go pc off ls st h (x ≤ 0)
  | .if_icmp .eq off, Sum.inl y :: Sum.inl x :: st => zv_bc go pc off ls st h (x = y)
  | .if_icmp .ne off, Sum.inl y :: Sum.inl x :: st => zv_bn go pc off ls st h (x = y)
  | .if_icmp .lt off, Sum.inl y :: Sum.inl x :: st => zv_bc go pc off ls st h (x < y)
  | .if_icmp .ge off, Sum.inl y :: Sum.inl x :: st => zv_bn go pc off ls st h (x < y)
  | .if_icmp .gt off, Sum.inl y :: Sum.inl x :: st => zv_bn go pc off ls st h (x ≤ y)
  | .if_icmp .le off, Sum.inl y :: Sum.inl x :: st => zv_bc go pc off ls st h (x ≤ y)
  | .if_acmp .eq off, Sum.inr (Sum.inr y) :: Sum.inr (Sum.inr x) :: st => if 1000000 ≤ x ∨ 1000000 ≤ y then none else zv_bc go pc off ls st h (x = y)
  | .if_acmp .ne off, Sum.inr (Sum.inr y) :: Sum.inr (Sum.inr x) :: st => if 1000000 ≤ x ∨ 1000000 ≤ y then none else zv_bn go pc off ls st h (x = y)
  | .ifnull off, Sum.inr (Sum.inr x) :: st => zv_bc go pc off ls st h (x = 0)
  | .ifnonnull off, Sum.inr (Sum.inr x) :: st => zv_bn go pc off ls st h (x = 0)
  | .tableswitch dflt lo hi offs, Sum.inl x :: st => if hi + 1 = lo + (offs.toList.length : Int) then zv_tsw go pc x dflt ls st h lo offs.toList else none
  | .lookupswitch dflt ps, Sum.inl x :: st => if (ps.toList.zip (ps.toList.drop 1)).all (fun q => decide (q.1.1 < q.2.1)) = true then zv_lsw go pc x dflt ls st h ps.toList else none
  | .getfield ix, Sum.inr (Sum.inr r) :: st => zv_gf go pc ls st h r (zv_lk M.2.2.2.1 ix)
  | .getstatic ix, st => zv_gs go pc ls st h (zv_lk M.2.2.2.2.2.1 ix)
  | .putfield ix, v :: Sum.inr (Sum.inr r) :: st => zv_pf go pc ls st h r v (zv_lk M.2.2.2.1 ix)
  | .arraylength, Sum.inr (Sum.inr r) :: st => (zv_al h r).bind fun v => go (pc + 1) ls (zv_i v :: st) h
  | .iaload, Sum.inl j :: Sum.inr (Sum.inr r) :: st => (zv_aI h r j).bind fun v => go (pc + 1) ls (zv_i v :: st) h
  | .baload, Sum.inl j :: Sum.inr (Sum.inr r) :: st => (zv_aB h r j).bind fun v => go (pc + 1) ls (zv_i v :: st) h
  | .laload, Sum.inl j :: Sum.inr (Sum.inr r) :: st => (zv_aJ h r j).bind fun v => go (pc + 1) ls (zv_j v :: st) h
  | .aaload, Sum.inl j :: Sum.inr (Sum.inr r) :: st => (zv_aR h r j).bind fun v => go (pc + 1) ls (zv_r v :: st) h
  | .iastore, Sum.inl v :: Sum.inl j :: Sum.inr (Sum.inr r) :: st => (zv_wI h r j v).bind fun h' => go (pc + 1) ls st h'
  | .bastore, Sum.inl v :: Sum.inl j :: Sum.inr (Sum.inr r) :: st => (zv_wB h r j v).bind fun h' => go (pc + 1) ls st h'
  | .lastore, Sum.inr (Sum.inl v) :: Sum.inl j :: Sum.inr (Sum.inr r) :: st => (zv_wJ h r j v).bind fun h' => go (pc + 1) ls st h'
  | .aastore, Sum.inr (Sum.inr v) :: Sum.inl j :: Sum.inr (Sum.inr r) :: st => (zv_wR h r j v).bind fun h' => go (pc + 1) ls st h'
  | .new ix, st => zv_nw go pc ls st h (zv_lk M.2.2.2.2.2.2.2.2 ix)
  | .newarray .int, Sum.inl x :: st => (zv_nA h 2 x).bind fun h' => go (pc + 2) ls (zv_r (zv_n h + 1) :: st) h'
  | .newarray .boolean, Sum.inl x :: st => (zv_nA h 3 x).bind fun h' => go (pc + 2) ls (zv_r (zv_n h + 1) :: st) h'
  | .newarray .byte, Sum.inl x :: st => (zv_nA h 4 x).bind fun h' => go (pc + 2) ls (zv_r (zv_n h + 1) :: st) h'
  | .newarray .long, Sum.inl x :: st => (zv_nA h 5 x).bind fun h' => go (pc + 2) ls (zv_r (zv_n h + 1) :: st) h'
  | .anewarray ix, Sum.inl x :: st => zv_an go pc ls st h x (zv_lk M.2.2.2.2.2.2.2.2 ix)
  | .ldc ix, st => zv_ls go pc ls st h (zv_lk M.2.2.2.2.2.2.2.1 ix)
  | .ldc_w ix, st => zv_li go pc ls st h (zv_lk M.2.2.2.2.2.2.2.1 ix)
  | .ldc2_w ix, st => zv_ll go pc ls st h (zv_lk M.2.2.2.2.2.2.1 ix)
  | .invokevirtual ix, st => zv_iv c go pc ls st h (zv_lk M.2.2.2.2.1 ix)
  | .invokestatic ix, st => zv_is c go pc ls st h (zv_lk M.2.2.2.2.1 ix)
  | .invokespecial ix, st => zv_ip c go pc ls st h (zv_lk M.2.2.2.2.1 ix)
  | .ireturn, [Sum.inl x] => zv_rt h (some (zv_i x)) M.1.2.2.2.2
  | .lreturn, [Sum.inr (Sum.inl x)] => zv_rt h (some (zv_j x)) M.1.2.2.2.2
  | .areturn, [Sum.inr (Sum.inr x)] => zv_rt h (some (zv_r x)) M.1.2.2.2.2
  | .return_, [] => zv_rt h none M.1.2.2.2.2
  | _, _ => none
def zv_stp (c : zv_C) (M : zv_M) (go : zv_G) (pc : Nat) (ls : zv_Ls) (st : List zv_V) (h : zv_H) : zv_O := match zv_lk M.2.1 pc with
  | none => none
  | some i => match zv_op i ls st with
    | some q => go (pc + zv_len i) q.1 q.2 h
    | none => zv_hp c M go pc ls st h i
def zv_seg (c : zv_C) (M : zv_M) (kt : zv_G) : Nat → zv_G
  | 0, pc, ls, st, h => kt pc ls st h
  | n + 1, pc, ls, st, h => zv_stp c M (fun pc ls st h => match zv_lk M.2.2.1 pc with
    | some b => kt pc (zv_msk b ls) st h
    | none => zv_seg c M kt n pc ls st h) pc ls st h
end
