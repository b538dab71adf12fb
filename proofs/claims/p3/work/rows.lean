section
-- ===== PART A: goes FIRST, ahead of the names: the tables' words, and 'selects' of the private methods out of them =====
/-- a private method of a class that the tables say can be made, by its rows of tables_1 -/
def lw_okq (q : MethodName × Nat) : Prop := (q.1.cls ≠ "java/lang/invoke/MethodHandle" ∧ q.1.cls ≠ "java/lang/invoke/VarHandle") ∧ Cond.instantiable q.1.cls q.2 ∈ tables_1 ∧ Cond.privateMethod q.1 ∈ tables_1 ∧ Cond.instanceMethod q.1 ∈ tables_1
theorem lw_p0 : lw_okq (⟨"BranchedText", "feedInt", "(I)V"⟩, 8) := ⟨⟨by decide +kernel, by decide +kernel⟩, List.mem_of_getElem? (i := 20) (by decide +kernel), List.mem_of_getElem? (i := 426) (by decide +kernel), List.mem_of_getElem? (i := 427) (by decide +kernel)⟩
theorem lw_p1 : lw_okq (⟨"BranchedText", "refused", "(I)I"⟩, 8) := ⟨⟨by decide +kernel, by decide +kernel⟩, List.mem_of_getElem? (i := 20) (by decide +kernel), List.mem_of_getElem? (i := 460) (by decide +kernel), List.mem_of_getElem? (i := 461) (by decide +kernel)⟩
theorem lw_p2 : lw_okq (⟨"BranchedText$Reader", "byteAt", "(I)I"⟩, 13) := ⟨⟨by decide +kernel, by decide +kernel⟩, List.mem_of_getElem? (i := 44) (by decide +kernel), List.mem_of_getElem? (i := 476) (by decide +kernel), List.mem_of_getElem? (i := 477) (by decide +kernel)⟩
theorem lw_p3 : lw_okq (⟨"BranchedText$Reader", "is", "(Ljava/lang/String;)Z"⟩, 13) := ⟨⟨by decide +kernel, by decide +kernel⟩, List.mem_of_getElem? (i := 44) (by decide +kernel), List.mem_of_getElem? (i := 495) (by decide +kernel), List.mem_of_getElem? (i := 496) (by decide +kernel)⟩
theorem lw_p4 : lw_okq (⟨"BranchedText$Reader", "spelled", "(I)Z"⟩, 13) := ⟨⟨by decide +kernel, by decide +kernel⟩, List.mem_of_getElem? (i := 44) (by decide +kernel), List.mem_of_getElem? (i := 547) (by decide +kernel), List.mem_of_getElem? (i := 548) (by decide +kernel)⟩
theorem lw_p5 : lw_okq (⟨"BranchedText$Reader", "closed", "()Z"⟩, 13) := ⟨⟨by decide +kernel, by decide +kernel⟩, List.mem_of_getElem? (i := 44) (by decide +kernel), List.mem_of_getElem? (i := 553) (by decide +kernel), List.mem_of_getElem? (i := 554) (by decide +kernel)⟩
theorem lw_p6 : lw_okq (⟨"BranchedText$Reader", "isSign", "(I)Z"⟩, 13) := ⟨⟨by decide +kernel, by decide +kernel⟩, List.mem_of_getElem? (i := 44) (by decide +kernel), List.mem_of_getElem? (i := 557) (by decide +kernel), List.mem_of_getElem? (i := 558) (by decide +kernel)⟩
theorem lw_p7 : lw_okq (⟨"BranchedText$History", "setGlyph", "(II)V"⟩, 14) := ⟨⟨by decide +kernel, by decide +kernel⟩, List.mem_of_getElem? (i := 99) (by decide +kernel), List.mem_of_getElem? (i := 572) (by decide +kernel), List.mem_of_getElem? (i := 573) (by decide +kernel)⟩
theorem lw_p8 : lw_okq (⟨"BranchedText$Reader", "test", "(LBranchedText$JoinTest;I)Z"⟩, 13) := ⟨⟨by decide +kernel, by decide +kernel⟩, List.mem_of_getElem? (i := 44) (by decide +kernel), List.mem_of_getElem? (i := 582) (by decide +kernel), List.mem_of_getElem? (i := 583) (by decide +kernel)⟩
theorem lw_p9 : lw_okq (⟨"BranchedText$Reader", "side", "(LBranchedText$JoinTest;I)Z"⟩, 13) := ⟨⟨by decide +kernel, by decide +kernel⟩, List.mem_of_getElem? (i := 44) (by decide +kernel), List.mem_of_getElem? (i := 586) (by decide +kernel), List.mem_of_getElem? (i := 587) (by decide +kernel)⟩
theorem lw_p10 : lw_okq (⟨"BranchedText$Reader", "fact", "(LBranchedText$JoinTest;I)Z"⟩, 13) := ⟨⟨by decide +kernel, by decide +kernel⟩, List.mem_of_getElem? (i := 44) (by decide +kernel), List.mem_of_getElem? (i := 590) (by decide +kernel), List.mem_of_getElem? (i := 591) (by decide +kernel)⟩
theorem lw_p11 : lw_okq (⟨"BranchedText$Reader", "asked", "()I"⟩, 13) := ⟨⟨by decide +kernel, by decide +kernel⟩, List.mem_of_getElem? (i := 44) (by decide +kernel), List.mem_of_getElem? (i := 595) (by decide +kernel), List.mem_of_getElem? (i := 596) (by decide +kernel)⟩
theorem lw_p12 : lw_okq (⟨"BranchedText$Reader", "comparison", "(LBranchedText$JoinTest;I)Z"⟩, 13) := ⟨⟨by decide +kernel, by decide +kernel⟩, List.mem_of_getElem? (i := 44) (by decide +kernel), List.mem_of_getElem? (i := 605) (by decide +kernel), List.mem_of_getElem? (i := 606) (by decide +kernel)⟩
theorem lw_p13 : lw_okq (⟨"BranchedText$Reader", "verbHere", "()I"⟩, 13) := ⟨⟨by decide +kernel, by decide +kernel⟩, List.mem_of_getElem? (i := 44) (by decide +kernel), List.mem_of_getElem? (i := 621) (by decide +kernel), List.mem_of_getElem? (i := 622) (by decide +kernel)⟩
theorem lw_p14 : lw_okq (⟨"BranchedText", "done", "(LBranchedText$History;)I"⟩, 8) := ⟨⟨by decide +kernel, by decide +kernel⟩, List.mem_of_getElem? (i := 20) (by decide +kernel), List.mem_of_getElem? (i := 637) (by decide +kernel), List.mem_of_getElem? (i := 638) (by decide +kernel)⟩
theorem lw_p15 : lw_okq (⟨"BranchedText$History", "grow", "(III)LBranchedText$State;"⟩, 14) := ⟨⟨by decide +kernel, by decide +kernel⟩, List.mem_of_getElem? (i := 99) (by decide +kernel), List.mem_of_getElem? (i := 645) (by decide +kernel), List.mem_of_getElem? (i := 646) (by decide +kernel)⟩
def lw_privs_1 : List (MethodName × Nat) := [(⟨"BranchedText", "feedInt", "(I)V"⟩, 8), (⟨"BranchedText", "refused", "(I)I"⟩, 8), (⟨"BranchedText$Reader", "byteAt", "(I)I"⟩, 13), (⟨"BranchedText$Reader", "is", "(Ljava/lang/String;)Z"⟩, 13), (⟨"BranchedText$Reader", "spelled", "(I)Z"⟩, 13), (⟨"BranchedText$Reader", "closed", "()Z"⟩, 13), (⟨"BranchedText$Reader", "isSign", "(I)Z"⟩, 13), (⟨"BranchedText$History", "setGlyph", "(II)V"⟩, 14), (⟨"BranchedText$Reader", "test", "(LBranchedText$JoinTest;I)Z"⟩, 13), (⟨"BranchedText$Reader", "side", "(LBranchedText$JoinTest;I)Z"⟩, 13), (⟨"BranchedText$Reader", "fact", "(LBranchedText$JoinTest;I)Z"⟩, 13), (⟨"BranchedText$Reader", "asked", "()I"⟩, 13), (⟨"BranchedText$Reader", "comparison", "(LBranchedText$JoinTest;I)Z"⟩, 13), (⟨"BranchedText$Reader", "verbHere", "()I"⟩, 13), (⟨"BranchedText", "done", "(LBranchedText$History;)I"⟩, 8), (⟨"BranchedText$History", "grow", "(III)LBranchedText$State;"⟩, 14)]
theorem lw_r1 : ∀ q ∈ lw_privs_1, lw_okq q := List.forall_mem_cons.mpr ⟨lw_p0, List.forall_mem_cons.mpr ⟨lw_p1, List.forall_mem_cons.mpr ⟨lw_p2, List.forall_mem_cons.mpr ⟨lw_p3, List.forall_mem_cons.mpr ⟨lw_p4, List.forall_mem_cons.mpr ⟨lw_p5, List.forall_mem_cons.mpr ⟨lw_p6, List.forall_mem_cons.mpr ⟨lw_p7, List.forall_mem_cons.mpr ⟨lw_p8, List.forall_mem_cons.mpr ⟨lw_p9, List.forall_mem_cons.mpr ⟨lw_p10, List.forall_mem_cons.mpr ⟨lw_p11, List.forall_mem_cons.mpr ⟨lw_p12, List.forall_mem_cons.mpr ⟨lw_p13, List.forall_mem_cons.mpr ⟨lw_p14, List.forall_mem_cons.mpr ⟨lw_p15, fun _ h => absurd h List.not_mem_nil⟩⟩⟩⟩⟩⟩⟩⟩⟩⟩⟩⟩⟩⟩⟩⟩
theorem lw_p16 : lw_okq (⟨"BranchedText$History", "joinGroup", "(LBranchedText$State;LBranchedText$State;)V"⟩, 14) := ⟨⟨by decide +kernel, by decide +kernel⟩, List.mem_of_getElem? (i := 99) (by decide +kernel), List.mem_of_getElem? (i := 667) (by decide +kernel), List.mem_of_getElem? (i := 668) (by decide +kernel)⟩
theorem lw_p17 : lw_okq (⟨"BranchedText$History", "moveTo", "(LBranchedText$State;)V"⟩, 14) := ⟨⟨by decide +kernel, by decide +kernel⟩, List.mem_of_getElem? (i := 99) (by decide +kernel), List.mem_of_getElem? (i := 704) (by decide +kernel), List.mem_of_getElem? (i := 705) (by decide +kernel)⟩
theorem lw_p18 : lw_okq (⟨"BranchedText$History", "findNewest", "()V"⟩, 14) := ⟨⟨by decide +kernel, by decide +kernel⟩, List.mem_of_getElem? (i := 99) (by decide +kernel), List.mem_of_getElem? (i := 716) (by decide +kernel), List.mem_of_getElem? (i := 717) (by decide +kernel)⟩
theorem lw_p19 : lw_okq (⟨"BranchedText$History", "newestChild", "(LBranchedText$State;I)LBranchedText$State;"⟩, 14) := ⟨⟨by decide +kernel, by decide +kernel⟩, List.mem_of_getElem? (i := 99) (by decide +kernel), List.mem_of_getElem? (i := 723) (by decide +kernel), List.mem_of_getElem? (i := 724) (by decide +kernel)⟩
theorem lw_p20 : lw_okq (⟨"BranchedText$Row", "link", "(LBranchedText$State;)V"⟩, 10) := ⟨⟨by decide +kernel, by decide +kernel⟩, List.mem_of_getElem? (i := 205) (by decide +kernel), List.mem_of_getElem? (i := 787) (by decide +kernel), List.mem_of_getElem? (i := 788) (by decide +kernel)⟩
theorem lw_p21 : lw_okq (⟨"BranchedText$History", "turn", "(IJJ)I"⟩, 14) := ⟨⟨by decide +kernel, by decide +kernel⟩, List.mem_of_getElem? (i := 99) (by decide +kernel), List.mem_of_getElem? (i := 810) (by decide +kernel), List.mem_of_getElem? (i := 811) (by decide +kernel)⟩
theorem lw_p22 : lw_okq (⟨"BranchedText$History", "standForThemselves", "()V"⟩, 14) := ⟨⟨by decide +kernel, by decide +kernel⟩, List.mem_of_getElem? (i := 99) (by decide +kernel), List.mem_of_getElem? (i := 841) (by decide +kernel), List.mem_of_getElem? (i := 842) (by decide +kernel)⟩
theorem lw_p23 : lw_okq (⟨"BranchedText$History", "carryOne", "(LBranchedText$State;)I"⟩, 14) := ⟨⟨by decide +kernel, by decide +kernel⟩, List.mem_of_getElem? (i := 99) (by decide +kernel), List.mem_of_getElem? (i := 845) (by decide +kernel), List.mem_of_getElem? (i := 846) (by decide +kernel)⟩
theorem lw_p24 : lw_okq (⟨"BranchedText$History", "firstTaken", "(LBranchedText$State;)I"⟩, 14) := ⟨⟨by decide +kernel, by decide +kernel⟩, List.mem_of_getElem? (i := 99) (by decide +kernel), List.mem_of_getElem? (i := 849) (by decide +kernel), List.mem_of_getElem? (i := 850) (by decide +kernel)⟩
theorem lw_p25 : lw_okq (⟨"BranchedText$History", "takes", "(LBranchedText$State;I)Z"⟩, 14) := ⟨⟨by decide +kernel, by decide +kernel⟩, List.mem_of_getElem? (i := 99) (by decide +kernel), List.mem_of_getElem? (i := 853) (by decide +kernel), List.mem_of_getElem? (i := 854) (by decide +kernel)⟩
theorem lw_p26 : lw_okq (⟨"BranchedText$History", "standOf", "(I)I"⟩, 14) := ⟨⟨by decide +kernel, by decide +kernel⟩, List.mem_of_getElem? (i := 99) (by decide +kernel), List.mem_of_getElem? (i := 858) (by decide +kernel), List.mem_of_getElem? (i := 859) (by decide +kernel)⟩
theorem lw_p27 : lw_okq (⟨"BranchedText$History", "takenFrom", "(LBranchedText$State;I)I"⟩, 14) := ⟨⟨by decide +kernel, by decide +kernel⟩, List.mem_of_getElem? (i := 99) (by decide +kernel), List.mem_of_getElem? (i := 865) (by decide +kernel), List.mem_of_getElem? (i := 866) (by decide +kernel)⟩
theorem lw_p28 : lw_okq (⟨"BranchedText$History", "remove", "(LBranchedText$State;)V"⟩, 14) := ⟨⟨by decide +kernel, by decide +kernel⟩, List.mem_of_getElem? (i := 99) (by decide +kernel), List.mem_of_getElem? (i := 907) (by decide +kernel), List.mem_of_getElem? (i := 908) (by decide +kernel)⟩
theorem lw_p29 : lw_okq (⟨"BranchedText", "given", "(I)I"⟩, 8) := ⟨⟨by decide +kernel, by decide +kernel⟩, List.mem_of_getElem? (i := 20) (by decide +kernel), List.mem_of_getElem? (i := 917) (by decide +kernel), List.mem_of_getElem? (i := 918) (by decide +kernel)⟩
theorem lw_p30 : lw_okq (⟨"BranchedText$Visits", "slot", "(I)I"⟩, 6) := ⟨⟨by decide +kernel, by decide +kernel⟩, List.mem_of_getElem? (i := 271) (by decide +kernel), List.mem_of_getElem? (i := 1004) (by decide +kernel), List.mem_of_getElem? (i := 1005) (by decide +kernel)⟩
theorem lw_p31 : lw_okq (⟨"BranchedText", "answered", "(I)I"⟩, 8) := ⟨⟨by decide +kernel, by decide +kernel⟩, List.mem_of_getElem? (i := 20) (by decide +kernel), List.mem_of_getElem? (i := 1028) (by decide +kernel), List.mem_of_getElem? (i := 1029) (by decide +kernel)⟩
def lw_privs_2 : List (MethodName × Nat) := [(⟨"BranchedText$History", "joinGroup", "(LBranchedText$State;LBranchedText$State;)V"⟩, 14), (⟨"BranchedText$History", "moveTo", "(LBranchedText$State;)V"⟩, 14), (⟨"BranchedText$History", "findNewest", "()V"⟩, 14), (⟨"BranchedText$History", "newestChild", "(LBranchedText$State;I)LBranchedText$State;"⟩, 14), (⟨"BranchedText$Row", "link", "(LBranchedText$State;)V"⟩, 10), (⟨"BranchedText$History", "turn", "(IJJ)I"⟩, 14), (⟨"BranchedText$History", "standForThemselves", "()V"⟩, 14), (⟨"BranchedText$History", "carryOne", "(LBranchedText$State;)I"⟩, 14), (⟨"BranchedText$History", "firstTaken", "(LBranchedText$State;)I"⟩, 14), (⟨"BranchedText$History", "takes", "(LBranchedText$State;I)Z"⟩, 14), (⟨"BranchedText$History", "standOf", "(I)I"⟩, 14), (⟨"BranchedText$History", "takenFrom", "(LBranchedText$State;I)I"⟩, 14), (⟨"BranchedText$History", "remove", "(LBranchedText$State;)V"⟩, 14), (⟨"BranchedText", "given", "(I)I"⟩, 8), (⟨"BranchedText$Visits", "slot", "(I)I"⟩, 6), (⟨"BranchedText", "answered", "(I)I"⟩, 8)]
theorem lw_r2 : ∀ q ∈ lw_privs_2, lw_okq q := List.forall_mem_cons.mpr ⟨lw_p16, List.forall_mem_cons.mpr ⟨lw_p17, List.forall_mem_cons.mpr ⟨lw_p18, List.forall_mem_cons.mpr ⟨lw_p19, List.forall_mem_cons.mpr ⟨lw_p20, List.forall_mem_cons.mpr ⟨lw_p21, List.forall_mem_cons.mpr ⟨lw_p22, List.forall_mem_cons.mpr ⟨lw_p23, List.forall_mem_cons.mpr ⟨lw_p24, List.forall_mem_cons.mpr ⟨lw_p25, List.forall_mem_cons.mpr ⟨lw_p26, List.forall_mem_cons.mpr ⟨lw_p27, List.forall_mem_cons.mpr ⟨lw_p28, List.forall_mem_cons.mpr ⟨lw_p29, List.forall_mem_cons.mpr ⟨lw_p30, List.forall_mem_cons.mpr ⟨lw_p31, fun _ h => absurd h List.not_mem_nil⟩⟩⟩⟩⟩⟩⟩⟩⟩⟩⟩⟩⟩⟩⟩⟩
theorem lw_p32 : lw_okq (⟨"BranchedText", "tellDocument", "()V"⟩, 8) := ⟨⟨by decide +kernel, by decide +kernel⟩, List.mem_of_getElem? (i := 20) (by decide +kernel), List.mem_of_getElem? (i := 1146) (by decide +kernel), List.mem_of_getElem? (i := 1147) (by decide +kernel)⟩
theorem lw_p33 : lw_okq (⟨"BranchedText", "tellByte", "(I)V"⟩, 8) := ⟨⟨by decide +kernel, by decide +kernel⟩, List.mem_of_getElem? (i := 20) (by decide +kernel), List.mem_of_getElem? (i := 1150) (by decide +kernel), List.mem_of_getElem? (i := 1151) (by decide +kernel)⟩
theorem lw_p34 : lw_okq (⟨"BranchedText", "tellLine", "()V"⟩, 8) := ⟨⟨by decide +kernel, by decide +kernel⟩, List.mem_of_getElem? (i := 20) (by decide +kernel), List.mem_of_getElem? (i := 1154) (by decide +kernel), List.mem_of_getElem? (i := 1155) (by decide +kernel)⟩
theorem lw_p35 : lw_okq (⟨"BranchedText", "tellNumber", "(I)V"⟩, 8) := ⟨⟨by decide +kernel, by decide +kernel⟩, List.mem_of_getElem? (i := 20) (by decide +kernel), List.mem_of_getElem? (i := 1162) (by decide +kernel), List.mem_of_getElem? (i := 1163) (by decide +kernel)⟩
theorem lw_p36 : lw_okq (⟨"BranchedText", "tellNames", "()V"⟩, 8) := ⟨⟨by decide +kernel, by decide +kernel⟩, List.mem_of_getElem? (i := 20) (by decide +kernel), List.mem_of_getElem? (i := 1166) (by decide +kernel), List.mem_of_getElem? (i := 1167) (by decide +kernel)⟩
theorem lw_p37 : lw_okq (⟨"BranchedTextModel", "clears", "()V"⟩, 48) := ⟨⟨by decide +kernel, by decide +kernel⟩, List.mem_of_getElem? (i := 1225) (by decide +kernel), List.mem_of_getElem? (i := 1254) (by decide +kernel), List.mem_of_getElem? (i := 1255) (by decide +kernel)⟩
theorem lw_p38 : lw_okq (⟨"BranchedTextModel", "sets", "(III)V"⟩, 48) := ⟨⟨by decide +kernel, by decide +kernel⟩, List.mem_of_getElem? (i := 1225) (by decide +kernel), List.mem_of_getElem? (i := 1258) (by decide +kernel), List.mem_of_getElem? (i := 1259) (by decide +kernel)⟩
theorem lw_p39 : lw_okq (⟨"BranchedTextModel", "lays", "(I)V"⟩, 48) := ⟨⟨by decide +kernel, by decide +kernel⟩, List.mem_of_getElem? (i := 1225) (by decide +kernel), List.mem_of_getElem? (i := 1420) (by decide +kernel), List.mem_of_getElem? (i := 1421) (by decide +kernel)⟩
theorem lw_p40 : lw_okq (⟨"BranchedTextModel", "is", "(I)Z"⟩, 48) := ⟨⟨by decide +kernel, by decide +kernel⟩, List.mem_of_getElem? (i := 1225) (by decide +kernel), List.mem_of_getElem? (i := 1431) (by decide +kernel), List.mem_of_getElem? (i := 1432) (by decide +kernel)⟩
theorem lw_p41 : lw_okq (⟨"BranchedTextModel", "reads", "()V"⟩, 48) := ⟨⟨by decide +kernel, by decide +kernel⟩, List.mem_of_getElem? (i := 1225) (by decide +kernel), List.mem_of_getElem? (i := 1435) (by decide +kernel), List.mem_of_getElem? (i := 1436) (by decide +kernel)⟩
theorem lw_p42 : lw_okq (⟨"BranchedTextModel", "isOf", "(III)Z"⟩, 48) := ⟨⟨by decide +kernel, by decide +kernel⟩, List.mem_of_getElem? (i := 1225) (by decide +kernel), List.mem_of_getElem? (i := 1495) (by decide +kernel), List.mem_of_getElem? (i := 1496) (by decide +kernel)⟩
theorem lw_p43 : lw_okq (⟨"BranchedTextModel", "which", "([J)I"⟩, 48) := ⟨⟨by decide +kernel, by decide +kernel⟩, List.mem_of_getElem? (i := 1225) (by decide +kernel), List.mem_of_getElem? (i := 1501) (by decide +kernel), List.mem_of_getElem? (i := 1502) (by decide +kernel)⟩
theorem lw_p44 : lw_okq (⟨"BranchedTextModel", "takesWord", "(I)V"⟩, 48) := ⟨⟨by decide +kernel, by decide +kernel⟩, List.mem_of_getElem? (i := 1225) (by decide +kernel), List.mem_of_getElem? (i := 1505) (by decide +kernel), List.mem_of_getElem? (i := 1506) (by decide +kernel)⟩
theorem lw_p45 : lw_okq (⟨"BranchedTextModel", "must", "(ZI)V"⟩, 48) := ⟨⟨by decide +kernel, by decide +kernel⟩, List.mem_of_getElem? (i := 1225) (by decide +kernel), List.mem_of_getElem? (i := 1509) (by decide +kernel), List.mem_of_getElem? (i := 1510) (by decide +kernel)⟩
theorem lw_p46 : lw_okq (⟨"BranchedTextModel", "takes", "(C)V"⟩, 48) := ⟨⟨by decide +kernel, by decide +kernel⟩, List.mem_of_getElem? (i := 1225) (by decide +kernel), List.mem_of_getElem? (i := 1513) (by decide +kernel), List.mem_of_getElem? (i := 1514) (by decide +kernel)⟩
theorem lw_p47 : lw_okq (⟨"BranchedTextModel", "isSign", "(C)Z"⟩, 48) := ⟨⟨by decide +kernel, by decide +kernel⟩, List.mem_of_getElem? (i := 1225) (by decide +kernel), List.mem_of_getElem? (i := 1517) (by decide +kernel), List.mem_of_getElem? (i := 1518) (by decide +kernel)⟩
def lw_privs_3 : List (MethodName × Nat) := [(⟨"BranchedText", "tellDocument", "()V"⟩, 8), (⟨"BranchedText", "tellByte", "(I)V"⟩, 8), (⟨"BranchedText", "tellLine", "()V"⟩, 8), (⟨"BranchedText", "tellNumber", "(I)V"⟩, 8), (⟨"BranchedText", "tellNames", "()V"⟩, 8), (⟨"BranchedTextModel", "clears", "()V"⟩, 48), (⟨"BranchedTextModel", "sets", "(III)V"⟩, 48), (⟨"BranchedTextModel", "lays", "(I)V"⟩, 48), (⟨"BranchedTextModel", "is", "(I)Z"⟩, 48), (⟨"BranchedTextModel", "reads", "()V"⟩, 48), (⟨"BranchedTextModel", "isOf", "(III)Z"⟩, 48), (⟨"BranchedTextModel", "which", "([J)I"⟩, 48), (⟨"BranchedTextModel", "takesWord", "(I)V"⟩, 48), (⟨"BranchedTextModel", "must", "(ZI)V"⟩, 48), (⟨"BranchedTextModel", "takes", "(C)V"⟩, 48), (⟨"BranchedTextModel", "isSign", "(C)Z"⟩, 48)]
theorem lw_r3 : ∀ q ∈ lw_privs_3, lw_okq q := List.forall_mem_cons.mpr ⟨lw_p32, List.forall_mem_cons.mpr ⟨lw_p33, List.forall_mem_cons.mpr ⟨lw_p34, List.forall_mem_cons.mpr ⟨lw_p35, List.forall_mem_cons.mpr ⟨lw_p36, List.forall_mem_cons.mpr ⟨lw_p37, List.forall_mem_cons.mpr ⟨lw_p38, List.forall_mem_cons.mpr ⟨lw_p39, List.forall_mem_cons.mpr ⟨lw_p40, List.forall_mem_cons.mpr ⟨lw_p41, List.forall_mem_cons.mpr ⟨lw_p42, List.forall_mem_cons.mpr ⟨lw_p43, List.forall_mem_cons.mpr ⟨lw_p44, List.forall_mem_cons.mpr ⟨lw_p45, List.forall_mem_cons.mpr ⟨lw_p46, List.forall_mem_cons.mpr ⟨lw_p47, fun _ h => absurd h List.not_mem_nil⟩⟩⟩⟩⟩⟩⟩⟩⟩⟩⟩⟩⟩⟩⟩⟩
theorem lw_p48 : lw_okq (⟨"BranchedTextModel", "test", "()V"⟩, 48) := ⟨⟨by decide +kernel, by decide +kernel⟩, List.mem_of_getElem? (i := 1225) (by decide +kernel), List.mem_of_getElem? (i := 1521) (by decide +kernel), List.mem_of_getElem? (i := 1522) (by decide +kernel)⟩
theorem lw_p49 : lw_okq (⟨"BranchedTextModel", "side", "()V"⟩, 48) := ⟨⟨by decide +kernel, by decide +kernel⟩, List.mem_of_getElem? (i := 1225) (by decide +kernel), List.mem_of_getElem? (i := 1525) (by decide +kernel), List.mem_of_getElem? (i := 1526) (by decide +kernel)⟩
theorem lw_p50 : lw_okq (⟨"BranchedTextModel", "fact", "()V"⟩, 48) := ⟨⟨by decide +kernel, by decide +kernel⟩, List.mem_of_getElem? (i := 1225) (by decide +kernel), List.mem_of_getElem? (i := 1529) (by decide +kernel), List.mem_of_getElem? (i := 1530) (by decide +kernel)⟩
theorem lw_p51 : lw_okq (⟨"BranchedTextModel", "emits", "(I)V"⟩, 48) := ⟨⟨by decide +kernel, by decide +kernel⟩, List.mem_of_getElem? (i := 1225) (by decide +kernel), List.mem_of_getElem? (i := 1533) (by decide +kernel), List.mem_of_getElem? (i := 1534) (by decide +kernel)⟩
theorem lw_p52 : lw_okq (⟨"BranchedTextModel", "takesNumber", "()I"⟩, 48) := ⟨⟨by decide +kernel, by decide +kernel⟩, List.mem_of_getElem? (i := 1225) (by decide +kernel), List.mem_of_getElem? (i := 1537) (by decide +kernel), List.mem_of_getElem? (i := 1538) (by decide +kernel)⟩
theorem lw_p53 : lw_okq (⟨"BranchedTextModel", "readsLine", "()V"⟩, 48) := ⟨⟨by decide +kernel, by decide +kernel⟩, List.mem_of_getElem? (i := 1225) (by decide +kernel), List.mem_of_getElem? (i := 1541) (by decide +kernel), List.mem_of_getElem? (i := 1542) (by decide +kernel)⟩
theorem lw_p54 : lw_okq (⟨"BranchedTextModel", "does", "(I)I"⟩, 48) := ⟨⟨by decide +kernel, by decide +kernel⟩, List.mem_of_getElem? (i := 1225) (by decide +kernel), List.mem_of_getElem? (i := 1545) (by decide +kernel), List.mem_of_getElem? (i := 1546) (by decide +kernel)⟩
theorem lw_p55 : lw_okq (⟨"BranchedTextModel", "putNow", "(I)I"⟩, 48) := ⟨⟨by decide +kernel, by decide +kernel⟩, List.mem_of_getElem? (i := 1225) (by decide +kernel), List.mem_of_getElem? (i := 1549) (by decide +kernel), List.mem_of_getElem? (i := 1550) (by decide +kernel)⟩
theorem lw_p56 : lw_okq (⟨"BranchedTextModel", "here", "()I"⟩, 48) := ⟨⟨by decide +kernel, by decide +kernel⟩, List.mem_of_getElem? (i := 1225) (by decide +kernel), List.mem_of_getElem? (i := 1553) (by decide +kernel), List.mem_of_getElem? (i := 1554) (by decide +kernel)⟩
theorem lw_p57 : lw_okq (⟨"BranchedTextModel", "lettersOf", "(I)I"⟩, 48) := ⟨⟨by decide +kernel, by decide +kernel⟩, List.mem_of_getElem? (i := 1225) (by decide +kernel), List.mem_of_getElem? (i := 1557) (by decide +kernel), List.mem_of_getElem? (i := 1558) (by decide +kernel)⟩
theorem lw_p58 : lw_okq (⟨"BranchedTextModel", "sees", "(I)V"⟩, 48) := ⟨⟨by decide +kernel, by decide +kernel⟩, List.mem_of_getElem? (i := 1225) (by decide +kernel), List.mem_of_getElem? (i := 1561) (by decide +kernel), List.mem_of_getElem? (i := 1562) (by decide +kernel)⟩
theorem lw_p59 : lw_okq (⟨"BranchedTextModel", "depthOf", "(I)I"⟩, 48) := ⟨⟨by decide +kernel, by decide +kernel⟩, List.mem_of_getElem? (i := 1225) (by decide +kernel), List.mem_of_getElem? (i := 1565) (by decide +kernel), List.mem_of_getElem? (i := 1566) (by decide +kernel)⟩
theorem lw_p60 : lw_okq (⟨"BranchedTextModel", "of", "(II)I"⟩, 48) := ⟨⟨by decide +kernel, by decide +kernel⟩, List.mem_of_getElem? (i := 1225) (by decide +kernel), List.mem_of_getElem? (i := 1569) (by decide +kernel), List.mem_of_getElem? (i := 1570) (by decide +kernel)⟩
theorem lw_p61 : lw_okq (⟨"BranchedTextModel", "isEdit", "(I)Z"⟩, 48) := ⟨⟨by decide +kernel, by decide +kernel⟩, List.mem_of_getElem? (i := 1225) (by decide +kernel), List.mem_of_getElem? (i := 1573) (by decide +kernel), List.mem_of_getElem? (i := 1574) (by decide +kernel)⟩
theorem lw_p62 : lw_okq (⟨"BranchedTextModel", "letsIn", "(I)V"⟩, 48) := ⟨⟨by decide +kernel, by decide +kernel⟩, List.mem_of_getElem? (i := 1225) (by decide +kernel), List.mem_of_getElem? (i := 1577) (by decide +kernel), List.mem_of_getElem? (i := 1578) (by decide +kernel)⟩
theorem lw_p63 : lw_okq (⟨"BranchedTextModel", "rowOf", "(II)I"⟩, 48) := ⟨⟨by decide +kernel, by decide +kernel⟩, List.mem_of_getElem? (i := 1225) (by decide +kernel), List.mem_of_getElem? (i := 1581) (by decide +kernel), List.mem_of_getElem? (i := 1582) (by decide +kernel)⟩
def lw_privs_4 : List (MethodName × Nat) := [(⟨"BranchedTextModel", "test", "()V"⟩, 48), (⟨"BranchedTextModel", "side", "()V"⟩, 48), (⟨"BranchedTextModel", "fact", "()V"⟩, 48), (⟨"BranchedTextModel", "emits", "(I)V"⟩, 48), (⟨"BranchedTextModel", "takesNumber", "()I"⟩, 48), (⟨"BranchedTextModel", "readsLine", "()V"⟩, 48), (⟨"BranchedTextModel", "does", "(I)I"⟩, 48), (⟨"BranchedTextModel", "putNow", "(I)I"⟩, 48), (⟨"BranchedTextModel", "here", "()I"⟩, 48), (⟨"BranchedTextModel", "lettersOf", "(I)I"⟩, 48), (⟨"BranchedTextModel", "sees", "(I)V"⟩, 48), (⟨"BranchedTextModel", "depthOf", "(I)I"⟩, 48), (⟨"BranchedTextModel", "of", "(II)I"⟩, 48), (⟨"BranchedTextModel", "isEdit", "(I)Z"⟩, 48), (⟨"BranchedTextModel", "letsIn", "(I)V"⟩, 48), (⟨"BranchedTextModel", "rowOf", "(II)I"⟩, 48)]
theorem lw_r4 : ∀ q ∈ lw_privs_4, lw_okq q := List.forall_mem_cons.mpr ⟨lw_p48, List.forall_mem_cons.mpr ⟨lw_p49, List.forall_mem_cons.mpr ⟨lw_p50, List.forall_mem_cons.mpr ⟨lw_p51, List.forall_mem_cons.mpr ⟨lw_p52, List.forall_mem_cons.mpr ⟨lw_p53, List.forall_mem_cons.mpr ⟨lw_p54, List.forall_mem_cons.mpr ⟨lw_p55, List.forall_mem_cons.mpr ⟨lw_p56, List.forall_mem_cons.mpr ⟨lw_p57, List.forall_mem_cons.mpr ⟨lw_p58, List.forall_mem_cons.mpr ⟨lw_p59, List.forall_mem_cons.mpr ⟨lw_p60, List.forall_mem_cons.mpr ⟨lw_p61, List.forall_mem_cons.mpr ⟨lw_p62, List.forall_mem_cons.mpr ⟨lw_p63, fun _ h => absurd h List.not_mem_nil⟩⟩⟩⟩⟩⟩⟩⟩⟩⟩⟩⟩⟩⟩⟩⟩
theorem lw_p64 : lw_okq (⟨"BranchedTextModel", "turns", "(I)V"⟩, 48) := ⟨⟨by decide +kernel, by decide +kernel⟩, List.mem_of_getElem? (i := 1225) (by decide +kernel), List.mem_of_getElem? (i := 1585) (by decide +kernel), List.mem_of_getElem? (i := 1586) (by decide +kernel)⟩
theorem lw_p65 : lw_okq (⟨"BranchedTextModel", "names", "(II)Z"⟩, 48) := ⟨⟨by decide +kernel, by decide +kernel⟩, List.mem_of_getElem? (i := 1225) (by decide +kernel), List.mem_of_getElem? (i := 1589) (by decide +kernel), List.mem_of_getElem? (i := 1590) (by decide +kernel)⟩
theorem lw_p66 : lw_okq (⟨"BranchedTextModel", "refuse", "(I)I"⟩, 48) := ⟨⟨by decide +kernel, by decide +kernel⟩, List.mem_of_getElem? (i := 1225) (by decide +kernel), List.mem_of_getElem? (i := 1593) (by decide +kernel), List.mem_of_getElem? (i := 1594) (by decide +kernel)⟩
theorem lw_p67 : lw_okq (⟨"BranchedTextModel", "states", "()I"⟩, 48) := ⟨⟨by decide +kernel, by decide +kernel⟩, List.mem_of_getElem? (i := 1225) (by decide +kernel), List.mem_of_getElem? (i := 1597) (by decide +kernel), List.mem_of_getElem? (i := 1598) (by decide +kernel)⟩
theorem lw_p68 : lw_okq (⟨"BranchedTextModel", "freeState", "()I"⟩, 48) := ⟨⟨by decide +kernel, by decide +kernel⟩, List.mem_of_getElem? (i := 1225) (by decide +kernel), List.mem_of_getElem? (i := 1601) (by decide +kernel), List.mem_of_getElem? (i := 1602) (by decide +kernel)⟩
theorem lw_p69 : lw_okq (⟨"BranchedTextModel", "rowPlace", "(I)I"⟩, 48) := ⟨⟨by decide +kernel, by decide +kernel⟩, List.mem_of_getElem? (i := 1225) (by decide +kernel), List.mem_of_getElem? (i := 1605) (by decide +kernel), List.mem_of_getElem? (i := 1606) (by decide +kernel)⟩
theorem lw_p70 : lw_okq (⟨"BranchedTextModel", "joins", "(III)Z"⟩, 48) := ⟨⟨by decide +kernel, by decide +kernel⟩, List.mem_of_getElem? (i := 1225) (by decide +kernel), List.mem_of_getElem? (i := 1609) (by decide +kernel), List.mem_of_getElem? (i := 1610) (by decide +kernel)⟩
theorem lw_p71 : lw_okq (⟨"BranchedTextModel", "isNear", "(IIII)Z"⟩, 48) := ⟨⟨by decide +kernel, by decide +kernel⟩, List.mem_of_getElem? (i := 1225) (by decide +kernel), List.mem_of_getElem? (i := 1613) (by decide +kernel), List.mem_of_getElem? (i := 1614) (by decide +kernel)⟩
theorem lw_p72 : lw_okq (⟨"BranchedTextModel", "holds", "()Z"⟩, 48) := ⟨⟨by decide +kernel, by decide +kernel⟩, List.mem_of_getElem? (i := 1225) (by decide +kernel), List.mem_of_getElem? (i := 1617) (by decide +kernel), List.mem_of_getElem? (i := 1618) (by decide +kernel)⟩
theorem lw_p73 : lw_okq (⟨"BranchedTextModel", "begins", "(IIIIZ)V"⟩, 48) := ⟨⟨by decide +kernel, by decide +kernel⟩, List.mem_of_getElem? (i := 1225) (by decide +kernel), List.mem_of_getElem? (i := 1624) (by decide +kernel), List.mem_of_getElem? (i := 1625) (by decide +kernel)⟩
theorem lw_p74 : lw_okq (⟨"BranchedTextModel", "visits", "(I)V"⟩, 48) := ⟨⟨by decide +kernel, by decide +kernel⟩, List.mem_of_getElem? (i := 1225) (by decide +kernel), List.mem_of_getElem? (i := 1628) (by decide +kernel), List.mem_of_getElem? (i := 1629) (by decide +kernel)⟩
theorem lw_p75 : lw_okq (⟨"BranchedTextModel", "cutNow", "(II)I"⟩, 48) := ⟨⟨by decide +kernel, by decide +kernel⟩, List.mem_of_getElem? (i := 1225) (by decide +kernel), List.mem_of_getElem? (i := 1632) (by decide +kernel), List.mem_of_getElem? (i := 1633) (by decide +kernel)⟩
theorem lw_p76 : lw_okq (⟨"BranchedTextModel", "undoNow", "()I"⟩, 48) := ⟨⟨by decide +kernel, by decide +kernel⟩, List.mem_of_getElem? (i := 1225) (by decide +kernel), List.mem_of_getElem? (i := 1636) (by decide +kernel), List.mem_of_getElem? (i := 1637) (by decide +kernel)⟩
theorem lw_p77 : lw_okq (⟨"BranchedTextModel", "redoNow", "()I"⟩, 48) := ⟨⟨by decide +kernel, by decide +kernel⟩, List.mem_of_getElem? (i := 1225) (by decide +kernel), List.mem_of_getElem? (i := 1640) (by decide +kernel), List.mem_of_getElem? (i := 1641) (by decide +kernel)⟩
theorem lw_p78 : lw_okq (⟨"BranchedTextModel", "childOf", "(II)I"⟩, 48) := ⟨⟨by decide +kernel, by decide +kernel⟩, List.mem_of_getElem? (i := 1225) (by decide +kernel), List.mem_of_getElem? (i := 1644) (by decide +kernel), List.mem_of_getElem? (i := 1645) (by decide +kernel)⟩
theorem lw_p79 : lw_okq (⟨"BranchedTextModel", "isState", "(I)Z"⟩, 48) := ⟨⟨by decide +kernel, by decide +kernel⟩, List.mem_of_getElem? (i := 1225) (by decide +kernel), List.mem_of_getElem? (i := 1648) (by decide +kernel), List.mem_of_getElem? (i := 1649) (by decide +kernel)⟩
def lw_privs_5 : List (MethodName × Nat) := [(⟨"BranchedTextModel", "turns", "(I)V"⟩, 48), (⟨"BranchedTextModel", "names", "(II)Z"⟩, 48), (⟨"BranchedTextModel", "refuse", "(I)I"⟩, 48), (⟨"BranchedTextModel", "states", "()I"⟩, 48), (⟨"BranchedTextModel", "freeState", "()I"⟩, 48), (⟨"BranchedTextModel", "rowPlace", "(I)I"⟩, 48), (⟨"BranchedTextModel", "joins", "(III)Z"⟩, 48), (⟨"BranchedTextModel", "isNear", "(IIII)Z"⟩, 48), (⟨"BranchedTextModel", "holds", "()Z"⟩, 48), (⟨"BranchedTextModel", "begins", "(IIIIZ)V"⟩, 48), (⟨"BranchedTextModel", "visits", "(I)V"⟩, 48), (⟨"BranchedTextModel", "cutNow", "(II)I"⟩, 48), (⟨"BranchedTextModel", "undoNow", "()I"⟩, 48), (⟨"BranchedTextModel", "redoNow", "()I"⟩, 48), (⟨"BranchedTextModel", "childOf", "(II)I"⟩, 48), (⟨"BranchedTextModel", "isState", "(I)Z"⟩, 48)]
theorem lw_r5 : ∀ q ∈ lw_privs_5, lw_okq q := List.forall_mem_cons.mpr ⟨lw_p64, List.forall_mem_cons.mpr ⟨lw_p65, List.forall_mem_cons.mpr ⟨lw_p66, List.forall_mem_cons.mpr ⟨lw_p67, List.forall_mem_cons.mpr ⟨lw_p68, List.forall_mem_cons.mpr ⟨lw_p69, List.forall_mem_cons.mpr ⟨lw_p70, List.forall_mem_cons.mpr ⟨lw_p71, List.forall_mem_cons.mpr ⟨lw_p72, List.forall_mem_cons.mpr ⟨lw_p73, List.forall_mem_cons.mpr ⟨lw_p74, List.forall_mem_cons.mpr ⟨lw_p75, List.forall_mem_cons.mpr ⟨lw_p76, List.forall_mem_cons.mpr ⟨lw_p77, List.forall_mem_cons.mpr ⟨lw_p78, List.forall_mem_cons.mpr ⟨lw_p79, fun _ h => absurd h List.not_mem_nil⟩⟩⟩⟩⟩⟩⟩⟩⟩⟩⟩⟩⟩⟩⟩⟩
theorem lw_p80 : lw_okq (⟨"BranchedTextModel", "latestIn", "(I)I"⟩, 48) := ⟨⟨by decide +kernel, by decide +kernel⟩, List.mem_of_getElem? (i := 1225) (by decide +kernel), List.mem_of_getElem? (i := 1652) (by decide +kernel), List.mem_of_getElem? (i := 1653) (by decide +kernel)⟩
theorem lw_p81 : lw_okq (⟨"BranchedTextModel", "isOfLine", "(II)Z"⟩, 48) := ⟨⟨by decide +kernel, by decide +kernel⟩, List.mem_of_getElem? (i := 1225) (by decide +kernel), List.mem_of_getElem? (i := 1656) (by decide +kernel), List.mem_of_getElem? (i := 1657) (by decide +kernel)⟩
theorem lw_p82 : lw_okq (⟨"BranchedTextModel", "goNow", "(I)I"⟩, 48) := ⟨⟨by decide +kernel, by decide +kernel⟩, List.mem_of_getElem? (i := 1225) (by decide +kernel), List.mem_of_getElem? (i := 1660) (by decide +kernel), List.mem_of_getElem? (i := 1661) (by decide +kernel)⟩
theorem lw_p83 : lw_okq (⟨"BranchedTextModel", "wayMany", "(II)I"⟩, 48) := ⟨⟨by decide +kernel, by decide +kernel⟩, List.mem_of_getElem? (i := 1225) (by decide +kernel), List.mem_of_getElem? (i := 1664) (by decide +kernel), List.mem_of_getElem? (i := 1665) (by decide +kernel)⟩
theorem lw_p84 : lw_okq (⟨"BranchedTextModel", "commonOf", "(II)I"⟩, 48) := ⟨⟨by decide +kernel, by decide +kernel⟩, List.mem_of_getElem? (i := 1225) (by decide +kernel), List.mem_of_getElem? (i := 1668) (by decide +kernel), List.mem_of_getElem? (i := 1669) (by decide +kernel)⟩
theorem lw_p85 : lw_okq (⟨"BranchedTextModel", "nameNow", "()I"⟩, 48) := ⟨⟨by decide +kernel, by decide +kernel⟩, List.mem_of_getElem? (i := 1225) (by decide +kernel), List.mem_of_getElem? (i := 1672) (by decide +kernel), List.mem_of_getElem? (i := 1673) (by decide +kernel)⟩
theorem lw_p86 : lw_okq (⟨"BranchedTextModel", "nameAt", "(I)I"⟩, 48) := ⟨⟨by decide +kernel, by decide +kernel⟩, List.mem_of_getElem? (i := 1225) (by decide +kernel), List.mem_of_getElem? (i := 1679) (by decide +kernel), List.mem_of_getElem? (i := 1680) (by decide +kernel)⟩
theorem lw_p87 : lw_okq (⟨"BranchedTextModel", "turnNow", "(II)I"⟩, 48) := ⟨⟨by decide +kernel, by decide +kernel⟩, List.mem_of_getElem? (i := 1225) (by decide +kernel), List.mem_of_getElem? (i := 1683) (by decide +kernel), List.mem_of_getElem? (i := 1684) (by decide +kernel)⟩
theorem lw_p88 : lw_okq (⟨"BranchedTextModel", "marks", "(IZ)V"⟩, 48) := ⟨⟨by decide +kernel, by decide +kernel⟩, List.mem_of_getElem? (i := 1225) (by decide +kernel), List.mem_of_getElem? (i := 1687) (by decide +kernel), List.mem_of_getElem? (i := 1688) (by decide +kernel)⟩
theorem lw_p89 : lw_okq (⟨"BranchedTextModel", "leansOn", "(II)Z"⟩, 48) := ⟨⟨by decide +kernel, by decide +kernel⟩, List.mem_of_getElem? (i := 1225) (by decide +kernel), List.mem_of_getElem? (i := 1691) (by decide +kernel), List.mem_of_getElem? (i := 1692) (by decide +kernel)⟩
theorem lw_p90 : lw_okq (⟨"BranchedTextModel", "triesNames", "(I)I"⟩, 48) := ⟨⟨by decide +kernel, by decide +kernel⟩, List.mem_of_getElem? (i := 1225) (by decide +kernel), List.mem_of_getElem? (i := 1695) (by decide +kernel), List.mem_of_getElem? (i := 1696) (by decide +kernel)⟩
theorem lw_p91 : lw_okq (⟨"BranchedTextModel", "namesToo", "(II)V"⟩, 48) := ⟨⟨by decide +kernel, by decide +kernel⟩, List.mem_of_getElem? (i := 1225) (by decide +kernel), List.mem_of_getElem? (i := 1699) (by decide +kernel), List.mem_of_getElem? (i := 1700) (by decide +kernel)⟩
theorem lw_p92 : lw_okq (⟨"BranchedTextModel", "carryNow", "(I)I"⟩, 48) := ⟨⟨by decide +kernel, by decide +kernel⟩, List.mem_of_getElem? (i := 1225) (by decide +kernel), List.mem_of_getElem? (i := 1703) (by decide +kernel), List.mem_of_getElem? (i := 1704) (by decide +kernel)⟩
theorem lw_p93 : lw_okq (⟨"BranchedTextModel", "plain", "()V"⟩, 48) := ⟨⟨by decide +kernel, by decide +kernel⟩, List.mem_of_getElem? (i := 1225) (by decide +kernel), List.mem_of_getElem? (i := 1707) (by decide +kernel), List.mem_of_getElem? (i := 1708) (by decide +kernel)⟩
theorem lw_p94 : lw_okq (⟨"BranchedTextModel", "carries", "(I)I"⟩, 48) := ⟨⟨by decide +kernel, by decide +kernel⟩, List.mem_of_getElem? (i := 1225) (by decide +kernel), List.mem_of_getElem? (i := 1711) (by decide +kernel), List.mem_of_getElem? (i := 1712) (by decide +kernel)⟩
theorem lw_p95 : lw_okq (⟨"BranchedTextModel", "carriesCut", "(I)I"⟩, 48) := ⟨⟨by decide +kernel, by decide +kernel⟩, List.mem_of_getElem? (i := 1225) (by decide +kernel), List.mem_of_getElem? (i := 1715) (by decide +kernel), List.mem_of_getElem? (i := 1716) (by decide +kernel)⟩
def lw_privs_6 : List (MethodName × Nat) := [(⟨"BranchedTextModel", "latestIn", "(I)I"⟩, 48), (⟨"BranchedTextModel", "isOfLine", "(II)Z"⟩, 48), (⟨"BranchedTextModel", "goNow", "(I)I"⟩, 48), (⟨"BranchedTextModel", "wayMany", "(II)I"⟩, 48), (⟨"BranchedTextModel", "commonOf", "(II)I"⟩, 48), (⟨"BranchedTextModel", "nameNow", "()I"⟩, 48), (⟨"BranchedTextModel", "nameAt", "(I)I"⟩, 48), (⟨"BranchedTextModel", "turnNow", "(II)I"⟩, 48), (⟨"BranchedTextModel", "marks", "(IZ)V"⟩, 48), (⟨"BranchedTextModel", "leansOn", "(II)Z"⟩, 48), (⟨"BranchedTextModel", "triesNames", "(I)I"⟩, 48), (⟨"BranchedTextModel", "namesToo", "(II)V"⟩, 48), (⟨"BranchedTextModel", "carryNow", "(I)I"⟩, 48), (⟨"BranchedTextModel", "plain", "()V"⟩, 48), (⟨"BranchedTextModel", "carries", "(I)I"⟩, 48), (⟨"BranchedTextModel", "carriesCut", "(I)I"⟩, 48)]
theorem lw_r6 : ∀ q ∈ lw_privs_6, lw_okq q := List.forall_mem_cons.mpr ⟨lw_p80, List.forall_mem_cons.mpr ⟨lw_p81, List.forall_mem_cons.mpr ⟨lw_p82, List.forall_mem_cons.mpr ⟨lw_p83, List.forall_mem_cons.mpr ⟨lw_p84, List.forall_mem_cons.mpr ⟨lw_p85, List.forall_mem_cons.mpr ⟨lw_p86, List.forall_mem_cons.mpr ⟨lw_p87, List.forall_mem_cons.mpr ⟨lw_p88, List.forall_mem_cons.mpr ⟨lw_p89, List.forall_mem_cons.mpr ⟨lw_p90, List.forall_mem_cons.mpr ⟨lw_p91, List.forall_mem_cons.mpr ⟨lw_p92, List.forall_mem_cons.mpr ⟨lw_p93, List.forall_mem_cons.mpr ⟨lw_p94, List.forall_mem_cons.mpr ⟨lw_p95, fun _ h => absurd h List.not_mem_nil⟩⟩⟩⟩⟩⟩⟩⟩⟩⟩⟩⟩⟩⟩⟩⟩
theorem lw_p96 : lw_okq (⟨"BranchedTextModel", "isTaken", "(II)Z"⟩, 48) := ⟨⟨by decide +kernel, by decide +kernel⟩, List.mem_of_getElem? (i := 1225) (by decide +kernel), List.mem_of_getElem? (i := 1719) (by decide +kernel), List.mem_of_getElem? (i := 1720) (by decide +kernel)⟩
theorem lw_p97 : lw_okq (⟨"BranchedTextModel", "mergeNow", "(I)I"⟩, 48) := ⟨⟨by decide +kernel, by decide +kernel⟩, List.mem_of_getElem? (i := 1225) (by decide +kernel), List.mem_of_getElem? (i := 1723) (by decide +kernel), List.mem_of_getElem? (i := 1724) (by decide +kernel)⟩
theorem lw_p98 : lw_okq (⟨"BranchedTextModel", "pruneNow", "(I)I"⟩, 48) := ⟨⟨by decide +kernel, by decide +kernel⟩, List.mem_of_getElem? (i := 1225) (by decide +kernel), List.mem_of_getElem? (i := 1727) (by decide +kernel), List.mem_of_getElem? (i := 1728) (by decide +kernel)⟩
theorem lw_p99 : lw_okq (⟨"BranchedTextModel", "firstOut", "()I"⟩, 48) := ⟨⟨by decide +kernel, by decide +kernel⟩, List.mem_of_getElem? (i := 1225) (by decide +kernel), List.mem_of_getElem? (i := 1731) (by decide +kernel), List.mem_of_getElem? (i := 1732) (by decide +kernel)⟩
theorem lw_p100 : lw_okq (⟨"BranchedTextModel", "childrenOf", "(I)I"⟩, 48) := ⟨⟨by decide +kernel, by decide +kernel⟩, List.mem_of_getElem? (i := 1225) (by decide +kernel), List.mem_of_getElem? (i := 1735) (by decide +kernel), List.mem_of_getElem? (i := 1736) (by decide +kernel)⟩
theorem lw_p101 : lw_okq (⟨"BranchedTextModel", "namesOf", "(I)I"⟩, 48) := ⟨⟨by decide +kernel, by decide +kernel⟩, List.mem_of_getElem? (i := 1225) (by decide +kernel), List.mem_of_getElem? (i := 1739) (by decide +kernel), List.mem_of_getElem? (i := 1740) (by decide +kernel)⟩
theorem lw_p102 : lw_okq (⟨"BranchedTextModel", "leaves", "()I"⟩, 48) := ⟨⟨by decide +kernel, by decide +kernel⟩, List.mem_of_getElem? (i := 1225) (by decide +kernel), List.mem_of_getElem? (i := 1751) (by decide +kernel), List.mem_of_getElem? (i := 1752) (by decide +kernel)⟩
theorem lw_p103 : lw_okq (⟨"BranchedTextModel", "groups", "()I"⟩, 48) := ⟨⟨by decide +kernel, by decide +kernel⟩, List.mem_of_getElem? (i := 1225) (by decide +kernel), List.mem_of_getElem? (i := 1755) (by decide +kernel), List.mem_of_getElem? (i := 1756) (by decide +kernel)⟩
theorem lw_p104 : lw_okq (⟨"BranchedTextModel", "gone", "()I"⟩, 48) := ⟨⟨by decide +kernel, by decide +kernel⟩, List.mem_of_getElem? (i := 1225) (by decide +kernel), List.mem_of_getElem? (i := 1759) (by decide +kernel), List.mem_of_getElem? (i := 1760) (by decide +kernel)⟩
theorem lw_p105 : lw_okq (⟨"BranchedTextModel", "letterIn", "(I)I"⟩, 48) := ⟨⟨by decide +kernel, by decide +kernel⟩, List.mem_of_getElem? (i := 1225) (by decide +kernel), List.mem_of_getElem? (i := 1767) (by decide +kernel), List.mem_of_getElem? (i := 1768) (by decide +kernel)⟩
theorem lw_p106 : lw_okq (⟨"BranchedTextModel", "cutsOf", "(IIZ)I"⟩, 48) := ⟨⟨by decide +kernel, by decide +kernel⟩, List.mem_of_getElem? (i := 1225) (by decide +kernel), List.mem_of_getElem? (i := 1791) (by decide +kernel), List.mem_of_getElem? (i := 1792) (by decide +kernel)⟩
theorem lw_p107 : lw_okq (⟨"BranchedTextModel", "hand", "()V"⟩, 48) := ⟨⟨by decide +kernel, by decide +kernel⟩, List.mem_of_getElem? (i := 1225) (by decide +kernel), List.mem_of_getElem? (i := 1811) (by decide +kernel), List.mem_of_getElem? (i := 1812) (by decide +kernel)⟩
theorem lw_p108 : lw_okq (⟨"BranchedTextModel", "differ", "(II)I"⟩, 48) := ⟨⟨by decide +kernel, by decide +kernel⟩, List.mem_of_getElem? (i := 1225) (by decide +kernel), List.mem_of_getElem? (i := 1875) (by decide +kernel), List.mem_of_getElem? (i := 1876) (by decide +kernel)⟩
theorem lw_p109 : lw_okq (⟨"BranchedTextModel", "copies", "(I[I)I"⟩, 48) := ⟨⟨by decide +kernel, by decide +kernel⟩, List.mem_of_getElem? (i := 1225) (by decide +kernel), List.mem_of_getElem? (i := 1879) (by decide +kernel), List.mem_of_getElem? (i := 1880) (by decide +kernel)⟩
theorem lw_p110 : lw_okq (⟨"BranchedTextModel", "keptOf", "(II)I"⟩, 48) := ⟨⟨by decide +kernel, by decide +kernel⟩, List.mem_of_getElem? (i := 1225) (by decide +kernel), List.mem_of_getElem? (i := 1883) (by decide +kernel), List.mem_of_getElem? (i := 1884) (by decide +kernel)⟩
theorem lw_p111 : lw_okq (⟨"BranchedTextModel", "keysOf", "(I)I"⟩, 48) := ⟨⟨by decide +kernel, by decide +kernel⟩, List.mem_of_getElem? (i := 1225) (by decide +kernel), List.mem_of_getElem? (i := 1887) (by decide +kernel), List.mem_of_getElem? (i := 1888) (by decide +kernel)⟩
def lw_privs_7 : List (MethodName × Nat) := [(⟨"BranchedTextModel", "isTaken", "(II)Z"⟩, 48), (⟨"BranchedTextModel", "mergeNow", "(I)I"⟩, 48), (⟨"BranchedTextModel", "pruneNow", "(I)I"⟩, 48), (⟨"BranchedTextModel", "firstOut", "()I"⟩, 48), (⟨"BranchedTextModel", "childrenOf", "(I)I"⟩, 48), (⟨"BranchedTextModel", "namesOf", "(I)I"⟩, 48), (⟨"BranchedTextModel", "leaves", "()I"⟩, 48), (⟨"BranchedTextModel", "groups", "()I"⟩, 48), (⟨"BranchedTextModel", "gone", "()I"⟩, 48), (⟨"BranchedTextModel", "letterIn", "(I)I"⟩, 48), (⟨"BranchedTextModel", "cutsOf", "(IIZ)I"⟩, 48), (⟨"BranchedTextModel", "hand", "()V"⟩, 48), (⟨"BranchedTextModel", "differ", "(II)I"⟩, 48), (⟨"BranchedTextModel", "copies", "(I[I)I"⟩, 48), (⟨"BranchedTextModel", "keptOf", "(II)I"⟩, 48), (⟨"BranchedTextModel", "keysOf", "(I)I"⟩, 48)]
theorem lw_r7 : ∀ q ∈ lw_privs_7, lw_okq q := List.forall_mem_cons.mpr ⟨lw_p96, List.forall_mem_cons.mpr ⟨lw_p97, List.forall_mem_cons.mpr ⟨lw_p98, List.forall_mem_cons.mpr ⟨lw_p99, List.forall_mem_cons.mpr ⟨lw_p100, List.forall_mem_cons.mpr ⟨lw_p101, List.forall_mem_cons.mpr ⟨lw_p102, List.forall_mem_cons.mpr ⟨lw_p103, List.forall_mem_cons.mpr ⟨lw_p104, List.forall_mem_cons.mpr ⟨lw_p105, List.forall_mem_cons.mpr ⟨lw_p106, List.forall_mem_cons.mpr ⟨lw_p107, List.forall_mem_cons.mpr ⟨lw_p108, List.forall_mem_cons.mpr ⟨lw_p109, List.forall_mem_cons.mpr ⟨lw_p110, List.forall_mem_cons.mpr ⟨lw_p111, fun _ h => absurd h List.not_mem_nil⟩⟩⟩⟩⟩⟩⟩⟩⟩⟩⟩⟩⟩⟩⟩⟩
theorem lw_p112 : lw_okq (⟨"BranchedTextModel", "tells", "(I)V"⟩, 48) := ⟨⟨by decide +kernel, by decide +kernel⟩, List.mem_of_getElem? (i := 1225) (by decide +kernel), List.mem_of_getElem? (i := 1903) (by decide +kernel), List.mem_of_getElem? (i := 1904) (by decide +kernel)⟩
theorem lw_p113 : lw_okq (⟨"BranchedTextModel", "tellsNumber", "(I)V"⟩, 48) := ⟨⟨by decide +kernel, by decide +kernel⟩, List.mem_of_getElem? (i := 1225) (by decide +kernel), List.mem_of_getElem? (i := 1907) (by decide +kernel), List.mem_of_getElem? (i := 1908) (by decide +kernel)⟩
theorem lw_p114 : lw_okq (⟨"BranchedTextModel", "tellsNames", "()V"⟩, 48) := ⟨⟨by decide +kernel, by decide +kernel⟩, List.mem_of_getElem? (i := 1225) (by decide +kernel), List.mem_of_getElem? (i := 1911) (by decide +kernel), List.mem_of_getElem? (i := 1912) (by decide +kernel)⟩
theorem lw_p115 : lw_okq (⟨"BranchedTextModel", "placeIn", "(I)I"⟩, 48) := ⟨⟨by decide +kernel, by decide +kernel⟩, List.mem_of_getElem? (i := 1225) (by decide +kernel), List.mem_of_getElem? (i := 1927) (by decide +kernel), List.mem_of_getElem? (i := 1928) (by decide +kernel)⟩
def lw_privs_8 : List (MethodName × Nat) := [(⟨"BranchedTextModel", "tells", "(I)V"⟩, 48), (⟨"BranchedTextModel", "tellsNumber", "(I)V"⟩, 48), (⟨"BranchedTextModel", "tellsNames", "()V"⟩, 48), (⟨"BranchedTextModel", "placeIn", "(I)I"⟩, 48)]
theorem lw_r8 : ∀ q ∈ lw_privs_8, lw_okq q := List.forall_mem_cons.mpr ⟨lw_p112, List.forall_mem_cons.mpr ⟨lw_p113, List.forall_mem_cons.mpr ⟨lw_p114, List.forall_mem_cons.mpr ⟨lw_p115, fun _ h => absurd h List.not_mem_nil⟩⟩⟩⟩
def lw_privs : List (MethodName × Nat) := lw_privs_1 ++ (lw_privs_2 ++ (lw_privs_3 ++ (lw_privs_4 ++ (lw_privs_5 ++ (lw_privs_6 ++ (lw_privs_7 ++ (lw_privs_8)))))))
def lw_tbl : List Cond := k2_sels lw_privs ++ tables_1
theorem lw_privs_ok : ∀ q ∈ lw_privs, lw_okq q := by
  show ∀ q ∈ lw_privs_1 ++ (lw_privs_2 ++ (lw_privs_3 ++ (lw_privs_4 ++ (lw_privs_5 ++ (lw_privs_6 ++ (lw_privs_7 ++ (lw_privs_8))))))), lw_okq q
  exact List.forall_mem_append.mpr ⟨lw_r1, List.forall_mem_append.mpr ⟨lw_r2, List.forall_mem_append.mpr ⟨lw_r3, List.forall_mem_append.mpr ⟨lw_r4, List.forall_mem_append.mpr ⟨lw_r5, List.forall_mem_append.mpr ⟨lw_r6, List.forall_mem_append.mpr ⟨lw_r7, lw_r8⟩⟩⟩⟩⟩⟩⟩
-- ===== end of PART A; then your names; then what follows =====
def RX0 : String := "BranchedText$History"
def TX0 : u_T := fun k => match k with
  | 0 => ("BranchedText$History", "start", "LBranchedText$State;", true)
  | 1 => ("BranchedText$History", "states", "[LBranchedText$State;", true)
  | 2 => ("BranchedText$History", "glyphs", "[I", true)
  | 3 => ("BranchedText$History", "stands", "[I", true)
  | 4 => ("BranchedText$History", "lengths", "[I", true)
  | 5 => ("BranchedText$History", "row", "LBranchedText$Row;", true)
  | 6 => ("BranchedText$History", "names", "LBranchedText$Names;", true)
  | 7 => ("BranchedText$History", "visits", "LBranchedText$Visits;", true)
  | 8 => ("BranchedText$History", "join", "LBranchedText$JoinTest;", true)
  | 9 => ("BranchedText$History", "carried", "LBranchedText$Word;", true)
  | 10 => ("BranchedText$History", "here", "LBranchedText$State;", false)
  | 11 => ("BranchedText$History", "now", "I", false)
  | 12 => ("BranchedText$History", "count", "I", false)
  | _ => ("BranchedText$History", "leftOut", "I", false)
def tyX0 : Nat → FieldType := fun k => match k with
  | 0 => .object "BranchedText$State"
  | 1 => .array (.object "BranchedText$State")
  | 2 => .array .int
  | 3 => .array .int
  | 4 => .array .int
  | 5 => .object "BranchedText$Row"
  | 6 => .object "BranchedText$Names"
  | 7 => .object "BranchedText$Visits"
  | 8 => .object "BranchedText$JoinTest"
  | 9 => .object "BranchedText$Word"
  | 10 => .object "BranchedText$State"
  | 11 => .int
  | 12 => .int
  | _ => .int
abbrev wsX00 : List Cond := u_ws RX0 TX0 14
def RX1 : String := "BranchedText$JoinTest"
def TX1 : u_T := fun k => match k with
  | 0 => ("BranchedText$JoinTest", "steps", "[I", true)
  | 1 => ("BranchedText$JoinTest", "numbers", "[I", true)
  | 2 => ("BranchedText$JoinTest", "values", "[I", true)
  | _ => ("BranchedText$JoinTest", "size", "I", false)
def tyX1 : Nat → FieldType := fun k => match k with
  | 0 => .array .int
  | 1 => .array .int
  | 2 => .array .int
  | _ => .int
abbrev wsX10 : List Cond := u_ws RX1 TX1 4
def RX2 : String := "BranchedText$Names"
def TX2 : u_T := fun k => match k with
  | 0 => ("BranchedText$Names", "keys", "[I", true)
  | 1 => ("BranchedText$Names", "owners", "[I", true)
  | _ => ("BranchedText$Names", "size", "I", false)
def tyX2 : Nat → FieldType := fun k => match k with
  | 0 => .array .int
  | 1 => .array .int
  | _ => .int
abbrev wsX20 : List Cond := u_ws RX2 TX2 3
def RX3 : String := "BranchedText$Reader"
def TX3 : u_T := fun k => match k with
  | 0 => ("BranchedText$Reader", "tape", "[I", true)
  | 1 => ("BranchedText$Reader", "word", "LBranchedText$Word;", true)
  | 2 => ("BranchedText$Reader", "tapeSize", "I", false)
  | 3 => ("BranchedText$Reader", "length", "I", false)
  | 4 => ("BranchedText$Reader", "kind", "I", false)
  | 5 => ("BranchedText$Reader", "from", "I", false)
  | 6 => ("BranchedText$Reader", "end", "I", false)
  | 7 => ("BranchedText$Reader", "value", "I", false)
  | 8 => ("BranchedText$Reader", "fault", "I", false)
  | 9 => ("BranchedText$Reader", "faultPlace", "I", false)
  | 10 => ("BranchedText$Reader", "verb", "I", false)
  | 11 => ("BranchedText$Reader", "one", "I", false)
  | _ => ("BranchedText$Reader", "two", "I", false)
def tyX3 : Nat → FieldType := fun k => match k with
  | 0 => .array .int
  | 1 => .object "BranchedText$Word"
  | 2 => .int
  | 3 => .int
  | 4 => .int
  | 5 => .int
  | 6 => .int
  | 7 => .int
  | 8 => .int
  | 9 => .int
  | 10 => .int
  | 11 => .int
  | _ => .int
abbrev wsX30 : List Cond := u_ws RX3 TX3 13
def RX4 : String := "BranchedText$Row"
def TX4 : u_T := fun k => match k with
  | 0 => ("BranchedText$Row", "path", "[LBranchedText$State;", true)
  | 1 => ("BranchedText$Row", "ids", "[I", true)
  | 2 => ("BranchedText$Row", "sees", "[Z", true)
  | 3 => ("BranchedText$Row", "gone", "[Z", true)
  | 4 => ("BranchedText$Row", "next", "[I", true)
  | 5 => ("BranchedText$Row", "length", "I", false)
  | 6 => ("BranchedText$Row", "size", "I", false)
  | 7 => ("BranchedText$Row", "seen", "I", false)
  | 8 => ("BranchedText$Row", "acts", "J", false)
  | _ => ("BranchedText$Row", "force", "J", false)
def tyX4 : Nat → FieldType := fun k => match k with
  | 0 => .array (.object "BranchedText$State")
  | 1 => .array .int
  | 2 => .array .boolean
  | 3 => .array .boolean
  | 4 => .array .int
  | 5 => .int
  | 6 => .int
  | 7 => .int
  | 8 => .long
  | _ => .long
abbrev wsX40 : List Cond := u_ws RX4 TX4 10
def RX5 : String := "BranchedText$State"
def TX5 : u_T := fun k => match k with
  | 0 => ("BranchedText$State", "number", "I", true)
  | 1 => ("BranchedText$State", "took", "[I", true)
  | 2 => ("BranchedText$State", "document", "[I", true)
  | 3 => ("BranchedText$State", "there", "Z", false)
  | 4 => ("BranchedText$State", "parent", "LBranchedText$State;", false)
  | 5 => ("BranchedText$State", "first", "LBranchedText$State;", false)
  | 6 => ("BranchedText$State", "act", "I", false)
  | 7 => ("BranchedText$State", "time", "I", false)
  | 8 => ("BranchedText$State", "place", "I", false)
  | 9 => ("BranchedText$State", "size", "I", false)
  | 10 => ("BranchedText$State", "depth", "I", false)
  | 11 => ("BranchedText$State", "children", "I", false)
  | 12 => ("BranchedText$State", "letters", "I", false)
  | 13 => ("BranchedText$State", "visited", "I", false)
  | 14 => ("BranchedText$State", "newest", "I", false)
  | 15 => ("BranchedText$State", "anchor", "I", false)
  | 16 => ("BranchedText$State", "named", "J", false)
  | _ => ("BranchedText$State", "base", "J", false)
def tyX5 : Nat → FieldType := fun k => match k with
  | 0 => .int
  | 1 => .array .int
  | 2 => .array .int
  | 3 => .boolean
  | 4 => .object "BranchedText$State"
  | 5 => .object "BranchedText$State"
  | 6 => .int
  | 7 => .int
  | 8 => .int
  | 9 => .int
  | 10 => .int
  | 11 => .int
  | 12 => .int
  | 13 => .int
  | 14 => .int
  | 15 => .int
  | 16 => .long
  | _ => .long
abbrev wsX50 : List Cond := u_ws RX5 TX5 18
def RX6 : String := "BranchedText$Visits"
def TX6 : u_T := fun k => match k with
  | 0 => ("BranchedText$Visits", "states", "[I", true)
  | 1 => ("BranchedText$Visits", "times", "[I", true)
  | 2 => ("BranchedText$Visits", "keptStates", "[I", true)
  | 3 => ("BranchedText$Visits", "keptTimes", "[I", true)
  | 4 => ("BranchedText$Visits", "count", "I", false)
  | _ => ("BranchedText$Visits", "keptCount", "I", false)
def tyX6 : Nat → FieldType := fun k => match k with
  | 0 => .array .int
  | 1 => .array .int
  | 2 => .array .int
  | 3 => .array .int
  | 4 => .int
  | _ => .int
abbrev wsX60 : List Cond := u_ws RX6 TX6 6
def RX7 : String := "BranchedText$Word"
def TX7 : u_T := fun k => match k with
  | 0 => ("BranchedText$Word", "letters", "[I", true)
  | _ => ("BranchedText$Word", "size", "I", false)
def tyX7 : Nat → FieldType := fun k => match k with
  | 0 => .array .int
  | _ => .int
abbrev wsX70 : List Cond := u_ws RX7 TX7 2
def RX8 : String := "BranchedText"
def TX8 : u_T := fun k => match k with
  | 0 => ("BranchedText", "told", "[I", true)
  | 1 => ("BranchedText", "typed", "LBranchedText$Word;", true)
  | 2 => ("BranchedText", "reader", "LBranchedText$Reader;", true)
  | 3 => ("BranchedText", "history", "LBranchedText$History;", false)
  | 4 => ("BranchedText", "spare", "LBranchedText$History;", false)
  | 5 => ("BranchedText", "toldSize", "I", false)
  | 6 => ("BranchedText", "status", "I", false)
  | _ => ("BranchedText", "loaded", "Z", false)
def tyX8 : Nat → FieldType := fun k => match k with
  | 0 => .array .int
  | 1 => .object "BranchedText$Word"
  | 2 => .object "BranchedText$Reader"
  | 3 => .object "BranchedText$History"
  | 4 => .object "BranchedText$History"
  | 5 => .int
  | 6 => .int
  | _ => .boolean
abbrev wsX80 : List Cond := u_ws RX8 TX8 8
def RX9 : String := "BranchedTextModel"
def TX9 : u_T := fun k => match k with
  | 0 => ("BranchedTextModel", "c", "[I", true)
  | 1 => ("BranchedTextModel", "whole", "[I", true)
  | 2 => ("BranchedTextModel", "paper", "[I", true)
  | 3 => ("BranchedTextModel", "status", "I", false)
  | 4 => ("BranchedTextModel", "thrown", "I", false)
  | 5 => ("BranchedTextModel", "line", "[I", true)
  | 6 => ("BranchedTextModel", "rowBy", "[I", true)
  | 7 => ("BranchedTextModel", "rowAt", "[I", true)
  | 8 => ("BranchedTextModel", "force", "[Z", true)
  | 9 => ("BranchedTextModel", "seen", "[Z", true)
  | 10 => ("BranchedTextModel", "lineMany", "I", false)
  | 11 => ("BranchedTextModel", "rowMany", "I", false)
  | 12 => ("BranchedTextModel", "seenMany", "I", false)
  | 13 => ("BranchedTextModel", "doc", "[I", true)
  | 14 => ("BranchedTextModel", "other", "[I", true)
  | 15 => ("BranchedTextModel", "facts", "[I", true)
  | 16 => ("BranchedTextModel", "stack", "[Z", true)
  | 17 => ("BranchedTextModel", "word", "[I", true)
  | 18 => ("BranchedTextModel", "typed", "[I", true)
  | 19 => ("BranchedTextModel", "wordMany", "I", false)
  | 20 => ("BranchedTextModel", "typedMany", "I", false)
  | 21 => ("BranchedTextModel", "standsFor", "[I", true)
  | 22 => ("BranchedTextModel", "merged", "[I", true)
  | 23 => ("BranchedTextModel", "inForce", "[Z", true)
  | 24 => ("BranchedTextModel", "leftOut", "I", false)
  | 25 => ("BranchedTextModel", "marked", "[Z", true)
  | 26 => ("BranchedTextModel", "tape", "[B", true)
  | 27 => ("BranchedTextModel", "taped", "I", false)
  | 28 => ("BranchedTextModel", "faultKind", "I", false)
  | 29 => ("BranchedTextModel", "faultAt", "I", false)
  | 30 => ("BranchedTextModel", "wrong", "I", false)
  | 31 => ("BranchedTextModel", "wrongAt", "I", false)
  | 32 => ("BranchedTextModel", "at", "I", false)
  | 33 => ("BranchedTextModel", "next", "I", false)
  | 34 => ("BranchedTextModel", "sort", "I", false)
  | 35 => ("BranchedTextModel", "number", "I", false)
  | 36 => ("BranchedTextModel", "end", "I", false)
  | 37 => ("BranchedTextModel", "deep", "I", false)
  | 38 => ("BranchedTextModel", "key", "J", false)
  | 39 => ("BranchedTextModel", "lines", "[J", true)
  | 40 => ("BranchedTextModel", "others", "[J", true)
  | 41 => ("BranchedTextModel", "values", "[J", true)
  | 42 => ("BranchedTextModel", "first", "I", false)
  | 43 => ("BranchedTextModel", "second", "I", false)
  | 44 => ("BranchedTextModel", "keys", "[I", true)
  | 45 => ("BranchedTextModel", "common", "[I", true)
  | 46 => ("BranchedTextModel", "out", "[I", true)
  | _ => ("BranchedTextModel", "outMany", "I", false)
def tyX9 : Nat → FieldType := fun k => match k with
  | 0 => .array .int
  | 1 => .array .int
  | 2 => .array .int
  | 3 => .int
  | 4 => .int
  | 5 => .array .int
  | 6 => .array .int
  | 7 => .array .int
  | 8 => .array .boolean
  | 9 => .array .boolean
  | 10 => .int
  | 11 => .int
  | 12 => .int
  | 13 => .array .int
  | 14 => .array .int
  | 15 => .array .int
  | 16 => .array .boolean
  | 17 => .array .int
  | 18 => .array .int
  | 19 => .int
  | 20 => .int
  | 21 => .array .int
  | 22 => .array .int
  | 23 => .array .boolean
  | 24 => .int
  | 25 => .array .boolean
  | 26 => .array .byte
  | 27 => .int
  | 28 => .int
  | 29 => .int
  | 30 => .int
  | 31 => .int
  | 32 => .int
  | 33 => .int
  | 34 => .int
  | 35 => .int
  | 36 => .int
  | 37 => .int
  | 38 => .long
  | 39 => .array .long
  | 40 => .array .long
  | 41 => .array .long
  | 42 => .int
  | 43 => .int
  | 44 => .array .int
  | 45 => .array .int
  | 46 => .array .int
  | _ => .int
abbrev wsX90 : List Cond := u_ws RX9 TX9 48
abbrev vwCl : List vw_C := [(RX0, TX0, 14), (RX1, TX1, 4), (RX2, TX2, 3), (RX3, TX3, 13), (RX4, TX4, 10), (RX5, TX5, 18), (RX6, TX6, 6), (RX7, TX7, 2), (RX8, TX8, 8), (RX9, TX9, 48)]
theorem nmX0 : ∀ a, a < 14 → ∀ b, b < 14 → a ≠ b → (TX0 a).2.1 ≠ (TX0 b).2.1 := by decide +kernel
theorem tyX0_ok : ∀ k, k < 14 → parseFieldDescriptor (TX0 k).2.2.1 = some (tyX0 k) := by decide +kernel
theorem tpX0 : wsX00 = [363, 365, 367, 369, 371, 373, 375, 377, 379, 381, 383, 385, 387, 389].filterMap (fun i => tables_1[i]?) := by decide +kernel
theorem inX0 : ∀ w ∈ wsX00, w ∈ lw_tbl := by
  intro w hw
  rw [tpX0] at hw
  obtain ⟨i, -, hi⟩ := List.mem_filterMap.mp hw
  exact List.mem_append_right _ (List.mem_of_getElem? hi)
theorem nmX1 : ∀ a, a < 4 → ∀ b, b < 4 → a ≠ b → (TX1 a).2.1 ≠ (TX1 b).2.1 := by decide +kernel
theorem tyX1_ok : ∀ k, k < 4 → parseFieldDescriptor (TX1 k).2.2.1 = some (tyX1 k) := by decide +kernel
theorem tpX1 : wsX10 = [307, 309, 311, 313].filterMap (fun i => tables_1[i]?) := by decide +kernel
theorem inX1 : ∀ w ∈ wsX10, w ∈ lw_tbl := by
  intro w hw
  rw [tpX1] at hw
  obtain ⟨i, -, hi⟩ := List.mem_filterMap.mp hw
  exact List.mem_append_right _ (List.mem_of_getElem? hi)
theorem nmX2 : ∀ a, a < 3 → ∀ b, b < 3 → a ≠ b → (TX2 a).2.1 ≠ (TX2 b).2.1 := by decide +kernel
theorem tyX2_ok : ∀ k, k < 3 → parseFieldDescriptor (TX2 k).2.2.1 = some (tyX2 k) := by decide +kernel
theorem tpX2 : wsX20 = [263, 265, 267].filterMap (fun i => tables_1[i]?) := by decide +kernel
theorem inX2 : ∀ w ∈ wsX20, w ∈ lw_tbl := by
  intro w hw
  rw [tpX2] at hw
  obtain ⟨i, -, hi⟩ := List.mem_filterMap.mp hw
  exact List.mem_append_right _ (List.mem_of_getElem? hi)
theorem nmX3 : ∀ a, a < 13 → ∀ b, b < 13 → a ≠ b → (TX3 a).2.1 ≠ (TX3 b).2.1 := by decide +kernel
theorem tyX3_ok : ∀ k, k < 13 → parseFieldDescriptor (TX3 k).2.2.1 = some (tyX3 k) := by decide +kernel
theorem tpX3 : wsX30 = [71, 73, 75, 77, 79, 81, 83, 85, 87, 89, 91, 93, 95].filterMap (fun i => tables_1[i]?) := by decide +kernel
theorem inX3 : ∀ w ∈ wsX30, w ∈ lw_tbl := by
  intro w hw
  rw [tpX3] at hw
  obtain ⟨i, -, hi⟩ := List.mem_filterMap.mp hw
  exact List.mem_append_right _ (List.mem_of_getElem? hi)
theorem nmX4 : ∀ a, a < 10 → ∀ b, b < 10 → a ≠ b → (TX4 a).2.1 ≠ (TX4 b).2.1 := by decide +kernel
theorem tyX4_ok : ∀ k, k < 10 → parseFieldDescriptor (TX4 k).2.2.1 = some (tyX4 k) := by decide +kernel
theorem tpX4 : wsX40 = [230, 232, 234, 236, 238, 240, 242, 244, 246, 248].filterMap (fun i => tables_1[i]?) := by decide +kernel
theorem inX4 : ∀ w ∈ wsX40, w ∈ lw_tbl := by
  intro w hw
  rw [tpX4] at hw
  obtain ⟨i, -, hi⟩ := List.mem_filterMap.mp hw
  exact List.mem_append_right _ (List.mem_of_getElem? hi)
theorem nmX5 : ∀ a, a < 18 → ∀ b, b < 18 → a ≠ b → (TX5 a).2.1 ≠ (TX5 b).2.1 := by decide +kernel
theorem tyX5_ok : ∀ k, k < 18 → parseFieldDescriptor (TX5 k).2.2.1 = some (tyX5 k) := by decide +kernel
theorem tpX5 : wsX50 = [166, 168, 170, 172, 174, 176, 178, 180, 182, 184, 186, 188, 190, 192, 194, 196, 198, 200].filterMap (fun i => tables_1[i]?) := by decide +kernel
theorem inX5 : ∀ w ∈ wsX50, w ∈ lw_tbl := by
  intro w hw
  rw [tpX5] at hw
  obtain ⟨i, -, hi⟩ := List.mem_filterMap.mp hw
  exact List.mem_append_right _ (List.mem_of_getElem? hi)
theorem nmX6 : ∀ a, a < 6 → ∀ b, b < 6 → a ≠ b → (TX6 a).2.1 ≠ (TX6 b).2.1 := by decide +kernel
theorem tyX6_ok : ∀ k, k < 6 → parseFieldDescriptor (TX6 k).2.2.1 = some (tyX6 k) := by decide +kernel
theorem tpX6 : wsX60 = [284, 286, 288, 290, 292, 294].filterMap (fun i => tables_1[i]?) := by decide +kernel
theorem inX6 : ∀ w ∈ wsX60, w ∈ lw_tbl := by
  intro w hw
  rw [tpX6] at hw
  obtain ⟨i, -, hi⟩ := List.mem_filterMap.mp hw
  exact List.mem_append_right _ (List.mem_of_getElem? hi)
theorem nmX7 : ∀ a, a < 2 → ∀ b, b < 2 → a ≠ b → (TX7 a).2.1 ≠ (TX7 b).2.1 := by decide +kernel
theorem tyX7_ok : ∀ k, k < 2 → parseFieldDescriptor (TX7 k).2.2.1 = some (tyX7 k) := by decide +kernel
theorem tpX7 : wsX70 = [37, 39].filterMap (fun i => tables_1[i]?) := by decide +kernel
theorem inX7 : ∀ w ∈ wsX70, w ∈ lw_tbl := by
  intro w hw
  rw [tpX7] at hw
  obtain ⟨i, -, hi⟩ := List.mem_filterMap.mp hw
  exact List.mem_append_right _ (List.mem_of_getElem? hi)
theorem nmX8 : ∀ a, a < 8 → ∀ b, b < 8 → a ≠ b → (TX8 a).2.1 ≠ (TX8 b).2.1 := by decide +kernel
theorem tyX8_ok : ∀ k, k < 8 → parseFieldDescriptor (TX8 k).2.2.1 = some (tyX8 k) := by decide +kernel
theorem tpX8 : wsX80 = [400, 402, 404, 406, 408, 410, 412, 414].filterMap (fun i => tables_1[i]?) := by decide +kernel
theorem inX8 : ∀ w ∈ wsX80, w ∈ lw_tbl := by
  intro w hw
  rw [tpX8] at hw
  obtain ⟨i, -, hi⟩ := List.mem_filterMap.mp hw
  exact List.mem_append_right _ (List.mem_of_getElem? hi)
theorem nmX9 : ∀ a, a < 48 → ∀ b, b < 48 → a ≠ b → (TX9 a).2.1 ≠ (TX9 b).2.1 := by decide +kernel
theorem tyX9_ok : ∀ k, k < 48 → parseFieldDescriptor (TX9 k).2.2.1 = some (tyX9 k) := by decide +kernel
theorem tpX9 : wsX90 = [1309, 1311, 1313, 1315, 1317, 1319, 1321, 1323, 1325, 1327, 1329, 1331, 1333, 1335, 1337, 1339, 1341, 1343, 1345, 1347, 1349, 1351, 1353, 1355, 1357, 1359, 1361, 1363, 1365, 1367, 1369, 1371, 1373, 1375, 1377, 1379, 1381, 1383, 1385, 1387, 1389, 1391, 1393, 1395, 1397, 1399, 1401, 1403].filterMap (fun i => tables_1[i]?) := by decide +kernel
theorem inX9 : ∀ w ∈ wsX90, w ∈ lw_tbl := by
  intro w hw
  rw [tpX9] at hw
  obtain ⟨i, -, hi⟩ := List.mem_filterMap.mp hw
  exact List.mem_append_right _ (List.mem_of_getElem? hi)
end
section
/-! the fields' kinds (0 int, 1 boolean, 2 long, 3 reference), class by class; the cells that the law makes, in order (0 none, 1 an object of a class, 2 ints, 3 booleans, 4 bytes, 5 longs, 6 States) -/
def zv_fts : List (List Nat) := [[3, 3, 3, 3, 3, 3, 3, 3, 3, 3, 3, 0, 0, 0], [3, 3, 3, 0], [3, 3, 0], [3, 3, 0, 0, 0, 0, 0, 0, 0, 0, 0, 0, 0], [3, 3, 3, 3, 3, 0, 0, 0, 2, 2], [0, 3, 3, 1, 3, 3, 0, 0, 0, 0, 0, 0, 0, 0, 0, 0, 2, 2], [3, 3, 3, 3, 0, 0], [3, 0], [3, 3, 3, 3, 3, 0, 0, 1], [3, 3, 3, 0, 0, 3, 3, 3, 3, 3, 0, 0, 0, 3, 3, 3, 3, 3, 3, 0, 0, 3, 3, 3, 0, 3, 3, 0, 0, 0, 0, 0, 0, 0, 0, 0, 0, 0, 2, 3, 3, 3, 0, 0, 3, 3, 3, 0]]
def zv_layL : List (Nat × Nat) := [(0, 0), (1, 8), (2, 160), (1, 7), (2, 40), (1, 3), (2, 700), (1, 7), (2, 40), (1, 0), (1, 5), (2, 12), (2, 120), (6, 48), (2, 604), (2, 48), (2, 121), (1, 4), (6, 48), (2, 604), (3, 604), (3, 604), (2, 605), (1, 2), (2, 12), (2, 12), (1, 6), (2, 40), (2, 40), (2, 40), (2, 40), (1, 1), (2, 176), (2, 176), (2, 6), (1, 7), (2, 40), (1, 5), (2, 12), (2, 120), (1, 5), (2, 12), (2, 120), (1, 5), (2, 12), (2, 120), (1, 5), (2, 12), (2, 120), (1, 5), (2, 12), (2, 120), (1, 5), (2, 12), (2, 120), (1, 5), (2, 12), (2, 120), (1, 5), (2, 12), (2, 120), (1, 5), (2, 12), (2, 120), (1, 5), (2, 12), (2, 120), (1, 5), (2, 12), (2, 120), (1, 5), (2, 12), (2, 120), (1, 5), (2, 12), (2, 120), (1, 5), (2, 12), (2, 120), (1, 5), (2, 12), (2, 120), (1, 5), (2, 12), (2, 120), (1, 5), (2, 12), (2, 120), (1, 5), (2, 12), (2, 120), (1, 5), (2, 12), (2, 120), (1, 5), (2, 12), (2, 120), (1, 5), (2, 12), (2, 120), (1, 5), (2, 12), (2, 120), (1, 5), (2, 12), (2, 120), (1, 5), (2, 12), (2, 120), (1, 5), (2, 12), (2, 120), (1, 5), (2, 12), (2, 120), (1, 5), (2, 12), (2, 120), (1, 5), (2, 12), (2, 120), (1, 5), (2, 12), (2, 120), (1, 5), (2, 12), (2, 120), (1, 5), (2, 12), (2, 120), (1, 5), (2, 12), (2, 120), (1, 5), (2, 12), (2, 120), (1, 5), (2, 12), (2, 120), (1, 5), (2, 12), (2, 120), (1, 5), (2, 12), (2, 120), (1, 5), (2, 12), (2, 120), (1, 5), (2, 12), (2, 120), (1, 5), (2, 12), (2, 120), (1, 5), (2, 12), (2, 120), (1, 5), (2, 12), (2, 120), (1, 5), (2, 12), (2, 120), (1, 5), (2, 12), (2, 120), (1, 5), (2, 12), (2, 120), (1, 5), (2, 12), (2, 120), (1, 5), (2, 12), (2, 120), (1, 5), (2, 12), (2, 120), (1, 0), (1, 5), (2, 12), (2, 120), (6, 48), (2, 604), (2, 48), (2, 121), (1, 4), (6, 48), (2, 604), (3, 604), (3, 604), (2, 605), (1, 2), (2, 12), (2, 12), (1, 6), (2, 40), (2, 40), (2, 40), (2, 40), (1, 1), (2, 176), (2, 176), (2, 6), (1, 7), (2, 40), (1, 5), (2, 12), (2, 120), (1, 5), (2, 12), (2, 120), (1, 5), (2, 12), (2, 120), (1, 5), (2, 12), (2, 120), (1, 5), (2, 12), (2, 120), (1, 5), (2, 12), (2, 120), (1, 5), (2, 12), (2, 120), (1, 5), (2, 12), (2, 120), (1, 5), (2, 12), (2, 120), (1, 5), (2, 12), (2, 120), (1, 5), (2, 12), (2, 120), (1, 5), (2, 12), (2, 120), (1, 5), (2, 12), (2, 120), (1, 5), (2, 12), (2, 120), (1, 5), (2, 12), (2, 120), (1, 5), (2, 12), (2, 120), (1, 5), (2, 12), (2, 120), (1, 5), (2, 12), (2, 120), (1, 5), (2, 12), (2, 120), (1, 5), (2, 12), (2, 120), (1, 5), (2, 12), (2, 120), (1, 5), (2, 12), (2, 120), (1, 5), (2, 12), (2, 120), (1, 5), (2, 12), (2, 120), (1, 5), (2, 12), (2, 120), (1, 5), (2, 12), (2, 120), (1, 5), (2, 12), (2, 120), (1, 5), (2, 12), (2, 120), (1, 5), (2, 12), (2, 120), (1, 5), (2, 12), (2, 120), (1, 5), (2, 12), (2, 120), (1, 5), (2, 12), (2, 120), (1, 5), (2, 12), (2, 120), (1, 5), (2, 12), (2, 120), (1, 5), (2, 12), (2, 120), (1, 5), (2, 12), (2, 120), (1, 5), (2, 12), (2, 120), (1, 5), (2, 12), (2, 120), (1, 5), (2, 12), (2, 120), (1, 5), (2, 12), (2, 120), (1, 5), (2, 12), (2, 120), (1, 5), (2, 12), (2, 120), (1, 5), (2, 12), (2, 120), (1, 5), (2, 12), (2, 120), (1, 5), (2, 12), (2, 120), (1, 5), (2, 12), (2, 120), (1, 5), (2, 12), (2, 120), (1, 9), (2, 4236), (2, 4236), (2, 4236), (2, 49), (2, 640), (2, 640), (3, 49), (3, 640), (2, 640), (2, 640), (2, 6), (3, 400), (2, 700), (2, 12), (2, 48), (2, 49), (3, 49), (3, 49), (4, 700), (5, 12), (5, 5), (5, 6), (2, 640), (2, 14641), (2, 200)]
def zv_lay (r : Nat) : Nat × Nat := zv_layL.getD r (0, 0)
end
section
/-! A small machine: ints as Int (kept within 32 bits), longs as Int64, references as numbers (0 null, r the r-th cell made since the law began, from 1000000 on: what stood there before). -/
abbrev zv_V : Type := Int ⊕ (Int64 ⊕ Nat)
abbrev zv_i (x : Int) : zv_V := Sum.inl x
abbrev zv_j (x : Int64) : zv_V := Sum.inr (Sum.inl x)
abbrev zv_r (x : Nat) : zv_V := Sum.inr (Sum.inr x)
/-- cells made, slots made; ints, longs, references by cell and place; the script's length and contents -/
abbrev zv_H : Type := (Nat × Nat) × ((Nat → Nat → Int) × ((Nat → Nat → Int64) × ((Nat → Nat → Nat) × (Nat × (Nat → Int)))))
def zv_n (h : zv_H) : Nat := h.1.1
def zv_s (h : zv_H) : Nat := h.1.2
def zv_I (h : zv_H) (r k : Nat) : Int := h.2.1 r k
def zv_J (h : zv_H) (r k : Nat) : Int64 := h.2.2.1 r k
def zv_R (h : zv_H) (r k : Nat) : Nat := h.2.2.2.1 r k
def zv_L (h : zv_H) : Nat := h.2.2.2.2.1
def zv_X (h : zv_H) (k : Nat) : Int := h.2.2.2.2.2 k
def zv_up {α : Type} (f : Nat → Nat → α) (r k : Nat) (v : α) : Nat → Nat → α := fun a b => if a = r ∧ b = k then v else f a b
def zv_cl {α : Type} (f : Nat → Nat → α) (r : Nat) (v : α) : Nat → Nat → α := fun a b => if a = r then v else f a b
def zv_sI (h : zv_H) (r k : Nat) (v : Int) : zv_H := (h.1, (zv_up h.2.1 r k v, h.2.2))
def zv_sJ (h : zv_H) (r k : Nat) (v : Int64) : zv_H := (h.1, (h.2.1, (zv_up h.2.2.1 r k v, h.2.2.2)))
def zv_sR (h : zv_H) (r k : Nat) (v : Nat) : zv_H := (h.1, (h.2.1, (h.2.2.1, (zv_up h.2.2.2.1 r k v, h.2.2.2.2))))
/-- a new cell of so many slots, all 0 -/
def zv_mk (h : zv_H) (w : Nat) : zv_H := ((h.1.1 + 1, h.1.2 + w), (zv_cl h.2.1 (h.1.1 + 1) 0, (zv_cl h.2.2.1 (h.1.1 + 1) 0, (zv_cl h.2.2.2.1 (h.1.1 + 1) 0, h.2.2.2.2))))
def zv_cp (h : zv_H) (s sp d dp n : Nat) : zv_H := (h.1, ((fun a b => if a = d ∧ dp ≤ b ∧ b < dp + n then h.2.1 s (sp + (b - dp)) else h.2.1 a b), h.2.2))
/-- 32 bits -/
def zv_w (x : Int) : Int := (x + 2147483648) % 4294967296 - 2147483648
def zv_rg (x : Int) : Prop := -2147483648 ≤ x ∧ x < 2147483648
def zv_and (x y : Int) : Int := (Int32.ofInt x &&& Int32.ofInt y).toInt
def zv_or (x y : Int) : Int := (Int32.ofInt x ||| Int32.ofInt y).toInt
def zv_shl (x y : Int) : Int := (Int32.ofInt x <<< (Int32.ofInt y &&& 31)).toInt
def zv_shr (x y : Int) : Int := (Int32.ofInt x >>> (Int32.ofInt y &&& 31)).toInt
def zv_ushr (x y : Int) : Int := ((Int32.ofInt x).toUInt32 >>> ((Int32.ofInt y).toUInt32 &&& Int32.toUInt32 31)).toInt32.toInt
def zv_i2b (x : Int) : Int := (Int32.ofInt x).toInt8.toInt32.toInt
def zv_i2c (x : Int) : Int := ((Int32.ofInt x).toUInt32 % 65536).toInt32.toInt
def zv_i2l (x : Int) : Int64 := (Int32.ofInt x).toInt64
def zv_l2i (x : Int64) : Int := x.toInt32.toInt
def zv_lshl (x : Int64) (y : Int) : Int64 := x <<< ((Int32.ofInt y).toInt64 &&& 63)
def zv_lushr (x : Int64) (y : Int) : Int64 := (x.toUInt64 >>> ((Int32.ofInt y).toInt64.toUInt64 &&& Int64.toUInt64 63)).toInt64
def zv_lcmp (x y : Int64) : Int := if x = y then 0 else if y < x then 1 else -1
def zv_nz (x : Int) : Int := x % 2
/-! locals -/
abbrev zv_Ls : Type := List (Option zv_V)
def zv_ld : zv_Ls → Nat → Option zv_V
  | [], _ => none
  | a :: _, 0 => a
  | _ :: l, n + 1 => zv_ld l n
def zv_st : zv_Ls → Nat → Option zv_V → zv_Ls
  | [], _, _ => []
  | _ :: l, 0, v => v :: l
  | a :: l, n + 1, v => a :: zv_st l n v
def zv_two (v : Option zv_V) : Bool := match v with
  | some (Sum.inr (Sum.inl _)) => true
  | _ => false
/-- the first half of a long, of which the second is overwritten, goes -/
def zv_cr (l : zv_Ls) (n : Nat) : zv_Ls := match n with
  | 0 => l
  | k + 1 => if zv_two (zv_ld l k) then zv_st l k none else l
def zv_s1 (l : zv_Ls) (n : Nat) (v : zv_V) : zv_Ls := zv_st (zv_cr l n) n (some v)
def zv_s2 (l : zv_Ls) (n : Nat) (v : Int64) : zv_Ls := zv_st (zv_st (zv_cr l n) n (some (zv_j v))) (n + 1) none
def zv_msk : List Bool → zv_Ls → zv_Ls
  | true :: b, a :: l => a :: zv_msk b l
  | false :: b, _ :: l => none :: zv_msk b l
  | [], l => l
  | _, [] => []
/-! the length of an instruction (not of a switch) -/
def zv_len : Instr → Nat
  | .bipush _ | .iload _ | .lload _ | .aload _ | .istore _ | .lstore _ | .astore _ | .ldc _ | .newarray _ => 2
  | .sipush _ | .iinc _ _ | .ifCond _ _ | .if_icmp _ _ | .if_acmp _ _ | .ifnull _ | .ifnonnull _ | .goto _ | .getfield _ | .putfield _ | .invokevirtual _ | .invokespecial _ | .invokestatic _ | .new _ | .anewarray _ | .ldc_w _ | .ldc2_w _ => 3
  | _ => 1
/-! what an instruction does to locals and stack alone -/
def zv_op (i : Instr) (ls : zv_Ls) (st : List zv_V) : Option (zv_Ls × List zv_V) := match i, st with
  | .iconst n, st => if -1 ≤ n ∧ n ≤ 5 then some (ls, zv_i n :: st) else none
  | .bipush n, st => if -128 ≤ n ∧ n ≤ 127 then some (ls, zv_i n :: st) else none
  | .sipush n, st => if -32768 ≤ n ∧ n ≤ 32767 then some (ls, zv_i n :: st) else none
  | .lconst n, st => some (ls, zv_j (Int64.ofNat n.val) :: st)
  | .aconst_null, st => some (ls, zv_r 0 :: st)
  | .iload_n k, st => match zv_ld ls k.val with
    | some (Sum.inl x) => some (ls, zv_i x :: st)
    | _ => none
  | .iload k, st => match zv_ld ls k with
    | some (Sum.inl x) => some (ls, zv_i x :: st)
    | _ => none
  | .lload_n k, st => match zv_ld ls k.val with
    | some (Sum.inr (Sum.inl x)) => some (ls, zv_j x :: st)
    | _ => none
  | .lload k, st => match zv_ld ls k with
    | some (Sum.inr (Sum.inl x)) => some (ls, zv_j x :: st)
    | _ => none
  | .aload_n k, st => match zv_ld ls k.val with
    | some (Sum.inr (Sum.inr x)) => some (ls, zv_r x :: st)
    | _ => none
  | .aload k, st => match zv_ld ls k with
    | some (Sum.inr (Sum.inr x)) => some (ls, zv_r x :: st)
    | _ => none
  | .istore_n k, Sum.inl x :: st => if k.val < ls.length then some (zv_s1 ls k.val (zv_i x), st) else none
  | .istore k, Sum.inl x :: st => if k < ls.length then some (zv_s1 ls k (zv_i x), st) else none
  | .lstore_n k, Sum.inr (Sum.inl x) :: st => if k.val + 1 < ls.length then some (zv_s2 ls k.val x, st) else none
  | .lstore k, Sum.inr (Sum.inl x) :: st => if k + 1 < ls.length then some (zv_s2 ls k x, st) else none
  | .astore_n k, Sum.inr (Sum.inr x) :: st => if k.val < ls.length then some (zv_s1 ls k.val (zv_r x), st) else none
  | .astore k, Sum.inr (Sum.inr x) :: st => if k < ls.length then some (zv_s1 ls k (zv_r x), st) else none
  | .iinc k n, st => match zv_ld ls k with
    | some (Sum.inl x) => if k < ls.length then some (zv_s1 ls k (zv_i (zv_w (x + n))), st) else none
    | _ => none
  | .iadd, Sum.inl y :: Sum.inl x :: st => some (ls, zv_i (zv_w (x + y)) :: st)
  | .isub, Sum.inl y :: Sum.inl x :: st => some (ls, zv_i (zv_w (x - y)) :: st)
  | .imul, Sum.inl y :: Sum.inl x :: st => some (ls, zv_i (zv_w (x * y)) :: st)
  | .ineg, Sum.inl x :: st => some (ls, zv_i (zv_w (-x)) :: st)
  | .idiv, Sum.inl y :: Sum.inl x :: st => if y = 0 then none else some (ls, zv_i (zv_w (x.tdiv y)) :: st)
  | .irem, Sum.inl y :: Sum.inl x :: st => if y = 0 then none else some (ls, zv_i (x.tmod y) :: st)
  | .iand, Sum.inl y :: Sum.inl x :: st => some (ls, zv_i (zv_and x y) :: st)
  | .ior, Sum.inl y :: Sum.inl x :: st => some (ls, zv_i (zv_or x y) :: st)
  | .ishl, Sum.inl y :: Sum.inl x :: st => some (ls, zv_i (zv_shl x y) :: st)
  | .ishr, Sum.inl y :: Sum.inl x :: st => some (ls, zv_i (zv_shr x y) :: st)
  | .iushr, Sum.inl y :: Sum.inl x :: st => some (ls, zv_i (zv_ushr x y) :: st)
  | .i2b, Sum.inl x :: st => some (ls, zv_i (zv_i2b x) :: st)
  | .i2c, Sum.inl x :: st => some (ls, zv_i (zv_i2c x) :: st)
  | .i2l, Sum.inl x :: st => some (ls, zv_j (zv_i2l x) :: st)
  | .l2i, Sum.inr (Sum.inl x) :: st => some (ls, zv_i (zv_l2i x) :: st)
  | .ladd, Sum.inr (Sum.inl y) :: Sum.inr (Sum.inl x) :: st => some (ls, zv_j (x + y) :: st)
  | .lsub, Sum.inr (Sum.inl y) :: Sum.inr (Sum.inl x) :: st => some (ls, zv_j (x - y) :: st)
  | .lmul, Sum.inr (Sum.inl y) :: Sum.inr (Sum.inl x) :: st => some (ls, zv_j (x * y) :: st)
  | .land, Sum.inr (Sum.inl y) :: Sum.inr (Sum.inl x) :: st => some (ls, zv_j (x &&& y) :: st)
  | .lor, Sum.inr (Sum.inl y) :: Sum.inr (Sum.inl x) :: st => some (ls, zv_j (x ||| y) :: st)
  | .lxor, Sum.inr (Sum.inl y) :: Sum.inr (Sum.inl x) :: st => some (ls, zv_j (x ^^^ y) :: st)
  | .lshl, Sum.inl y :: Sum.inr (Sum.inl x) :: st => some (ls, zv_j (zv_lshl x y) :: st)
  | .lushr, Sum.inl y :: Sum.inr (Sum.inl x) :: st => some (ls, zv_j (zv_lushr x y) :: st)
  | .lcmp, Sum.inr (Sum.inl y) :: Sum.inr (Sum.inl x) :: st => some (ls, zv_i (zv_lcmp x y) :: st)
  | .dup, Sum.inl x :: st => some (ls, zv_i x :: zv_i x :: st)
  | .dup, Sum.inr (Sum.inr x) :: st => some (ls, zv_r x :: zv_r x :: st)
  | .dup2, Sum.inl y :: Sum.inr (Sum.inr x) :: st => some (ls, zv_i y :: zv_r x :: zv_i y :: zv_r x :: st)
  | .pop, Sum.inl _ :: st => some (ls, st)
  | .pop, Sum.inr (Sum.inr _) :: st => some (ls, st)
  | _, _ => none
end
section
/-! The small machine's heap and its instructions. zv_lay (the cells in the order in which they are made) and zv_fts (the fields' kinds) stand in 02. -/
def zv_lk {α : Type} : List (Nat × α) → Nat → Option α
  | [], _ => none
  | a :: l, n => bif Nat.beq a.1 n then some a.2 else zv_lk l n
def zv_ft (ci k : Nat) : Nat := (zv_fts.getD ci []).getD k 9
def zv_nf (ci : Nat) : Nat := (zv_fts.getD ci []).length
def zv_gI (h : zv_H) (r ci k : Nat) : Option Int := if r ≤ zv_n h ∧ zv_lay r = (1, ci) then some (zv_I h r k) else none
def zv_gJ (h : zv_H) (r ci k : Nat) : Option Int64 := if r ≤ zv_n h ∧ zv_lay r = (1, ci) then some (zv_J h r k) else none
def zv_gR (h : zv_H) (r ci k : Nat) : Option Nat := if r ≤ zv_n h ∧ zv_lay r = (1, ci) then some (zv_R h r k) else none
def zv_pI (h : zv_H) (r ci k : Nat) (v : Int) : Option zv_H := if r ≤ zv_n h ∧ zv_lay r = (1, ci) then some (zv_sI h r k v) else none
def zv_pZ (h : zv_H) (r ci k : Nat) (v : Int) : Option zv_H := if (r ≤ zv_n h ∧ zv_lay r = (1, ci)) ∧ (v = 0 ∨ v = 1) then some (zv_sI h r k v) else none
def zv_pJ (h : zv_H) (r ci k : Nat) (v : Int64) : Option zv_H := if r ≤ zv_n h ∧ zv_lay r = (1, ci) then some (zv_sJ h r k v) else none
def zv_pR (h : zv_H) (r ci k : Nat) (v : Nat) : Option zv_H := if r ≤ zv_n h ∧ zv_lay r = (1, ci) then some (zv_sR h r k v) else none
def zv_aI (h : zv_H) (r : Nat) (j : Int) : Option Int :=
  if r = 2000000 then (if 0 ≤ j ∧ j < zv_L h then some (zv_X h j.toNat) else none)
  else if r ≤ zv_n h ∧ (zv_lay r).1 = 2 ∧ 0 ≤ j ∧ j < (zv_lay r).2 then some (zv_I h r j.toNat) else none
def zv_aB (h : zv_H) (r : Nat) (j : Int) : Option Int := if r ≤ zv_n h ∧ ((zv_lay r).1 = 3 ∨ (zv_lay r).1 = 4) ∧ 0 ≤ j ∧ j < (zv_lay r).2 then some (zv_I h r j.toNat) else none
def zv_aJ (h : zv_H) (r : Nat) (j : Int) : Option Int64 := if r ≤ zv_n h ∧ (zv_lay r).1 = 5 ∧ 0 ≤ j ∧ j < (zv_lay r).2 then some (zv_J h r j.toNat) else none
def zv_aR (h : zv_H) (r : Nat) (j : Int) : Option Nat := if r ≤ zv_n h ∧ (zv_lay r).1 = 6 ∧ 0 ≤ j ∧ j < (zv_lay r).2 then some (zv_R h r j.toNat) else none
def zv_wI (h : zv_H) (r : Nat) (j v : Int) : Option zv_H := if r ≤ zv_n h ∧ (zv_lay r).1 = 2 ∧ 0 ≤ j ∧ j < (zv_lay r).2 then some (zv_sI h r j.toNat v) else none
def zv_wB (h : zv_H) (r : Nat) (j v : Int) : Option zv_H := if r ≤ zv_n h ∧ ((zv_lay r).1 = 3 ∨ (zv_lay r).1 = 4) ∧ 0 ≤ j ∧ j < (zv_lay r).2 then some (zv_sI h r j.toNat (if (zv_lay r).1 = 3 then zv_nz v else zv_i2b v)) else none
def zv_wJ (h : zv_H) (r : Nat) (j : Int) (v : Int64) : Option zv_H := if r ≤ zv_n h ∧ (zv_lay r).1 = 5 ∧ 0 ≤ j ∧ j < (zv_lay r).2 then some (zv_sJ h r j.toNat v) else none
def zv_wR (h : zv_H) (r : Nat) (j : Int) (v : Nat) : Option zv_H := if (r ≤ zv_n h ∧ (zv_lay r).1 = 6 ∧ 0 ≤ j ∧ j < (zv_lay r).2) ∧ (v = 0 ∨ v ≤ zv_n h ∧ zv_lay v = (1, 5)) then some (zv_sR h r j.toNat v) else none
def zv_al (h : zv_H) (r : Nat) : Option Int := if r = 2000000 then some (zv_L h) else if r ≤ zv_n h ∧ 2 ≤ (zv_lay r).1 then some (zv_lay r).2 else none
def zv_nO (h : zv_H) (ci : Nat) : Option zv_H := if zv_lay (zv_n h + 1) = (1, ci) then some (zv_mk h (zv_nf ci)) else none
def zv_nA (h : zv_H) (kd : Nat) (x : Int) : Option zv_H := if (0 ≤ x ∧ x ≤ 60000) ∧ zv_lay (zv_n h + 1) = (kd, x.toNat) then some (zv_mk h x.toNat) else none
def zv_cy (h : zv_H) (s : Nat) (sp : Int) (d : Nat) (dp n : Int) : Option zv_H :=
  if (s ≤ zv_n h ∧ d ≤ zv_n h ∧ (zv_lay s).1 = 2 ∧ (zv_lay d).1 = 2) ∧ (0 ≤ sp ∧ 0 ≤ dp ∧ 0 ≤ n) ∧ sp + n ≤ (zv_lay s).2 ∧ dp + n ≤ (zv_lay d).2 ∧ ¬ s = d then some (zv_cp h s sp.toNat d dp.toNat n.toNat) else none
/-! a class's pool: fields (class, place, nest mate), methods (number, kind, parameters, what it answers), ints, longs, texts, classes -/
abbrev zv_P : Type := List (Nat × (Nat × (Nat × Bool))) × (List (Nat × (Nat × (Nat × (Nat × Nat)))) × (List (Nat × Int) × (List (Nat × Int64) × (List (Nat × Nat) × List (Nat × Nat)))))
/-- a method: its class, its name, its bytes, its locals, what it answers, its instructions, its heads (with what of the locals counts there), its class's pool -/
abbrev zv_M : Type := (String × (MethodName × (ByteArray × (Nat × Option FieldType)))) × (List (Nat × Instr) × (List (Nat × List Bool) × zv_P))
abbrev zv_O : Type := Option (Option zv_V × zv_H)
abbrev zv_G : Type := Nat → zv_Ls → List zv_V → zv_H → zv_O
/-- the four kinds of calls: of void, int, long, reference -/
abbrev zv_C : Type := (Nat → List zv_V → zv_H → Option zv_H) × ((Nat → List zv_V → zv_H → Option (Int × zv_H)) × ((Nat → List zv_V → zv_H → Option (Int64 × zv_H)) × (Nat → List zv_V → zv_H → Option (Nat × zv_H))))
def zv_wd : List zv_V → Nat
  | [] => 0
  | Sum.inr (Sum.inl _) :: t => zv_wd t + 2
  | _ :: t => zv_wd t + 1
def zv_tk : Nat → List zv_V → List zv_V → Option (List zv_V × List zv_V)
  | 0, acc, st => some (acc, st)
  | n + 1, acc, v :: st => zv_tk n (v :: acc) st
  | _ + 1, _, [] => none
def zv_jp (go : zv_G) (pc : Nat) (off : Int) (ls : zv_Ls) (st : List zv_V) (h : zv_H) : zv_O := if (pc : Int) + off < 0 then none else go ((pc : Int) + off).toNat ls st h
def zv_tsw (go : zv_G) (pc : Nat) (x dflt : Int) (ls : zv_Ls) (st : List zv_V) (h : zv_H) : Int → List Int → zv_O
  | _, [] => zv_jp go pc dflt ls st h
  | lo, o :: t => if x = lo then zv_jp go pc o ls st h else zv_tsw go pc x dflt ls st h (lo + 1) t
def zv_lsw (go : zv_G) (pc : Nat) (x dflt : Int) (ls : zv_Ls) (st : List zv_V) (h : zv_H) : List (Int × Int) → zv_O
  | [] => zv_jp go pc dflt ls st h
  | o :: t => if x = o.1 then zv_jp go pc o.2 ls st h else zv_lsw go pc x dflt ls st h t
def zv_call (c : zv_C) (go : zv_G) (pc : Nat) (ls : zv_Ls) (st : List zv_V) (h : zv_H) (e : Nat × (Nat × (Nat × Nat))) : zv_O :=
  match zv_tk e.2.2.1 [] st with
  | none => none
  | some (as, rest) =>
    if 8 < zv_wd rest then none else
    match e.2.2.2 with
    | 0 => (c.1 e.1 as h).bind fun h' => go (pc + 3) ls rest h'
    | 1 => (c.2.1 e.1 as h).bind fun q => go (pc + 3) ls (zv_i q.1 :: rest) q.2
    | 2 => (c.2.2.1 e.1 as h).bind fun q => go (pc + 3) ls (zv_j q.1 :: rest) q.2
    | _ => (c.2.2.2 e.1 as h).bind fun q => go (pc + 3) ls (zv_r q.1 :: rest) q.2
def zv_gf (go : zv_G) (pc : Nat) (ls : zv_Ls) (st : List zv_V) (h : zv_H) (r : Nat) (o : Option (Nat × (Nat × Bool))) : zv_O := match o with
  | none => none
  | some f => match zv_ft f.1 f.2.1 with
    | 0 => (zv_gI h r f.1 f.2.1).bind fun v => go (pc + 3) ls (zv_i v :: st) h
    | 1 => (zv_gI h r f.1 f.2.1).bind fun v => go (pc + 3) ls (zv_i v :: st) h
    | 2 => (zv_gJ h r f.1 f.2.1).bind fun v => go (pc + 3) ls (zv_j v :: st) h
    | 3 => (zv_gR h r f.1 f.2.1).bind fun v => go (pc + 3) ls (zv_r v :: st) h
    | _ => none
def zv_pf (go : zv_G) (pc : Nat) (ls : zv_Ls) (st : List zv_V) (h : zv_H) (r : Nat) (w : zv_V) (o : Option (Nat × (Nat × Bool))) : zv_O := match o with
  | none => none
  | some f => match w, zv_ft f.1 f.2.1 with
    | Sum.inl v, 0 => (zv_pI h r f.1 f.2.1 v).bind fun h' => go (pc + 3) ls st h'
    | Sum.inl v, 1 => (zv_pZ h r f.1 f.2.1 v).bind fun h' => go (pc + 3) ls st h'
    | Sum.inr (Sum.inl v), 2 => (zv_pJ h r f.1 f.2.1 v).bind fun h' => go (pc + 3) ls st h'
    | Sum.inr (Sum.inr v), 3 => (zv_pR h r f.1 f.2.1 v).bind fun h' => go (pc + 3) ls st h'
    | _, _ => none
def zv_nw (go : zv_G) (pc : Nat) (ls : zv_Ls) (st : List zv_V) (h : zv_H) (o : Option Nat) : zv_O := match o with
  | none => none
  | some ci => (zv_nO h ci).bind fun h' => go (pc + 3) ls (zv_r (zv_n h + 1) :: st) h'
def zv_an (go : zv_G) (pc : Nat) (ls : zv_Ls) (st : List zv_V) (h : zv_H) (x : Int) (o : Option Nat) : zv_O := match o with
  | none => none
  | some ci => if ci = 5 then (zv_nA h 6 x).bind fun h' => go (pc + 3) ls (zv_r (zv_n h + 1) :: st) h' else none
def zv_ls (go : zv_G) (pc : Nat) (ls : zv_Ls) (st : List zv_V) (h : zv_H) (o : Option Nat) : zv_O := match o with
  | some k => go (pc + 2) ls (zv_r (1000000 + k) :: st) h
  | none => none
def zv_li (go : zv_G) (pc : Nat) (ls : zv_Ls) (st : List zv_V) (h : zv_H) (o : Option Nat) : zv_O := match o with
  | some k => go (pc + 3) ls (zv_r (1000000 + k) :: st) h
  | none => none
def zv_ll (go : zv_G) (pc : Nat) (ls : zv_Ls) (st : List zv_V) (h : zv_H) (o : Option Int64) : zv_O := match o with
  | some v => go (pc + 3) ls (zv_j v :: st) h
  | none => none
def zv_iv (c : zv_C) (go : zv_G) (pc : Nat) (ls : zv_Ls) (st : List zv_V) (h : zv_H) (o : Option (Nat × (Nat × (Nat × Nat)))) : zv_O := match o with
  | some e => if e.2.1 = 0 ∨ e.2.1 = 10 then zv_call c go pc ls st h e else none
  | none => none
def zv_cyS (go : zv_G) (pc : Nat) (ls : zv_Ls) (st : List zv_V) (h : zv_H) : zv_O := match st with
  | Sum.inl n :: Sum.inl dp :: Sum.inr (Sum.inr d) :: Sum.inl sp :: Sum.inr (Sum.inr s) :: st => if 8 < zv_wd st then none else (zv_cy h s sp d dp n).bind fun h' => go (pc + 3) ls st h'
  | _ => none
def zv_is (c : zv_C) (go : zv_G) (pc : Nat) (ls : zv_Ls) (st : List zv_V) (h : zv_H) (o : Option (Nat × (Nat × (Nat × Nat)))) : zv_O := match o with
  | some e => if e.2.1 = 2 ∨ e.2.1 = 12 then zv_call c go pc ls st h e else if e.2.1 = 21 then zv_cyS go pc ls st h else none
  | none => none
def zv_oi (go : zv_G) (pc : Nat) (ls : zv_Ls) (st : List zv_V) (h : zv_H) : zv_O := match st with
  | Sum.inr (Sum.inr r) :: st => if 8 < zv_wd st then none else if r = 0 then none else go (pc + 3) ls st h
  | _ => none
def zv_ip (c : zv_C) (go : zv_G) (pc : Nat) (ls : zv_Ls) (st : List zv_V) (h : zv_H) (o : Option (Nat × (Nat × (Nat × Nat)))) : zv_O := match o with
  | some e => if e.2.1 = 1 ∨ e.2.1 = 11 then zv_call c go pc ls st h e else if e.2.1 = 20 then zv_oi go pc ls st h else none
  | none => none
def zv_rt (h : zv_H) (w : Option zv_V) (t : Option FieldType) : zv_O := match w, t with
  | some (Sum.inl x), some .int => some (some (zv_i x), h)
  | some (Sum.inl x), some .boolean => some (some (zv_i (zv_nz x)), h)
  | some (Sum.inr (Sum.inl x)), some .long => some (some (zv_j x), h)
  | some (Sum.inr (Sum.inr x)), some (.object _) => some (some (zv_r x), h)
  | none, none => some (none, h)
  | _, _ => none
/-- the instructions that read or write cells, jump, call, end -/
def zv_hp (c : zv_C) (M : zv_M) (go : zv_G) (pc : Nat) (ls : zv_Ls) (st : List zv_V) (h : zv_H) (i : Instr) : zv_O := match i, st with
  | .goto off, st => zv_jp go pc off ls st h
  | .ifCond .eq off, Sum.inl x :: st => if x = 0 then zv_jp go pc off ls st h else go (pc + 3) ls st h
  | .ifCond .ne off, Sum.inl x :: st => if x = 0 then go (pc + 3) ls st h else zv_jp go pc off ls st h
  | .ifCond .lt off, Sum.inl x :: st => if x < 0 then zv_jp go pc off ls st h else go (pc + 3) ls st h
  | .ifCond .ge off, Sum.inl x :: st => if x < 0 then go (pc + 3) ls st h else zv_jp go pc off ls st h
  | .ifCond .gt off, Sum.inl x :: st => if x ≤ 0 then go (pc + 3) ls st h else zv_jp go pc off ls st h
  | .ifCond .le off, Sum.inl x :: st => if x ≤ 0 then zv_jp go pc off ls st h else go (pc + 3) ls st h
  | .if_icmp .eq off, Sum.inl y :: Sum.inl x :: st => if x = y then zv_jp go pc off ls st h else go (pc + 3) ls st h
  | .if_icmp .ne off, Sum.inl y :: Sum.inl x :: st => if x = y then go (pc + 3) ls st h else zv_jp go pc off ls st h
  | .if_icmp .lt off, Sum.inl y :: Sum.inl x :: st => if x < y then zv_jp go pc off ls st h else go (pc + 3) ls st h
  | .if_icmp .ge off, Sum.inl y :: Sum.inl x :: st => if x < y then go (pc + 3) ls st h else zv_jp go pc off ls st h
  | .if_icmp .gt off, Sum.inl y :: Sum.inl x :: st => if x ≤ y then go (pc + 3) ls st h else zv_jp go pc off ls st h
  | .if_icmp .le off, Sum.inl y :: Sum.inl x :: st => if x ≤ y then zv_jp go pc off ls st h else go (pc + 3) ls st h
  | .if_acmp .eq off, Sum.inr (Sum.inr y) :: Sum.inr (Sum.inr x) :: st => if 1000000 ≤ x ∨ 1000000 ≤ y then none else if x = y then zv_jp go pc off ls st h else go (pc + 3) ls st h
  | .if_acmp .ne off, Sum.inr (Sum.inr y) :: Sum.inr (Sum.inr x) :: st => if 1000000 ≤ x ∨ 1000000 ≤ y then none else if x = y then go (pc + 3) ls st h else zv_jp go pc off ls st h
  | .ifnull off, Sum.inr (Sum.inr x) :: st => if x = 0 then zv_jp go pc off ls st h else go (pc + 3) ls st h
  | .ifnonnull off, Sum.inr (Sum.inr x) :: st => if x = 0 then go (pc + 3) ls st h else zv_jp go pc off ls st h
  | .tableswitch dflt lo hi offs, Sum.inl x :: st => if hi + 1 = lo + (offs.toList.length : Int) then zv_tsw go pc x dflt ls st h lo offs.toList else none
  | .lookupswitch dflt ps, Sum.inl x :: st => if (ps.toList.zip (ps.toList.drop 1)).all (fun q => decide (q.1.1 < q.2.1)) = true then zv_lsw go pc x dflt ls st h ps.toList else none
  | .getfield ix, Sum.inr (Sum.inr r) :: st => zv_gf go pc ls st h r (zv_lk M.2.2.2.1 ix)
  | .putfield ix, v :: Sum.inr (Sum.inr r) :: st => zv_pf go pc ls st h r v (zv_lk M.2.2.2.1 ix)
  | .arraylength, Sum.inr (Sum.inr r) :: st => (zv_al h r).bind fun v => go (pc + 1) ls (zv_i v :: st) h
  | .iaload, Sum.inl j :: Sum.inr (Sum.inr r) :: st => (zv_aI h r j).bind fun v => go (pc + 1) ls (zv_i v :: st) h
  | .baload, Sum.inl j :: Sum.inr (Sum.inr r) :: st => (zv_aB h r j).bind fun v => go (pc + 1) ls (zv_i v :: st) h
  | .laload, Sum.inl j :: Sum.inr (Sum.inr r) :: st => (zv_aJ h r j).bind fun v => go (pc + 1) ls (zv_j v :: st) h
  | .aaload, Sum.inl j :: Sum.inr (Sum.inr r) :: st => (zv_aR h r j).bind fun v => go (pc + 1) ls (zv_r v :: st) h
  | .iastore, Sum.inl v :: Sum.inl j :: Sum.inr (Sum.inr r) :: st => (zv_wI h r j v).bind fun h' => go (pc + 1) ls st h'
  | .bastore, Sum.inl v :: Sum.inl j :: Sum.inr (Sum.inr r) :: st => (zv_wB h r j v).bind fun h' => go (pc + 1) ls st h'
  | .lastore, Sum.inr (Sum.inl v) :: Sum.inl j :: Sum.inr (Sum.inr r) :: st => (zv_wJ h r j v).bind fun h' => go (pc + 1) ls st h'
  | .aastore, Sum.inr (Sum.inr v) :: Sum.inl j :: Sum.inr (Sum.inr r) :: st => (zv_wR h r j v).bind fun h' => go (pc + 1) ls st h'
  | .new ix, st => zv_nw go pc ls st h (zv_lk M.2.2.2.2.2.2.2.2 ix)
  | .newarray .int, Sum.inl x :: st => (zv_nA h 2 x).bind fun h' => go (pc + 2) ls (zv_r (zv_n h + 1) :: st) h'
  | .newarray .boolean, Sum.inl x :: st => (zv_nA h 3 x).bind fun h' => go (pc + 2) ls (zv_r (zv_n h + 1) :: st) h'
  | .newarray .byte, Sum.inl x :: st => (zv_nA h 4 x).bind fun h' => go (pc + 2) ls (zv_r (zv_n h + 1) :: st) h'
  | .newarray .long, Sum.inl x :: st => (zv_nA h 5 x).bind fun h' => go (pc + 2) ls (zv_r (zv_n h + 1) :: st) h'
  | .anewarray ix, Sum.inl x :: st => zv_an go pc ls st h x (zv_lk M.2.2.2.2.2.2.2.2 ix)
  | .ldc ix, st => zv_ls go pc ls st h (zv_lk M.2.2.2.2.2.2.2.1 ix)
  | .ldc_w ix, st => zv_li go pc ls st h (zv_lk M.2.2.2.2.2.2.2.1 ix)
  | .ldc2_w ix, st => zv_ll go pc ls st h (zv_lk M.2.2.2.2.2.2.1 ix)
  | .invokevirtual ix, st => zv_iv c go pc ls st h (zv_lk M.2.2.2.2.1 ix)
  | .invokestatic ix, st => zv_is c go pc ls st h (zv_lk M.2.2.2.2.1 ix)
  | .invokespecial ix, st => zv_ip c go pc ls st h (zv_lk M.2.2.2.2.1 ix)
  | .ireturn, [Sum.inl x] => zv_rt h (some (zv_i x)) M.1.2.2.2.2
  | .lreturn, [Sum.inr (Sum.inl x)] => zv_rt h (some (zv_j x)) M.1.2.2.2.2
  | .areturn, [Sum.inr (Sum.inr x)] => zv_rt h (some (zv_r x)) M.1.2.2.2.2
  | .return_, [] => zv_rt h none M.1.2.2.2.2
  | _, _ => none
def zv_stp (c : zv_C) (M : zv_M) (go : zv_G) (pc : Nat) (ls : zv_Ls) (st : List zv_V) (h : zv_H) : zv_O := match zv_lk M.2.1 pc with
  | none => none
  | some i => match zv_op i ls st with
    | some q => go (pc + zv_len i) q.1 q.2 h
    | none => zv_hp c M go pc ls st h i
def zv_seg (c : zv_C) (M : zv_M) (kt : zv_G) : Nat → zv_G
  | 0, pc, ls, st, h => kt pc ls st h
  | n + 1, pc, ls, st, h => zv_stp c M (fun pc ls st h => match zv_lk M.2.2.1 pc with
    | some b => kt pc (zv_msk b ls) st h
    | none => zv_seg c M kt n pc ls st h) pc ls st h
end
section
/-! What a method answers: calls by depth; a limit over the stretches between heads. -/
def zv_lin (f : zv_G → zv_O) : Prop := ∀ go r, f go = some r → (∀ go', f go' = some r) ∨ ∃ pc ls st h, go pc ls st h = some r ∧ ∀ go', go' pc ls st h = some r → f go' = some r
theorem zv_lin_go (pc : Nat) (ls : zv_Ls) (st : List zv_V) (h : zv_H) : zv_lin (fun go => go pc ls st h) := fun _ _ hr => Or.inr ⟨pc, ls, st, h, hr, fun _ hg => hg⟩
theorem zv_lin_c (o : zv_O) : zv_lin (fun _ => o) := fun _ _ hr => Or.inl fun _ => hr
theorem zv_lin_if {p : Prop} [Decidable p] {f g : zv_G → zv_O} (hf : zv_lin f) (hg : zv_lin g) : zv_lin (fun go => if p then f go else g go) := by
  intro go r hr
  by_cases h : p
  · simp only [if_pos h] at hr ⊢
    exact hf go r hr
  · simp only [if_neg h] at hr ⊢
    exact hg go r hr
theorem zv_lin_b {α : Type} (o : Option α) {f : α → zv_G → zv_O} (hf : ∀ v, zv_lin (f v)) : zv_lin (fun go => o.bind fun v => f v go) := by
  intro go r hr
  cases o with
  | none => exact absurd hr (by simp)
  | some v => exact hf v go r hr
theorem zv_lin_jp (pc : Nat) (off : Int) (ls : zv_Ls) (st : List zv_V) (h : zv_H) : zv_lin (fun go => zv_jp go pc off ls st h) := zv_lin_if (zv_lin_c none) (zv_lin_go _ _ _ _)
theorem zv_lin_tsw (pc : Nat) (x dflt : Int) (ls : zv_Ls) (st : List zv_V) (h : zv_H) : ∀ (os : List Int) (lo : Int), zv_lin (fun go => zv_tsw go pc x dflt ls st h lo os)
  | [], _ => zv_lin_jp _ _ _ _ _
  | _ :: t, lo => zv_lin_if (zv_lin_jp _ _ _ _ _) (zv_lin_tsw pc x dflt ls st h t (lo + 1))
theorem zv_lin_lsw (pc : Nat) (x dflt : Int) (ls : zv_Ls) (st : List zv_V) (h : zv_H) : ∀ (os : List (Int × Int)), zv_lin (fun go => zv_lsw go pc x dflt ls st h os)
  | [] => zv_lin_jp _ _ _ _ _
  | _ :: t => zv_lin_if (zv_lin_jp _ _ _ _ _) (zv_lin_lsw pc x dflt ls st h t)
theorem zv_lin_call (c : zv_C) (pc : Nat) (ls : zv_Ls) (st : List zv_V) (h : zv_H) (e : Nat × (Nat × (Nat × Nat))) : zv_lin (fun go => zv_call c go pc ls st h e) := by
  unfold zv_call
  cases zv_tk e.2.2.1 [] st with
  | none => exact zv_lin_c none
  | some q =>
    obtain ⟨as, rest⟩ := q
    refine zv_lin_if (zv_lin_c none) ?_
    match e.2.2.2 with
    | 0 => exact zv_lin_b _ fun v => zv_lin_go _ _ _ _
    | 1 => exact zv_lin_b _ fun v => zv_lin_go _ _ _ _
    | 2 => exact zv_lin_b _ fun v => zv_lin_go _ _ _ _
    | _ + 3 => exact zv_lin_b _ fun v => zv_lin_go _ _ _ _
theorem zv_lin_gf (pc : Nat) (ls : zv_Ls) (st : List zv_V) (h : zv_H) (r : Nat) (o : Option (Nat × (Nat × Bool))) : zv_lin (fun go => zv_gf go pc ls st h r o) := by
  unfold zv_gf
  cases o with
  | none => exact zv_lin_c none
  | some f =>
    dsimp only
    generalize zv_ft f.1 f.2.1 = t
    match t with
    | 0 => exact zv_lin_b _ fun v => zv_lin_go _ _ _ _
    | 1 => exact zv_lin_b _ fun v => zv_lin_go _ _ _ _
    | 2 => exact zv_lin_b _ fun v => zv_lin_go _ _ _ _
    | 3 => exact zv_lin_b _ fun v => zv_lin_go _ _ _ _
    | _ + 4 => exact zv_lin_c none
theorem zv_lin_pf (pc : Nat) (ls : zv_Ls) (st : List zv_V) (h : zv_H) (r : Nat) (w : zv_V) (o : Option (Nat × (Nat × Bool))) : zv_lin (fun go => zv_pf go pc ls st h r w o) := by
  intro go r hr
  unfold zv_pf at hr ⊢
  cases o with
  | none => exact absurd hr (by simp)
  | some f =>
    dsimp only at hr ⊢
    generalize zv_ft f.1 f.2.1 = t at hr ⊢
    split at hr
    · exact zv_lin_b _ (fun v => zv_lin_go _ _ _ _) go r hr
    · exact zv_lin_b _ (fun v => zv_lin_go _ _ _ _) go r hr
    · exact zv_lin_b _ (fun v => zv_lin_go _ _ _ _) go r hr
    · exact zv_lin_b _ (fun v => zv_lin_go _ _ _ _) go r hr
    · exact absurd hr (by simp)
theorem zv_lin_nw (pc : Nat) (ls : zv_Ls) (st : List zv_V) (h : zv_H) (o : Option Nat) : zv_lin (fun go => zv_nw go pc ls st h o) := by
  unfold zv_nw
  cases o with
  | none => exact zv_lin_c none
  | some f => exact zv_lin_b _ fun v => zv_lin_go _ _ _ _
theorem zv_lin_an (pc : Nat) (ls : zv_Ls) (st : List zv_V) (h : zv_H) (x : Int) (o : Option Nat) : zv_lin (fun go => zv_an go pc ls st h x o) := by
  unfold zv_an
  cases o with
  | none => exact zv_lin_c none
  | some f => exact zv_lin_if (zv_lin_b _ fun v => zv_lin_go _ _ _ _) (zv_lin_c none)
theorem zv_lin_ls (pc : Nat) (ls : zv_Ls) (st : List zv_V) (h : zv_H) (o : Option Nat) : zv_lin (fun go => zv_ls go pc ls st h o) := by
  unfold zv_ls
  cases o with
  | none => exact zv_lin_c none
  | some f => exact zv_lin_go _ _ _ _
theorem zv_lin_li (pc : Nat) (ls : zv_Ls) (st : List zv_V) (h : zv_H) (o : Option Nat) : zv_lin (fun go => zv_li go pc ls st h o) := by
  unfold zv_li
  cases o with
  | none => exact zv_lin_c none
  | some f => exact zv_lin_go _ _ _ _
theorem zv_lin_ll (pc : Nat) (ls : zv_Ls) (st : List zv_V) (h : zv_H) (o : Option Int64) : zv_lin (fun go => zv_ll go pc ls st h o) := by
  unfold zv_ll
  cases o with
  | none => exact zv_lin_c none
  | some f => exact zv_lin_go _ _ _ _
theorem zv_lin_iv (c : zv_C) (pc : Nat) (ls : zv_Ls) (st : List zv_V) (h : zv_H) (o : Option (Nat × (Nat × (Nat × Nat)))) : zv_lin (fun go => zv_iv c go pc ls st h o) := by
  unfold zv_iv
  cases o with
  | none => exact zv_lin_c none
  | some f => exact zv_lin_if (zv_lin_call _ _ _ _ _ _) (zv_lin_c none)
theorem zv_lin_cyS (pc : Nat) (ls : zv_Ls) (st : List zv_V) (h : zv_H) : zv_lin (fun go => zv_cyS go pc ls st h) := by
  intro go r hr
  unfold zv_cyS at hr
  split at hr
  · exact zv_lin_if (zv_lin_c none) (zv_lin_b _ fun v => zv_lin_go _ _ _ _) go r hr
  · exact absurd hr (by simp)
theorem zv_lin_is (c : zv_C) (pc : Nat) (ls : zv_Ls) (st : List zv_V) (h : zv_H) (o : Option (Nat × (Nat × (Nat × Nat)))) : zv_lin (fun go => zv_is c go pc ls st h o) := by
  unfold zv_is
  cases o with
  | none => exact zv_lin_c none
  | some f => exact zv_lin_if (zv_lin_call _ _ _ _ _ _) (zv_lin_if (zv_lin_cyS _ _ _ _) (zv_lin_c none))
theorem zv_lin_oi (pc : Nat) (ls : zv_Ls) (st : List zv_V) (h : zv_H) : zv_lin (fun go => zv_oi go pc ls st h) := by
  intro go r hr
  unfold zv_oi at hr
  split at hr
  · exact zv_lin_if (zv_lin_c none) (zv_lin_if (zv_lin_c none) (zv_lin_go _ _ _ _)) go r hr
  · exact absurd hr (by simp)
theorem zv_lin_ip (c : zv_C) (pc : Nat) (ls : zv_Ls) (st : List zv_V) (h : zv_H) (o : Option (Nat × (Nat × (Nat × Nat)))) : zv_lin (fun go => zv_ip c go pc ls st h o) := by
  unfold zv_ip
  cases o with
  | none => exact zv_lin_c none
  | some f => exact zv_lin_if (zv_lin_call _ _ _ _ _ _) (zv_lin_if (zv_lin_oi _ _ _ _) (zv_lin_c none))
set_option maxHeartbeats 4000000 in
theorem zv_lin_hp (c : zv_C) (M : zv_M) (pc : Nat) (ls : zv_Ls) (st : List zv_V) (h : zv_H) (i : Instr) : zv_lin (fun go => zv_hp c M go pc ls st h i) := by
  intro go r hr
  unfold zv_hp at hr
  split at hr
  all_goals try exact zv_lin_jp _ _ _ _ _ go r hr
  all_goals try exact zv_lin_if (zv_lin_jp _ _ _ _ _) (zv_lin_go _ _ _ _) go r hr
  all_goals try exact zv_lin_if (zv_lin_go _ _ _ _) (zv_lin_jp _ _ _ _ _) go r hr
  all_goals try exact zv_lin_if (zv_lin_c none) (zv_lin_if (zv_lin_jp _ _ _ _ _) (zv_lin_go _ _ _ _)) go r hr
  all_goals try exact zv_lin_if (zv_lin_c none) (zv_lin_if (zv_lin_go _ _ _ _) (zv_lin_jp _ _ _ _ _)) go r hr
  all_goals try exact zv_lin_if (zv_lin_tsw _ _ _ _ _ _ _ _) (zv_lin_c none) go r hr
  all_goals try exact zv_lin_if (zv_lin_lsw _ _ _ _ _ _ _) (zv_lin_c none) go r hr
  all_goals try exact zv_lin_b _ (fun v => zv_lin_go _ _ _ _) go r hr
  all_goals try exact zv_lin_gf _ _ _ _ _ _ go r hr
  all_goals try exact zv_lin_pf _ _ _ _ _ _ _ go r hr
  all_goals try exact zv_lin_nw _ _ _ _ _ go r hr
  all_goals try exact zv_lin_an _ _ _ _ _ _ go r hr
  all_goals try exact zv_lin_ls _ _ _ _ _ go r hr
  all_goals try exact zv_lin_li _ _ _ _ _ go r hr
  all_goals try exact zv_lin_ll _ _ _ _ _ go r hr
  all_goals try exact zv_lin_iv _ _ _ _ _ _ go r hr
  all_goals try exact zv_lin_is _ _ _ _ _ _ go r hr
  all_goals try exact zv_lin_ip _ _ _ _ _ _ go r hr
  all_goals try exact zv_lin_c _ go r hr
  all_goals exact absurd hr (by simp)
theorem zv_lin_stp (c : zv_C) (M : zv_M) (pc : Nat) (ls : zv_Ls) (st : List zv_V) (h : zv_H) : zv_lin (fun go => zv_stp c M go pc ls st h) := by
  unfold zv_stp
  cases zv_lk M.2.1 pc with
  | none => exact zv_lin_c none
  | some i =>
    dsimp only
    cases zv_op i ls st with
    | none => exact zv_lin_hp _ _ _ _ _ _ _
    | some q => exact zv_lin_go _ _ _ _
theorem zv_lin_seg (c : zv_C) (M : zv_M) : ∀ (n pc : Nat) (ls : zv_Ls) (st : List zv_V) (h : zv_H), zv_lin (fun go => zv_seg c M go n pc ls st h)
  | 0, pc, ls, st, h => zv_lin_go _ _ _ _
  | n + 1, pc, ls, st, h => by
    intro kt r hr
    have hr0 : zv_stp c M (fun pc ls st h => match zv_lk M.2.2.1 pc with
      | some b => kt pc (zv_msk b ls) st h
      | none => zv_seg c M kt n pc ls st h) pc ls st h = some r := hr
    rcases zv_lin_stp c M pc ls st h _ r hr0 with hA | ⟨pc1, ls1, st1, h1, e1, e2⟩
    · exact Or.inl fun go' => hA _
    · cases hb : zv_lk M.2.2.1 pc1 with
      | some b =>
        simp only [hb] at e1
        refine Or.inr ⟨pc1, zv_msk b ls1, st1, h1, e1, fun go' hg => ?_⟩
        refine e2 _ ?_
        simp only [hb]
        exact hg
      | none =>
        simp only [hb] at e1
        rcases zv_lin_seg c M n pc1 ls1 st1 h1 kt r e1 with hA | ⟨pc2, ls2, st2, h2, f1, f2⟩
        · refine Or.inl fun go' => e2 _ ?_
          simp only [hb]
          exact hA go'
        · refine Or.inr ⟨pc2, ls2, st2, h2, f1, fun go' hg => e2 _ ?_⟩
          simp only [hb]
          exact f2 go' hg
/-- so many stretches -/
def zv_it (c : zv_C) (M : zv_M) : Nat → zv_G
  | 0, _, _, _, _ => none
  | n + 1, pc, ls, st, h => zv_seg c M (zv_it c M n) 400 pc ls st h
theorem zv_it_mono (c : zv_C) (M : zv_M) : ∀ (n pc : Nat) (ls : zv_Ls) (st : List zv_V) (h : zv_H) r, zv_it c M n pc ls st h = some r → zv_it c M (n + 1) pc ls st h = some r
  | 0, _, _, _, _, _, hr => by cases hr
  | n + 1, pc, ls, st, h, r, hr => by
    rcases zv_lin_seg c M 400 pc ls st h (zv_it c M n) r hr with hA | ⟨pc2, ls2, st2, h2, f1, f2⟩
    · exact hA _
    · exact f2 _ (zv_it_mono c M n _ _ _ _ r f1)
theorem zv_it_le (c : zv_C) (M : zv_M) {n m pc : Nat} {ls : zv_Ls} {st : List zv_V} {h : zv_H} {r} (hr : zv_it c M n pc ls st h = some r) (hm : n ≤ m) : zv_it c M m pc ls st h = some r := by
  obtain ⟨k, rfl⟩ := Nat.exists_eq_add_of_le hm
  clear hm
  induction k with
  | zero => exact hr
  | succ k ih => exact zv_it_mono c M (n + k) pc ls st h r ih
noncomputable def zv_lim (c : zv_C) (M : zv_M) : zv_G := fun pc ls st h => @dite _ (∃ n, (zv_it c M n pc ls st h).isSome = true) (Classical.propDecidable _) (fun q => zv_it c M (Classical.choose q) pc ls st h) (fun _ => none)
theorem zv_lim_iff (c : zv_C) (M : zv_M) (pc : Nat) (ls : zv_Ls) (st : List zv_V) (h : zv_H) (r) : zv_lim c M pc ls st h = some r ↔ ∃ n, zv_it c M n pc ls st h = some r := by
  constructor
  · intro hr
    unfold zv_lim at hr
    split at hr
    · exact ⟨_, hr⟩
    · cases hr
  · rintro ⟨n, hn⟩
    have q : ∃ n, (zv_it c M n pc ls st h).isSome = true := ⟨n, by rw [hn]; rfl⟩
    unfold zv_lim
    rw [dif_pos q]
    obtain ⟨v, hv⟩ := Option.isSome_iff_exists.mp (Classical.choose_spec q)
    rw [hv]
    have h1 := zv_it_le c M hv (Nat.le_max_left (Classical.choose q) n)
    have h2 := zv_it_le c M hn (Nat.le_max_right (Classical.choose q) n)
    exact h1.symm.trans h2
theorem zv_lim_eq (c : zv_C) (M : zv_M) (pc : Nat) (ls : zv_Ls) (st : List zv_V) (h : zv_H) : zv_lim c M pc ls st h = zv_seg c M (zv_lim c M) 400 pc ls st h := by
  apply Option.ext
  intro r
  rw [zv_lim_iff]
  constructor
  · rintro ⟨n, hn⟩
    cases n with
    | zero => cases hn
    | succ n =>
      rcases zv_lin_seg c M 400 pc ls st h (zv_it c M n) r hn with hA | ⟨pc2, ls2, st2, h2, f1, f2⟩
      · exact hA _
      · exact f2 _ ((zv_lim_iff c M _ _ _ _ _).mpr ⟨n, f1⟩)
  · intro hr
    rcases zv_lin_seg c M 400 pc ls st h (zv_lim c M) r hr with hA | ⟨pc2, ls2, st2, h2, f1, f2⟩
    · exact ⟨1, hA _⟩
    · obtain ⟨n, hn⟩ := (zv_lim_iff c M _ _ _ _ _).mp f1
      exact ⟨n + 1, f2 _ hn⟩
end
section
/-! Calls by depth: the JDK's own six members, and the program's methods (zv_prog stands in 07). -/
def zv_txt : List (List Int) := [[115, 116, 97, 114, 116], [106, 111, 105, 110], [110, 111, 116], [103, 97, 112], [115, 105, 122, 101], [107, 105, 110, 100], [115, 97, 109, 101], [110, 101, 97, 114], [108, 111, 110, 103], [97, 110, 100], [111, 114], [112, 117, 116], [99, 117, 116], [119, 97, 105, 116], [117, 110, 100, 111], [114, 101, 100, 111], [103, 111], [110, 97, 109, 101], [119, 105, 116, 104, 100, 114, 97, 119], [114, 101, 115, 116, 111, 114, 101], [99, 97, 114, 114, 121], [109, 101, 114, 103, 101], [112, 114, 117, 110, 101], [60, 61, 62, 91, 93, 59]]
def zv_ixf (c : Int) : List Int → Int → Int
  | [], _ => -1
  | b :: l, k => if b = c then k else zv_ixf c l (k + 1)
def zv_bc (x : Int64) : Int64 :=
  let a := x - (zv_lushr x 1 &&& 6148914691236517205)
  let b := (a &&& 3689348814741910323) + (zv_lushr a 2 &&& 3689348814741910323)
  let c := (b + zv_lushr b 4) &&& 1085102592571150095
  let d := c + zv_lushr c 8
  let e := d + zv_lushr d 16
  e + zv_lushr e 32
def zv_jd (id : Nat) (as : List zv_V) (h : zv_H) : zv_O := match id, as with
  | 900, [Sum.inl x, Sum.inl y] => some (some (zv_i (max x y)), h)
  | 901, [Sum.inl x, Sum.inl y] => some (some (zv_i (min x y)), h)
  | 902, [Sum.inr (Sum.inl x)] => some (some (zv_i (zv_and (zv_l2i (zv_bc x)) 127)), h)
  | 903, [Sum.inr (Sum.inr s)] => if 1000000 ≤ s ∧ s < 1000024 then some (some (zv_i ((zv_txt.getD (s - 1000000) []).length : Int)), h) else none
  | 904, [Sum.inr (Sum.inr s), Sum.inl k] => if (1000000 ≤ s ∧ s < 1000024) ∧ 0 ≤ k ∧ k < ((zv_txt.getD (s - 1000000) []).length : Int) then some (some (zv_i ((zv_txt.getD (s - 1000000) []).getD k.toNat 0)), h) else none
  | 905, [Sum.inr (Sum.inr s), Sum.inl c] => if 1000000 ≤ s ∧ s < 1000024 then some (some (zv_i (zv_ixf c (zv_txt.getD (s - 1000000) []) 0)), h) else none
  | _, _ => none
def zv_en : List zv_V → Nat → zv_Ls
  | [], n => List.replicate n none
  | Sum.inr (Sum.inl x) :: t, n + 2 => some (zv_j x) :: none :: zv_en t n
  | Sum.inr (Sum.inl _) :: _, _ => []
  | Sum.inl x :: t, n + 1 => some (zv_i x) :: zv_en t n
  | Sum.inr (Sum.inr x) :: t, n + 1 => some (zv_r x) :: zv_en t n
  | _ :: _, 0 => []
/-- the receiver is an object of that class -/
def zv_ob (h : zv_H) (r ci : Nat) : Prop := r ≤ zv_n h ∧ zv_lay r = (1, ci)
def zv_rc (h : zv_H) (as : List zv_V) (o : Option Nat) : Prop := match o, as with
  | none, _ => True
  | some ci, Sum.inr (Sum.inr r) :: _ => zv_ob h r ci
  | some _, _ => False
noncomputable def zv_sem (pg : Nat → Option (Option Nat × zv_M)) (c : zv_C) (id : Nat) (as : List zv_V) (h : zv_H) : zv_O :=
  if 900 ≤ id then zv_jd id as h else
  match pg id with
  | none => none
  | some m => @ite _ (zv_rc h as m.1 ∧ zv_wd as ≤ m.2.1.2.2.2.1) (Classical.propDecidable _) (zv_lim c m.2 0 (zv_en as m.2.1.2.2.2.1) [] h) none
def zv_pjV (o : zv_O) : Option zv_H := match o with
  | some (none, h) => some h
  | _ => none
def zv_pjI (o : zv_O) : Option (Int × zv_H) := match o with
  | some (some (Sum.inl x), h) => some (x, h)
  | _ => none
def zv_pjJ (o : zv_O) : Option (Int64 × zv_H) := match o with
  | some (some (Sum.inr (Sum.inl x)), h) => some (x, h)
  | _ => none
def zv_pjR (o : zv_O) : Option (Nat × zv_H) := match o with
  | some (some (Sum.inr (Sum.inr x)), h) => some (x, h)
  | _ => none
noncomputable def zv_cs (pg : Nat → Option (Option Nat × zv_M)) : Nat → zv_C
  | 0 => (fun _ _ _ => none, (fun _ _ _ => none, (fun _ _ _ => none, fun _ _ _ => none)))
  | d + 1 => (fun id as h => zv_pjV (zv_sem pg (zv_cs pg d) id as h), (fun id as h => zv_pjI (zv_sem pg (zv_cs pg d) id as h), (fun id as h => zv_pjJ (zv_sem pg (zv_cs pg d) id as h), fun id as h => zv_pjR (zv_sem pg (zv_cs pg d) id as h))))
theorem zv_sem_of {pg : Nat → Option (Option Nat × zv_M)} {c : zv_C} {id : Nat} {as : List zv_V} {h : zv_H} {m : Option Nat × zv_M} {o : zv_O} (hid : Nat.blt id 900 = true) (hm : pg id = some m) (hr : zv_rc h as m.1) (hw : Nat.ble (zv_wd as) m.2.1.2.2.2.1 = true) (e : zv_lim c m.2 0 (zv_en as m.2.1.2.2.2.1) [] h = o) : zv_sem pg c id as h = o := by
  have h1 : ¬ 900 ≤ id := by
    have := Nat.blt_eq.mp hid
    omega
  have h2 : zv_wd as ≤ m.2.1.2.2.2.1 := Nat.ble_eq.mp hw
  unfold zv_sem
  rw [if_neg h1, hm]
  dsimp only
  rw [if_pos ⟨hr, h2⟩]
  exact e
end
section
def R_law : String := "BranchedTextLaw"
/-! the program: pools, methods (instructions, heads), by program out of the task's printed files -/
def zp_0 : zv_P := ([(14, (0, (0, false))), (20, (0, (1, false))), (24, (0, (2, false))), (28, (0, (3, false))), (31, (0, (4, false))), (37, (0, (5, false))), (44, (0, (6, false))), (51, (0, (7, false))), (58, (0, (8, false))), (65, (0, (9, false))), (69, (0, (10, false))), (79, (5, (3, true))), (83, (0, (11, false))), (87, (0, (12, false))), (90, (2, (2, true))), (93, (6, (4, true))), (97, (7, (1, true))), (98, (5, (9, true))), (99, (5, (12, true))), (130, (5, (11, true))), (133, (5, (5, true))), (136, (5, (4, true))), (146, (5, (14, true))), (149, (5, (13, true))), (157, (5, (10, true))), (167, (5, (7, true))), (174, (5, (15, true))), (181, (5, (17, true))), (185, (5, (0, true))), (196, (5, (1, true))), (206, (5, (6, true))), (216, (5, (8, true))), (244, (4, (8, true))), (251, (4, (9, true))), (271, (4, (7, true))), (280, (5, (16, true))), (283, (4, (6, true))), (337, (0, (13, false)))], ([(3, (998, (20, (0, 0)))), (11, (109, (1, (2, 0)))), (36, (90, (11, (1, 0)))), (43, (62, (11, (1, 0)))), (50, (118, (11, (1, 0)))), (57, (55, (11, (1, 0)))), (64, (126, (11, (1, 0)))), (72, (1, (0, (1, 0)))), (75, (110, (0, (5, 0)))), (94, (57, (0, (1, 0)))), (102, (91, (2, (2, 1)))), (106, (129, (0, (2, 1)))), (110, (5, (0, (3, 0)))), (114, (115, (0, (2, 0)))), (117, (114, (0, (2, 1)))), (120, (4, (0, (2, 1)))), (123, (95, (0, (2, 0)))), (127, (3, (0, (2, 3)))), (139, (11, (0, (1, 0)))), (142, (12, (0, (3, 3)))), (152, (900, (2, (2, 1)))), (160, (92, (2, (1, 1)))), (163, (119, (0, (3, 0)))), (170, (17, (0, (4, 3)))), (177, (20, (2, (1, 2)))), (188, (21, (0, (3, 0)))), (192, (135, (12, (3, 1)))), (199, (112, (0, (1, 1)))), (203, (60, (0, (3, 0)))), (209, (22, (2, (2, 1)))), (213, (61, (0, (1, 1)))), (219, (24, (0, (2, 3)))), (222, (16, (0, (2, 0)))), (225, (10, (0, (3, 3)))), (228, (46, (2, (2, 1)))), (232, (63, (0, (2, 1)))), (235, (65, (0, (2, 1)))), (238, (67, (0, (3, 0)))), (241, (68, (0, (2, 0)))), (247, (111, (0, (1, 2)))), (254, (107, (0, (2, 2)))), (260, (32, (0, (4, 1)))), (264, (108, (0, (2, 2)))), (267, (98, (0, (2, 0)))), (274, (902, (2, (1, 1)))), (284, (101, (0, (2, 1)))), (288, (100, (0, (2, 1)))), (289, (13, (2, (2, 1)))), (292, (34, (0, (1, 0)))), (295, (36, (0, (2, 1)))), (299, (93, (2, (1, 1)))), (302, (37, (0, (2, 1)))), (305, (38, (0, (3, 1)))), (309, (19, (0, (3, 1)))), (312, (35, (0, (2, 1)))), (315, (103, (0, (2, 1)))), (318, (127, (0, (1, 0)))), (321, (128, (0, (2, 0)))), (323, (18, (0, (3, 1)))), (327, (39, (0, (3, 1)))), (331, (116, (0, (2, 1)))), (334, (96, (0, (2, 0)))), (340, (14, (2, (2, 3)))), (343, (124, (0, (1, 0)))), (346, (40, (0, (2, 1)))), (349, (42, (0, (2, 0)))), (352, (125, (0, (1, 0)))), (355, (123, (0, (2, 0)))), (358, (66, (0, (2, 1)))), (361, (43, (0, (1, 3)))), (365, (45, (2, (2, 3)))), (369, (6, (0, (3, 1)))), (372, (901, (2, (2, 1)))), (375, (51, (0, (3, 1)))), (379, (49, (0, (3, 1))))], ([], ([(258, -1)], ([], [(9, 5), (34, 4), (41, 2), (48, 6), (55, 1), (62, 7)])))))
def zp_1 : zv_P := ([(11, (1, (0, false))), (15, (1, (1, false))), (18, (1, (2, false))), (21, (1, (3, false)))], ([(3, (998, (20, (0, 0)))), (25, (56, (0, (1, 0)))), (28, (58, (0, (4, 0)))), (32, (59, (0, (3, 0))))], ([], ([(36, -2)], ([], [])))))
def zp_2 : zv_P := ([(9, (2, (0, false))), (15, (2, (1, false))), (18, (2, (2, false)))], ([(3, (998, (20, (0, 0)))), (22, (63, (0, (2, 1)))), (26, (900, (2, (2, 1))))], ([], ([], ([], [])))))
def zp_3 : zv_P := ([(9, (3, (0, false))), (18, (3, (1, false))), (22, (3, (2, false))), (26, (3, (3, false))), (29, (3, (8, false))), (32, (3, (5, false))), (35, (3, (9, false))), (38, (3, (4, false))), (47, (3, (6, false))), (58, (3, (7, false))), (100, (0, (8, true))), (159, (3, (10, false))), (162, (3, (11, false))), (165, (3, (12, false)))], ([(3, (998, (20, (0, 0)))), (17, (126, (11, (1, 0)))), (41, (901, (2, (2, 1)))), (50, (75, (0, (1, 1)))), (54, (71, (0, (2, 1)))), (61, (76, (2, (1, 1)))), (65, (77, (2, (1, 1)))), (68, (72, (0, (2, 1)))), (71, (903, (0, (1, 1)))), (76, (904, (0, (2, 1)))), (82, (78, (0, (2, 1)))), (86, (82, (0, (2, 1)))), (89, (81, (0, (1, 1)))), (92, (2, (0, (2, 0)))), (103, (56, (0, (1, 0)))), (108, (83, (0, (3, 1)))), (112, (79, (0, (2, 1)))), (115, (127, (0, (1, 0)))), (116, (128, (0, (2, 0)))), (120, (84, (0, (3, 1)))), (125, (59, (0, (3, 0)))), (128, (85, (0, (3, 1)))), (135, (87, (0, (1, 1)))), (138, (86, (0, (3, 1)))), (141, (58, (0, (4, 0)))), (156, (89, (0, (1, 1))))], ([], ([], ([(80, 0), (98, 1), (123, 10), (131, 9), (133, 2), (145, 3), (147, 4), (149, 5), (150, 6), (152, 7), (154, 8), (168, 11), (170, 12), (172, 13), (174, 14), (176, 15), (178, 16), (180, 17), (182, 18), (184, 19), (186, 20), (188, 21), (190, 22)], [(15, 7)])))))
def zp_4 : zv_P := ([(11, (4, (0, false))), (17, (4, (1, false))), (21, (4, (2, false))), (25, (4, (3, false))), (28, (4, (4, false))), (35, (4, (5, false))), (46, (4, (6, false))), (53, (4, (9, false))), (61, (4, (8, false))), (64, (5, (10, true))), (80, (5, (6, true))), (83, (5, (16, true))), (88, (5, (4, true))), (92, (5, (15, true))), (95, (5, (9, true))), (96, (5, (0, true))), (106, (4, (7, false))), (124, (5, (17, true)))], ([(3, (998, (20, (0, 0)))), (31, (96, (0, (2, 0)))), (39, (113, (0, (1, 1)))), (43, (97, (0, (2, 0)))), (49, (94, (2, (1, 1)))), (57, (98, (0, (2, 0)))), (67, (901, (2, (2, 1)))), (73, (112, (0, (1, 1)))), (76, (111, (0, (1, 2)))), (99, (91, (2, (2, 1)))), (102, (116, (0, (2, 1)))), (109, (92, (2, (1, 1)))), (112, (100, (0, (2, 1)))), (115, (102, (0, (2, 1)))), (118, (101, (0, (2, 1)))), (121, (117, (0, (2, 1))))], ([], ([(86, -1)], ([], [(9, 5)])))))
def zp_5 : zv_P := ([(9, (5, (1, false))), (15, (5, (2, false))), (18, (5, (0, false))), (22, (5, (3, false))), (26, (5, (4, false))), (30, (5, (5, false))), (33, (5, (6, false))), (36, (5, (7, false))), (39, (5, (8, false))), (42, (5, (9, false))), (45, (5, (10, false))), (48, (5, (11, false))), (51, (5, (12, false))), (54, (5, (13, false))), (57, (5, (14, false))), (60, (5, (15, false))), (63, (5, (16, false))), (67, (5, (17, false)))], ([(3, (998, (20, (0, 0)))), (70, (116, (0, (2, 1))))], ([], ([], ([], [])))))
def zp_6 : zv_P := ([(9, (6, (0, false))), (15, (6, (1, false))), (18, (6, (2, false))), (21, (6, (3, false))), (24, (6, (4, false))), (28, (5, (0, true))), (33, (5, (13, true))), (46, (6, (5, false)))], ([(3, (998, (20, (0, 0)))), (36, (120, (0, (2, 1)))), (40, (999, (21, (5, 0))))], ([], ([], ([], [])))))
def zp_7 : zv_P := ([(9, (7, (0, false))), (15, (7, (1, false)))], ([(3, (998, (20, (0, 0)))), (19, (135, (12, (3, 1)))), (23, (129, (0, (2, 1))))], ([], ([], ([], [])))))
def zp_8 : zv_P := ([(9, (8, (0, false))), (16, (8, (1, false))), (23, (8, (2, false))), (30, (8, (3, false))), (34, (8, (4, false))), (37, (8, (5, false))), (41, (8, (6, false))), (44, (8, (7, false))), (55, (3, (2, true))), (69, (3, (8, true))), (72, (3, (9, true))), (112, (0, (12, true))), (115, (3, (10, true))), (118, (3, (11, true))), (121, (3, (1, true))), (128, (3, (12, true))), (169, (0, (10, true))), (173, (5, (0, true))), (178, (0, (11, true))), (181, (5, (12, true))), (188, (4, (6, true))), (193, (0, (6, true))), (197, (2, (2, true))), (216, (0, (7, true))), (220, (6, (4, true))), (231, (5, (4, true))), (234, (5, (6, true))), (237, (5, (7, true))), (240, (5, (8, true))), (243, (5, (9, true))), (244, (5, (5, true))), (247, (5, (11, true))), (250, (5, (10, true))), (260, (0, (5, true))), (268, (4, (8, true))), (275, (4, (9, true))), (322, (5, (17, true))), (364, (4, (5, true))), (389, (4, (7, true))), (392, (7, (1, true)))], ([(3, (998, (20, (0, 0)))), (15, (126, (11, (1, 0)))), (22, (69, (11, (1, 0)))), (29, (0, (1, (1, 0)))), (48, (132, (0, (2, 1)))), (52, (133, (0, (2, 1)))), (58, (138, (0, (2, 0)))), (62, (70, (0, (2, 0)))), (65, (135, (2, (3, 1)))), (75, (141, (2, (3, 1)))), (79, (127, (0, (1, 0)))), (82, (128, (0, (2, 0)))), (85, (1, (0, (1, 0)))), (88, (74, (0, (2, 0)))), (90, (80, (0, (2, 0)))), (94, (73, (0, (1, 1)))), (98, (88, (0, (1, 1)))), (101, (143, (0, (2, 1)))), (105, (72, (0, (2, 1)))), (109, (75, (0, (1, 1)))), (124, (18, (0, (3, 1)))), (131, (19, (0, (3, 1)))), (135, (23, (0, (2, 1)))), (138, (25, (0, (1, 1)))), (142, (26, (0, (1, 1)))), (145, (27, (0, (2, 1)))), (148, (130, (0, (1, 1)))), (151, (28, (0, (2, 1)))), (154, (30, (0, (2, 1)))), (157, (31, (0, (2, 1)))), (160, (33, (0, (2, 1)))), (163, (40, (0, (2, 1)))), (166, (44, (0, (2, 1)))), (184, (7, (0, (1, 3)))), (200, (8, (0, (1, 1)))), (203, (9, (0, (1, 1)))), (206, (104, (0, (1, 2)))), (210, (902, (2, (1, 1)))), (223, (3, (0, (2, 3)))), (227, (6, (0, (3, 1)))), (253, (66, (0, (2, 1)))), (256, (10, (0, (3, 3)))), (264, (96, (0, (2, 0)))), (272, (111, (0, (1, 2)))), (278, (114, (0, (2, 1)))), (281, (92, (2, (1, 1)))), (284, (93, (2, (1, 1)))), (287, (102, (0, (2, 1)))), (290, (100, (0, (2, 1)))), (291, (4, (0, (2, 1)))), (294, (101, (0, (2, 1)))), (297, (105, (0, (2, 1)))), (300, (106, (0, (2, 1)))), (303, (121, (0, (2, 1)))), (306, (122, (0, (2, 1)))), (309, (63, (0, (2, 1)))), (312, (65, (0, (2, 1)))), (315, (112, (0, (1, 1)))), (318, (13, (2, (2, 1)))), (325, (134, (0, (2, 1)))), (328, (29, (0, (2, 1)))), (331, (45, (2, (2, 3)))), (335, (47, (2, (3, 3)))), (339, (48, (0, (3, 1)))), (343, (49, (0, (3, 1)))), (346, (50, (0, (3, 1)))), (349, (41, (0, (3, 1)))), (352, (173, (0, (1, 0)))), (355, (174, (0, (1, 0)))), (358, (175, (0, (1, 0)))), (361, (177, (0, (2, 0)))), (367, (99, (0, (2, 1)))), (370, (176, (0, (2, 0)))), (373, (64, (0, (2, 1)))), (376, (107, (0, (2, 2)))), (380, (15, (0, (2, 1)))), (385, (98, (0, (2, 0)))), (393, (53, (0, (2, 1)))), (397, (52, (0, (2, 1)))), (400, (51, (0, (3, 1)))), (404, (43, (0, (1, 3)))), (408, (54, (0, (2, 1)))), (412, (24, (0, (2, 3))))], ([], ([(383, -1)], ([], [(13, 7), (20, 3), (27, 0)])))))
def zp_9 : zv_P := ([(7, (9, (0, false))), (13, (9, (1, false))), (16, (9, (2, false))), (19, (9, (5, false))), (22, (9, (6, false))), (25, (9, (7, false))), (28, (9, (8, false))), (32, (9, (9, false))), (35, (9, (13, false))), (38, (9, (14, false))), (41, (9, (15, false))), (44, (9, (16, false))), (47, (9, (17, false))), (50, (9, (18, false))), (53, (9, (21, false))), (56, (9, (22, false))), (59, (9, (23, false))), (62, (9, (25, false))), (65, (9, (26, false))), (69, (9, (28, false))), (73, (9, (29, false))), (100, (9, (39, false))), (114, (9, (40, false))), (129, (9, (41, false))), (132, (9, (44, false))), (135, (9, (45, false))), (138, (9, (46, false))), (144, (9, (4, false))), (147, (9, (3, false))), (162, (9, (11, false))), (168, (9, (10, false))), (190, (9, (12, false))), (223, (9, (20, false))), (226, (9, (19, false))), (272, (9, (24, false))), (305, (9, (27, false))), (311, (9, (36, false))), (314, (9, (33, false))), (317, (9, (32, false))), (327, (9, (34, false))), (333, (9, (38, false))), (341, (9, (35, false))), (344, (9, (30, false))), (347, (9, (31, false))), (374, (9, (37, false))), (387, (9, (42, false))), (390, (9, (43, false))), (467, (9, (47, false)))], ([(1, (998, (20, (0, 0)))), (141, (189, (0, (1, 0)))), (150, (191, (0, (4, 0)))), (154, (188, (2, (3, 1)))), (158, (190, (0, (3, 1)))), (165, (200, (0, (3, 1)))), (171, (196, (0, (3, 1)))), (175, (199, (0, (2, 1)))), (179, (193, (0, (2, 1)))), (183, (201, (0, (2, 0)))), (187, (202, (0, (2, 0)))), (193, (203, (0, (2, 0)))), (196, (205, (0, (2, 1)))), (199, (194, (0, (1, 1)))), (203, (192, (0, (2, 1)))), (206, (198, (0, (3, 1)))), (209, (209, (0, (2, 1)))), (212, (214, (2, (3, 1)))), (215, (213, (0, (5, 1)))), (219, (215, (0, (1, 1)))), (229, (206, (0, (2, 1)))), (232, (186, (0, (2, 1)))), (235, (195, (0, (1, 1)))), (238, (212, (0, (1, 1)))), (241, (204, (0, (2, 1)))), (244, (216, (0, (4, 1)))), (247, (217, (0, (6, 0)))), (251, (208, (0, (2, 0)))), (254, (227, (0, (2, 1)))), (257, (222, (0, (2, 1)))), (260, (226, (0, (3, 1)))), (263, (223, (0, (3, 1)))), (266, (224, (0, (1, 0)))), (269, (225, (0, (2, 1)))), (275, (210, (0, (3, 1)))), (278, (232, (0, (3, 1)))), (281, (233, (0, (3, 1)))), (284, (218, (2, (2, 1)))), (288, (219, (0, (2, 1)))), (291, (236, (0, (3, 1)))), (294, (197, (0, (3, 0)))), (298, (237, (0, (3, 0)))), (302, (238, (0, (2, 1)))), (308, (240, (0, (2, 0)))), (322, (905, (0, (2, 1)))), (330, (242, (0, (4, 1)))), (350, (246, (0, (2, 1)))), (354, (244, (0, (3, 0)))), (358, (243, (0, (1, 0)))), (361, (252, (0, (1, 0)))), (364, (245, (0, (2, 1)))), (368, (250, (0, (2, 0)))), (371, (253, (0, (1, 0)))), (377, (251, (0, (1, 0)))), (380, (247, (0, (2, 0)))), (384, (248, (0, (1, 1)))), (393, (249, (0, (2, 0)))), (396, (255, (0, (2, 1)))), (399, (230, (0, (1, 1)))), (402, (231, (0, (1, 1)))), (405, (234, (0, (2, 1)))), (408, (235, (0, (1, 1)))), (411, (239, (0, (3, 1)))), (414, (228, (0, (2, 1)))), (417, (229, (0, (2, 1)))), (420, (287, (0, (2, 1)))), (423, (187, (0, (2, 1)))), (426, (254, (0, (1, 0)))), (429, (211, (0, (2, 1)))), (432, (258, (0, (1, 1)))), (435, (259, (0, (1, 1)))), (438, (260, (0, (1, 1)))), (441, (263, (0, (2, 1)))), (444, (268, (0, (4, 1)))), (448, (221, (0, (1, 0)))), (451, (283, (0, (1, 1)))), (454, (290, (0, (2, 1)))), (457, (207, (0, (3, 1)))), (461, (292, (0, (3, 1)))), (464, (291, (0, (3, 1)))), (470, (296, (0, (2, 0)))), (473, (297, (0, (2, 0)))), (476, (298, (0, (1, 0)))), (479, (302, (0, (2, 1))))], ([], ([(76, 12251), (78, 2774), (80, 453701), (82, 423672), (84, 358062), (86, 204), (88, 276647), (90, 244366229642), (92, 7055815802), (94, 1627639), (96, 7020464), (98, 8873042), (104, 10492274), (106, 208022), (108, 423), (110, 1111), (112, 10631), (117, 5146), (119, 381245), (121, 223456), (123, 375062), (125, 279252), (127, 247516), (337, 27), (339, 96)], ([(320, 23)], [])))))
def zp_10 : zv_P := ([], ([(9, (131, (1, (1, 0)))), (12, (184, (1, (1, 0)))), (13, (136, (0, (1, 1)))), (17, (185, (0, (1, 1)))), (18, (137, (0, (6, 1)))), (22, (241, (0, (6, 1)))), (23, (142, (0, (2, 1)))), (27, (256, (0, (2, 1)))), (28, (139, (0, (2, 1)))), (31, (257, (0, (2, 1)))), (32, (140, (0, (3, 1)))), (36, (220, (0, (3, 1)))), (37, (144, (0, (2, 1)))), (40, (261, (0, (2, 1)))), (41, (145, (0, (3, 1)))), (44, (262, (0, (3, 1)))), (45, (146, (0, (3, 1)))), (48, (264, (0, (3, 1)))), (49, (147, (0, (3, 1)))), (52, (265, (0, (3, 1)))), (53, (148, (0, (3, 1)))), (56, (266, (0, (3, 1)))), (57, (149, (0, (3, 1)))), (60, (267, (0, (3, 1)))), (61, (150, (0, (3, 1)))), (64, (269, (0, (3, 1)))), (65, (151, (0, (3, 1)))), (68, (270, (0, (3, 1)))), (69, (152, (0, (1, 1)))), (72, (271, (0, (1, 1)))), (73, (153, (0, (3, 1)))), (76, (272, (0, (3, 1)))), (77, (154, (0, (2, 1)))), (80, (273, (0, (2, 1)))), (81, (155, (0, (3, 1)))), (84, (274, (0, (3, 1)))), (85, (156, (0, (2, 1)))), (88, (275, (0, (2, 1)))), (89, (157, (0, (1, 1)))), (92, (276, (0, (1, 1)))), (93, (158, (0, (1, 1)))), (96, (277, (0, (1, 1)))), (97, (159, (0, (2, 1)))), (100, (278, (0, (2, 1)))), (101, (160, (0, (1, 1)))), (104, (279, (0, (1, 1)))), (105, (161, (0, (1, 1)))), (108, (280, (0, (1, 1)))), (109, (162, (0, (2, 1)))), (112, (281, (0, (2, 1)))), (113, (163, (0, (2, 1)))), (116, (282, (0, (2, 1)))), (117, (164, (0, (2, 1)))), (120, (284, (0, (2, 1)))), (121, (165, (0, (2, 1)))), (124, (285, (0, (2, 1)))), (125, (166, (0, (2, 1)))), (128, (286, (0, (2, 1)))), (129, (167, (0, (3, 1)))), (132, (288, (0, (3, 1)))), (133, (168, (0, (4, 1)))), (137, (289, (0, (4, 1)))), (138, (169, (0, (4, 1)))), (141, (293, (0, (4, 1)))), (142, (170, (0, (3, 1)))), (145, (294, (0, (3, 1)))), (146, (171, (0, (3, 1)))), (149, (295, (0, (3, 1)))), (150, (172, (0, (2, 1)))), (153, (299, (0, (2, 1)))), (154, (178, (0, (2, 1)))), (157, (300, (0, (2, 1)))), (158, (179, (0, (3, 1)))), (161, (301, (0, (3, 1)))), (162, (180, (0, (2, 1)))), (165, (303, (0, (2, 1)))), (166, (181, (0, (1, 1)))), (169, (304, (0, (1, 1)))), (170, (182, (0, (2, 1)))), (173, (305, (0, (2, 1)))), (174, (183, (0, (2, 1)))), (177, (306, (0, (2, 1))))], ([], ([], ([], [(7, 8), (10, 9)])))))
def mc0_init : zv_M := ((RX0, (⟨RX0, "<init>", "()V"⟩, (prog_2_method_1_code, (2, none)))), ([(0, .aload_n 0), (1, .invokespecial 3), (4, .aload_n 0), (5, .new 9), (8, .dup), (9, .iconst 0), (10, .invokespecial 11), (13, .putfield 14), (16, .aload_n 0), (17, .bipush 48), (19, .anewarray 9), (22, .putfield 20), (25, .aload_n 0), (26, .sipush 604), (29, .newarray .int), (31, .putfield 24), (34, .aload_n 0), (35, .bipush 48), (37, .newarray .int), (39, .putfield 28), (42, .aload_n 0), (43, .bipush 121), (45, .newarray .int), (47, .putfield 31), (50, .aload_n 0), (51, .new 34), (54, .dup), (55, .invokespecial 36), (58, .putfield 37), (61, .aload_n 0), (62, .new 41), (65, .dup), (66, .invokespecial 43), (69, .putfield 44), (72, .aload_n 0), (73, .new 48), (76, .dup), (77, .invokespecial 50), (80, .putfield 51), (83, .aload_n 0), (84, .new 55), (87, .dup), (88, .invokespecial 57), (91, .putfield 58), (94, .aload_n 0), (95, .new 62), (98, .dup), (99, .invokespecial 64), (102, .putfield 65), (105, .aload_n 0), (106, .aload_n 0), (107, .getfield 14), (110, .putfield 69), (113, .aload_n 0), (114, .getfield 20), (117, .iconst 0), (118, .aload_n 0), (119, .getfield 14), (122, .aastore), (123, .iconst 1), (124, .istore_n 1), (125, .iload_n 1), (126, .bipush 48), (128, .if_icmp .ge 23), (131, .aload_n 0), (132, .getfield 20), (135, .iload_n 1), (136, .new 9), (139, .dup), (140, .iload_n 1), (141, .invokespecial 11), (144, .aastore), (145, .iinc 1 1), (148, .goto (-23)), (151, .aload_n 0), (152, .invokevirtual 72), (155, .return_)], ([(125, [true, true])], zp_0)))
def mc0_begin : zv_M := ((RX0, (⟨RX0, "begin", "()V"⟩, (prog_2_method_2_code, (2, none)))), ([(0, .iconst 0), (1, .istore_n 1), (2, .iload_n 1), (3, .bipush 48), (5, .if_icmp .ge 49), (8, .aload_n 0), (9, .getfield 20), (12, .iload_n 1), (13, .aaload), (14, .ifnull 34), (17, .aload_n 0), (18, .getfield 20), (21, .iload_n 1), (22, .aaload), (23, .aconst_null), (24, .iconst (-1)), (25, .iconst (-1)), (26, .iconst 0), (27, .invokevirtual 75), (30, .aload_n 0), (31, .getfield 20), (34, .iload_n 1), (35, .aaload), (36, .iload_n 1), (37, .ifCond .ne 7), (40, .iconst 1), (41, .goto 4), (44, .iconst 0), (45, .putfield 79), (48, .iinc 1 1), (51, .goto (-49)), (54, .aload_n 0), (55, .aload_n 0), (56, .getfield 14), (59, .putfield 69), (62, .aload_n 0), (63, .iconst 0), (64, .putfield 83), (67, .aload_n 0), (68, .iconst 1), (69, .putfield 87), (72, .aload_n 0), (73, .getfield 44), (76, .iconst 0), (77, .putfield 90), (80, .aload_n 0), (81, .getfield 51), (84, .iconst 0), (85, .putfield 93), (88, .aload_n 0), (89, .getfield 58), (92, .invokevirtual 94), (95, .return_)], ([(2, [true, true])], zp_0)))
def mc0_startWith : zv_M := ((RX0, (⟨RX0, "startWith", "(LBranchedText$Word;)V"⟩, (prog_2_method_3_code, (4, none)))), ([(0, .aload_n 0), (1, .getfield 14), (4, .aload_n 1), (5, .getfield 97), (8, .putfield 98), (11, .aload_n 0), (12, .getfield 14), (15, .iconst 0), (16, .putfield 99), (19, .iconst 0), (20, .istore_n 2), (21, .iload_n 2), (22, .aload_n 1), (23, .getfield 97), (26, .if_icmp .ge 33), (29, .iconst 0), (30, .iload_n 2), (31, .invokestatic 102), (34, .istore_n 3), (35, .aload_n 0), (36, .iload_n 3), (37, .aload_n 1), (38, .iload_n 2), (39, .invokevirtual 106), (42, .invokevirtual 110), (45, .aload_n 0), (46, .getfield 14), (49, .iload_n 3), (50, .invokevirtual 114), (53, .iinc 2 1), (56, .goto (-35)), (59, .return_)], ([(21, [true, true, true, false])], zp_0)))
def mc0_at : zv_M := ((RX0, (⟨RX0, "at", "(I)LBranchedText$State;"⟩, (prog_2_method_4_code, (3, (some (.object "BranchedText$State")))))), ([(0, .iload_n 1), (1, .ifCond .lt 9), (4, .iload_n 1), (5, .bipush 48), (7, .if_icmp .lt 5), (10, .aconst_null), (11, .areturn), (12, .aload_n 0), (13, .getfield 20), (16, .iload_n 1), (17, .aaload), (18, .astore_n 2), (19, .aload_n 2), (20, .ifnull 14), (23, .aload_n 2), (24, .getfield 79), (27, .ifCond .eq 7), (30, .aload_n 2), (31, .goto 4), (34, .aconst_null), (35, .areturn)], ([], zp_0)))
def mc0_glyph : zv_M := ((RX0, (⟨RX0, "glyph", "(I)I"⟩, (prog_2_method_5_code, (2, (some .int))))), ([(0, .iload_n 1), (1, .ifCond .lt 19), (4, .iload_n 1), (5, .sipush 604), (8, .if_icmp .ge 12), (11, .aload_n 0), (12, .getfield 24), (15, .iload_n 1), (16, .iaload), (17, .goto 4), (20, .iconst (-1)), (21, .ireturn)], ([], zp_0)))
def mc0_setGlyph : zv_M := ((RX0, (⟨RX0, "setGlyph", "(II)V"⟩, (prog_2_method_6_code, (3, none)))), ([(0, .iload_n 1), (1, .ifCond .lt 17), (4, .iload_n 1), (5, .sipush 604), (8, .if_icmp .ge 10), (11, .aload_n 0), (12, .getfield 24), (15, .iload_n 1), (16, .iload_n 2), (17, .iastore), (18, .return_)], ([], zp_0)))
def mc0_letterAt : zv_M := ((RX0, (⟨RX0, "letterAt", "(LBranchedText$State;I)I"⟩, (prog_2_method_7_code, (3, (some .int))))), ([(0, .aload_n 0), (1, .aload_n 1), (2, .iload_n 2), (3, .invokevirtual 117), (6, .invokevirtual 120), (9, .ireturn)], ([], zp_0)))
def mc0_rowOfHere : zv_M := ((RX0, (⟨RX0, "rowOfHere", "()LBranchedText$Row;"⟩, (prog_2_method_8_code, (1, (some (.object "BranchedText$Row")))))), ([(0, .aload_n 0), (1, .getfield 37), (4, .aload_n 0), (5, .getfield 69), (8, .invokevirtual 123), (11, .aload_n 0), (12, .getfield 37), (15, .areturn)], ([], zp_0)))
def mc0_leaves : zv_M := ((RX0, (⟨RX0, "leaves", "()I"⟩, (prog_2_method_9_code, (4, (some .int))))), ([(0, .iconst 0), (1, .istore_n 1), (2, .iconst 0), (3, .istore_n 2), (4, .iload_n 2), (5, .bipush 48), (7, .if_icmp .ge 34), (10, .aload_n 0), (11, .iload_n 2), (12, .invokevirtual 127), (15, .astore_n 3), (16, .iload_n 1), (17, .aload_n 3), (18, .ifnull 14), (21, .aload_n 3), (22, .getfield 130), (25, .ifCond .ne 7), (28, .iconst 1), (29, .goto 4), (32, .iconst 0), (33, .iadd), (34, .istore_n 1), (35, .iinc 2 1), (38, .goto (-34)), (41, .iload_n 1), (42, .ireturn)], ([(4, [true, true, true, false])], zp_0)))
def mc0_groups : zv_M := ((RX0, (⟨RX0, "groups", "()I"⟩, (prog_2_method_10_code, (3, (some .int))))), ([(0, .iconst 0), (1, .istore_n 1), (2, .aload_n 0), (3, .getfield 69), (6, .astore_n 2), (7, .aload_n 2), (8, .ifnull 35), (11, .iload_n 1), (12, .aload_n 2), (13, .aload_n 0), (14, .getfield 14), (17, .if_acmp .eq 15), (20, .aload_n 2), (21, .getfield 133), (24, .aload_n 2), (25, .if_acmp .ne 7), (28, .iconst 1), (29, .goto 4), (32, .iconst 0), (33, .iadd), (34, .istore_n 1), (35, .aload_n 2), (36, .getfield 136), (39, .astore_n 2), (40, .goto (-33)), (43, .iload_n 1), (44, .ireturn)], ([(7, [true, true, true])], zp_0)))
def mc0_childOf : zv_M := ((RX0, (⟨RX0, "childOf", "(LBranchedText$State;I)LBranchedText$State;"⟩, (prog_2_method_11_code, (6, (some (.object "BranchedText$State")))))), ([(0, .iload_n 2), (1, .ifCond .lt 11), (4, .iload_n 2), (5, .aload_n 1), (6, .getfield 130), (9, .if_icmp .lt 5), (12, .aconst_null), (13, .areturn), (14, .aload_n 0), (15, .invokevirtual 139), (18, .aconst_null), (19, .astore_n 3), (20, .aload_n 0), (21, .getfield 51), (24, .getfield 93), (27, .iconst 1), (28, .iadd), (29, .istore 4), (31, .iconst 0), (32, .istore 5), (34, .iload 5), (36, .iload_n 2), (37, .if_icmp .gt 29), (40, .aload_n 0), (41, .aload_n 1), (42, .iload 4), (44, .invokevirtual 142), (47, .astore_n 3), (48, .aload_n 3), (49, .ifnonnull 5), (52, .aconst_null), (53, .areturn), (54, .aload_n 3), (55, .getfield 146), (58, .istore 4), (60, .iinc 5 1), (63, .goto (-29)), (66, .aload_n 3), (67, .areturn)], ([(34, [true, true, true, true, true, true])], zp_0)))
def mc0_findNewest : zv_M := ((RX0, (⟨RX0, "findNewest", "()V"⟩, (prog_2_method_12_code, (4, none)))), ([(0, .iconst 0), (1, .istore_n 1), (2, .iload_n 1), (3, .bipush 48), (5, .if_icmp .ge 28), (8, .aload_n 0), (9, .getfield 20), (12, .iload_n 1), (13, .aaload), (14, .ifnull 13), (17, .aload_n 0), (18, .getfield 20), (21, .iload_n 1), (22, .aaload), (23, .iconst 0), (24, .putfield 146), (27, .iinc 1 1), (30, .goto (-28)), (33, .iconst 0), (34, .istore_n 1), (35, .iload_n 1), (36, .bipush 48), (38, .if_icmp .ge 44), (41, .aload_n 0), (42, .iload_n 1), (43, .invokevirtual 127), (46, .astore_n 2), (47, .aload_n 2), (48, .astore_n 3), (49, .aload_n 3), (50, .ifnull 26), (53, .aload_n 3), (54, .aload_n 3), (55, .getfield 146), (58, .aload_n 2), (59, .getfield 149), (62, .invokestatic 152), (65, .putfield 146), (68, .aload_n 3), (69, .getfield 136), (72, .astore_n 3), (73, .goto (-24)), (76, .iinc 1 1), (79, .goto (-44)), (82, .return_)], ([(2, [true, true, false, false]), (35, [true, true, false, false]), (49, [true, true, true, true])], zp_0)))
def mc0_newestChild : zv_M := ((RX0, (⟨RX0, "newestChild", "(LBranchedText$State;I)LBranchedText$State;"⟩, (prog_2_method_13_code, (6, (some (.object "BranchedText$State")))))), ([(0, .aconst_null), (1, .astore_n 3), (2, .iconst 0), (3, .istore 4), (5, .iload 4), (7, .bipush 48), (9, .if_icmp .ge 59), (12, .aload_n 0), (13, .iload 4), (15, .invokevirtual 127), (18, .astore 5), (20, .aload 5), (22, .ifnull 40), (25, .aload 5), (27, .getfield 136), (30, .aload_n 1), (31, .if_acmp .ne 31), (34, .aload 5), (36, .getfield 146), (39, .iload_n 2), (40, .if_icmp .ge 22), (43, .aload_n 3), (44, .ifnull 15), (47, .aload 5), (49, .getfield 146), (52, .aload_n 3), (53, .getfield 146), (56, .if_icmp .le 6), (59, .aload 5), (61, .astore_n 3), (62, .iinc 4 1), (65, .goto (-60)), (68, .aload_n 3), (69, .areturn)], ([(5, [true, true, true, true, true, false])], zp_0)))
def mc0_onLine : zv_M := ((RX0, (⟨RX0, "onLine", "(LBranchedText$State;LBranchedText$State;)Z"⟩, (prog_2_method_14_code, (3, (some .boolean))))), ([(0, .aload_n 1), (1, .astore_n 2), (2, .aload_n 2), (3, .ifnull 22), (6, .aload_n 2), (7, .getfield 157), (10, .aload_n 0), (11, .getfield 157), (14, .if_icmp .le 11), (17, .aload_n 2), (18, .getfield 136), (21, .astore_n 2), (22, .goto (-20)), (25, .aload_n 2), (26, .aload_n 0), (27, .if_acmp .ne 7), (30, .iconst 1), (31, .goto 4), (34, .iconst 0), (35, .ireturn)], ([(2, [true, false, true]), (25, [true, false, true])], zp_0)))
def mc0_above : zv_M := ((RX0, (⟨RX0, "above", "(LBranchedText$State;I)LBranchedText$State;"⟩, (prog_2_method_15_code, (3, (some (.object "BranchedText$State")))))), ([(0, .aload_n 0), (1, .astore_n 2), (2, .aload_n 2), (3, .ifnull 19), (6, .aload_n 2), (7, .getfield 157), (10, .iload_n 1), (11, .if_icmp .le 11), (14, .aload_n 2), (15, .getfield 136), (18, .astore_n 2), (19, .goto (-17)), (22, .aload_n 2), (23, .areturn)], ([(2, [false, true, true])], zp_0)))
def mc0_lettersOfHereBy : zv_M := ((RX0, (⟨RX0, "lettersOfHereBy", "(J)I"⟩, (prog_2_method_16_code, (5, (some .int))))), ([(0, .iconst 0), (1, .istore_n 3), (2, .iconst 0), (3, .istore 4), (5, .iload 4), (7, .aload_n 0), (8, .getfield 69), (11, .getfield 99), (14, .if_icmp .ge 38), (17, .iload_n 3), (18, .lload_n 1), (19, .aload_n 0), (20, .getfield 69), (23, .iload 4), (25, .invokevirtual 117), (28, .invokestatic 160), (31, .lushr), (32, .lconst 1), (33, .land), (34, .lconst 0), (35, .lcmp), (36, .ifCond .eq 7), (39, .iconst 1), (40, .goto 4), (43, .iconst 0), (44, .iadd), (45, .istore_n 3), (46, .iinc 4 1), (49, .goto (-44)), (52, .iload_n 3), (53, .ireturn)], ([(5, [true, true, false, true, true])], zp_0)))
def mc0_moveTo : zv_M := ((RX0, (⟨RX0, "moveTo", "(LBranchedText$State;)V"⟩, (prog_2_method_17_code, (2, none)))), ([(0, .aload_n 0), (1, .aload_n 1), (2, .putfield 69), (5, .aload_n 0), (6, .getfield 51), (9, .aload_n 1), (10, .aload_n 0), (11, .getfield 83), (14, .invokevirtual 163), (17, .return_)], ([], zp_0)))
def mc0_grow : zv_M := ((RX0, (⟨RX0, "grow", "(III)LBranchedText$State;"⟩, (prog_2_method_18_code, (6, (some (.object "BranchedText$State")))))), ([(0, .iconst 0), (1, .istore 4), (3, .iload 4), (5, .bipush 48), (7, .if_icmp .ge 18), (10, .aload_n 0), (11, .iload 4), (13, .invokevirtual 127), (16, .ifnull 9), (19, .iinc 4 1), (22, .goto (-19)), (25, .iload 4), (27, .bipush 48), (29, .if_icmp .ge 13), (32, .aload_n 0), (33, .getfield 20), (36, .iload 4), (38, .aaload), (39, .ifnonnull 5), (42, .aconst_null), (43, .areturn), (44, .aload_n 0), (45, .getfield 20), (48, .iload 4), (50, .aaload), (51, .astore 5), (53, .aload 5), (55, .aload_n 0), (56, .getfield 69), (59, .iload_n 1), (60, .iload_n 2), (61, .iload_n 3), (62, .invokevirtual 75), (65, .aload 5), (67, .aload_n 0), (68, .getfield 83), (71, .putfield 167), (74, .aload_n 0), (75, .getfield 69), (78, .dup), (79, .getfield 130), (82, .iconst 1), (83, .iadd), (84, .putfield 130), (87, .aload_n 0), (88, .dup), (89, .getfield 87), (92, .iconst 1), (93, .iadd), (94, .putfield 87), (97, .aload_n 0), (98, .aload 5), (100, .putfield 69), (103, .aload_n 0), (104, .getfield 51), (107, .aload 5), (109, .aload_n 0), (110, .getfield 83), (113, .invokevirtual 163), (116, .aload 5), (118, .areturn)], ([(3, [true, true, true, true, true, false]), (25, [true, true, true, true, true, false])], zp_0)))
def mc0_putWord : zv_M := ((RX0, (⟨RX0, "putWord", "(ILBranchedText$Word;)I"⟩, (prog_2_method_19_code, (7, (some .int))))), ([(0, .iload_n 1), (1, .ifCond .lt 21), (4, .iload_n 1), (5, .aload_n 0), (6, .getfield 69), (9, .getfield 99), (12, .if_icmp .gt 10), (15, .aload_n 2), (16, .getfield 97), (19, .ifCond .ne 5), (22, .iconst (-1)), (23, .ireturn), (24, .aload_n 0), (25, .getfield 87), (28, .bipush 48), (30, .if_icmp .lt 6), (33, .bipush (-3)), (35, .ireturn), (36, .aload_n 0), (37, .getfield 69), (40, .getfield 99), (43, .aload_n 2), (44, .getfield 97), (47, .iadd), (48, .bipush 120), (50, .if_icmp .le 6), (53, .bipush (-6)), (55, .ireturn), (56, .aload_n 0), (57, .getfield 69), (60, .astore_n 3), (61, .aload_n 0), (62, .iconst 0), (63, .iload_n 1), (64, .aload_n 2), (65, .getfield 97), (68, .invokevirtual 170), (71, .astore 4), (73, .aload 4), (75, .ifnonnull 6), (78, .bipush (-3)), (80, .ireturn), (81, .aload 4), (83, .aload_n 3), (84, .iload_n 1), (85, .iconst 1), (86, .isub), (87, .invokevirtual 117), (90, .putfield 174), (93, .aload 4), (95, .aload 4), (97, .getfield 174), (100, .invokestatic 177), (103, .putfield 181), (106, .iconst 0), (107, .istore 5), (109, .iload 5), (111, .iload_n 1), (112, .if_icmp .ge 20), (115, .aload 4), (117, .aload_n 3), (118, .iload 5), (120, .invokevirtual 117), (123, .invokevirtual 114), (126, .iinc 5 1), (129, .goto (-20)), (132, .iconst 0), (133, .istore 5), (135, .iload 5), (137, .aload_n 2), (138, .getfield 97), (141, .if_icmp .ge 40), (144, .aload 4), (146, .getfield 185), (149, .iload 5), (151, .invokestatic 102), (154, .istore 6), (156, .aload_n 0), (157, .iload 6), (159, .aload_n 2), (160, .iload 5), (162, .invokevirtual 106), (165, .invokevirtual 110), (168, .aload 4), (170, .iload 6), (172, .invokevirtual 114), (175, .iinc 5 1), (178, .goto (-43)), (181, .iload_n 1), (182, .istore 5), (184, .iload 5), (186, .aload_n 3), (187, .getfield 99), (190, .if_icmp .ge 20), (193, .aload 4), (195, .aload_n 3), (196, .iload 5), (198, .invokevirtual 117), (201, .invokevirtual 114), (204, .iinc 5 1), (207, .goto (-23)), (210, .aload_n 0), (211, .aload 4), (213, .aload_n 3), (214, .invokevirtual 188), (217, .aload 4), (219, .getfield 185), (222, .ireturn)], ([(109, [true, true, true, true, true, true, false]), (135, [true, true, true, true, true, true, false]), (184, [true, false, false, true, true, true, false])], zp_0)))
def mc0_cutOut : zv_M := ((RX0, (⟨RX0, "cutOut", "(II)I"⟩, (prog_2_method_20_code, (8, (some .int))))), ([(0, .iload_n 1), (1, .ifCond .lt 13), (4, .iload_n 2), (5, .iconst 1), (6, .bipush 12), (8, .invokestatic 192), (11, .ifCond .ne 5), (14, .iconst (-1)), (15, .ireturn), (16, .iload_n 1), (17, .aload_n 0), (18, .getfield 69), (21, .getfield 99), (24, .iload_n 2), (25, .isub), (26, .if_icmp .le 6), (29, .bipush (-5)), (31, .ireturn), (32, .aload_n 0), (33, .getfield 87), (36, .bipush 48), (38, .if_icmp .lt 6), (41, .bipush (-3)), (43, .ireturn), (44, .aload_n 0), (45, .getfield 69), (48, .astore_n 3), (49, .aload_n 0), (50, .iconst 1), (51, .iload_n 1), (52, .iload_n 2), (53, .invokevirtual 170), (56, .astore 4), (58, .aload 4), (60, .ifnonnull 6), (63, .bipush (-3)), (65, .ireturn), (66, .iconst 0), (67, .istore 5), (69, .iload 5), (71, .aload_n 3), (72, .getfield 99), (75, .if_icmp .ge 76), (78, .aload_n 3), (79, .iload 5), (81, .invokevirtual 117), (84, .istore 6), (86, .iload 5), (88, .iload_n 1), (89, .isub), (90, .istore 7), (92, .iload 7), (94, .ifCond .lt 44), (97, .iload 7), (99, .iload_n 2), (100, .if_icmp .ge 38), (103, .iload 7), (105, .bipush 12), (107, .if_icmp .ge 31), (110, .aload 4), (112, .getfield 196), (115, .iload 7), (117, .iload 6), (119, .iastore), (120, .aload 4), (122, .dup), (123, .getfield 181), (126, .iload 6), (128, .invokestatic 177), (131, .lor), (132, .putfield 181), (135, .goto 10), (138, .aload 4), (140, .iload 6), (142, .invokevirtual 114), (145, .iinc 5 1), (148, .goto (-79)), (151, .aload_n 0), (152, .aload 4), (154, .aload_n 3), (155, .invokevirtual 188), (158, .aload 4), (160, .getfield 185), (163, .ireturn)], ([(69, [true, true, true, true, true, true, false, false]), (138, [true, true, true, true, true, true, true, false])], zp_0)))
def mc0_baseOf : zv_M := ((RX0, (⟨RX0, "baseOf", "(I)J"⟩, (prog_2_method_21_code, (1, (some .long))))), ([(0, .iload_n 0), (1, .iconst (-1)), (2, .if_icmp .eq 10), (5, .iload_n 0), (6, .invokestatic 160), (9, .ifCond .ne 7), (12, .lconst 0), (13, .goto 9), (16, .lconst 1), (17, .iload_n 0), (18, .invokestatic 160), (21, .lshl), (22, .lreturn)], ([], zp_0)))
def mc0_joinGroup : zv_M := ((RX0, (⟨RX0, "joinGroup", "(LBranchedText$State;LBranchedText$State;)V"⟩, (prog_2_method_22_code, (3, none)))), ([(0, .aload_n 2), (1, .invokevirtual 199), (4, .ifCond .eq 10), (7, .aload_n 2), (8, .getfield 133), (11, .ifnonnull 4), (14, .return_), (15, .aload_n 0), (16, .getfield 58), (19, .iconst 0), (20, .aload_n 1), (21, .getfield 167), (24, .aload_n 2), (25, .getfield 167), (28, .isub), (29, .invokevirtual 203), (32, .aload_n 0), (33, .getfield 58), (36, .iconst 1), (37, .aload_n 2), (38, .getfield 157), (41, .aload_n 2), (42, .getfield 133), (45, .getfield 157), (48, .isub), (49, .iconst 1), (50, .iadd), (51, .invokevirtual 203), (54, .aload_n 0), (55, .getfield 58), (58, .iconst 2), (59, .aload_n 1), (60, .getfield 206), (63, .invokevirtual 203), (66, .aload_n 0), (67, .getfield 58), (70, .iconst 3), (71, .aload_n 1), (72, .getfield 206), (75, .aload_n 2), (76, .getfield 206), (79, .if_icmp .ne 7), (82, .iconst 1), (83, .goto 4), (86, .iconst 0), (87, .invokevirtual 203), (90, .aload_n 0), (91, .getfield 58), (94, .iconst 4), (95, .aload_n 1), (96, .aload_n 2), (97, .invokestatic 209), (100, .ifCond .eq 7), (103, .iconst 1), (104, .goto 4), (107, .iconst 0), (108, .invokevirtual 203), (111, .aload_n 0), (112, .getfield 58), (115, .iconst 5), (116, .aload_n 1), (117, .getfield 98), (120, .invokevirtual 203), (123, .aload_n 0), (124, .getfield 58), (127, .invokevirtual 213), (130, .ifCond .eq 11), (133, .aload_n 1), (134, .aload_n 2), (135, .getfield 133), (138, .putfield 133), (141, .return_)], ([(87, [true, true, true]), (108, [true, true, true])], zp_0)))
def mc0_isNear : zv_M := ((RX0, (⟨RX0, "isNear", "(LBranchedText$State;LBranchedText$State;)Z"⟩, (prog_2_method_23_code, (3, (some .boolean))))), ([(0, .aload_n 1), (1, .getfield 206), (4, .ifCond .ne 15), (7, .aload_n 1), (8, .getfield 216), (11, .aload_n 1), (12, .getfield 98), (15, .iadd), (16, .goto 7), (19, .aload_n 1), (20, .getfield 216), (23, .istore_n 2), (24, .aload_n 0), (25, .getfield 206), (28, .ifCond .ne 17), (31, .aload_n 0), (32, .getfield 216), (35, .iload_n 2), (36, .if_icmp .ne 7), (39, .iconst 1), (40, .goto 4), (43, .iconst 0), (44, .ireturn), (45, .aload_n 0), (46, .getfield 216), (49, .aload_n 0), (50, .getfield 98), (53, .iadd), (54, .iload_n 2), (55, .if_icmp .eq 19), (58, .aload_n 1), (59, .getfield 206), (62, .iconst 1), (63, .if_icmp .ne 15), (66, .aload_n 0), (67, .getfield 216), (70, .iload_n 2), (71, .if_icmp .ne 7), (74, .iconst 1), (75, .goto 4), (78, .iconst 0), (79, .ireturn)], ([(23, [true, true, false])], zp_0)))
def mc0_passTime : zv_M := ((RX0, (⟨RX0, "passTime", "(I)I"⟩, (prog_2_method_24_code, (2, (some .int))))), ([(0, .iload_n 1), (1, .iconst 0), (2, .sipush 999), (5, .invokestatic 192), (8, .ifCond .ne 5), (11, .iconst (-1)), (12, .ireturn), (13, .aload_n 0), (14, .dup), (15, .getfield 83), (18, .iload_n 1), (19, .iadd), (20, .putfield 83), (23, .aload_n 0), (24, .getfield 83), (27, .ireturn)], ([], zp_0)))
def mc0_behind : zv_M := ((RX0, (⟨RX0, "behind", "(I)LBranchedText$State;"⟩, (prog_2_method_25_code, (4, (some (.object "BranchedText$State")))))), ([(0, .aload_n 0), (1, .getfield 69), (4, .astore_n 2), (5, .iconst 0), (6, .istore_n 3), (7, .iload_n 3), (8, .iload_n 1), (9, .if_icmp .ge 32), (12, .aload_n 2), (13, .ifnull 28), (16, .aload_n 2), (17, .getfield 133), (20, .ifnonnull 7), (23, .aconst_null), (24, .goto 10), (27, .aload_n 2), (28, .getfield 133), (31, .getfield 136), (34, .astore_n 2), (35, .iinc 3 1), (38, .goto (-31)), (41, .aload_n 2), (42, .areturn)], ([(7, [false, true, true, true])], zp_0)))
def mc0_stepBack : zv_M := ((RX0, (⟨RX0, "stepBack", "()I"⟩, (prog_2_method_26_code, (2, (some .int))))), ([(0, .aload_n 0), (1, .iconst 1), (2, .invokevirtual 219), (5, .astore_n 1), (6, .aload_n 1), (7, .ifnonnull 6), (10, .bipush (-5)), (12, .ireturn), (13, .aload_n 0), (14, .aload_n 1), (15, .invokevirtual 222), (18, .aload_n 1), (19, .getfield 185), (22, .ireturn)], ([], zp_0)))
def mc0_stepOn : zv_M := ((RX0, (⟨RX0, "stepOn", "()I"⟩, (prog_2_method_27_code, (4, (some .int))))), ([(0, .aload_n 0), (1, .aload_n 0), (2, .getfield 69), (5, .iconst 0), (6, .invokevirtual 225), (9, .astore_n 1), (10, .aload_n 1), (11, .ifnonnull 6), (14, .bipush (-5)), (16, .ireturn), (17, .aload_n 0), (18, .aload_n 1), (19, .iconst 0), (20, .invokevirtual 225), (23, .astore_n 2), (24, .iconst 0), (25, .istore_n 3), (26, .iload_n 3), (27, .bipush 48), (29, .if_icmp .ge 33), (32, .aload_n 2), (33, .ifnull 29), (36, .aload_n 2), (37, .getfield 133), (40, .aload_n 1), (41, .getfield 133), (44, .if_acmp .ne 18), (47, .aload_n 2), (48, .astore_n 1), (49, .aload_n 0), (50, .aload_n 1), (51, .iconst 0), (52, .invokevirtual 225), (55, .astore_n 2), (56, .iinc 3 1), (59, .goto (-33)), (62, .aload_n 0), (63, .aload_n 1), (64, .invokevirtual 222), (67, .aload_n 1), (68, .getfield 185), (71, .ireturn)], ([(26, [true, true, true, true]), (62, [true, true, false, false])], zp_0)))
def mc0_goTo : zv_M := ((RX0, (⟨RX0, "goTo", "(I)I"⟩, (prog_2_method_28_code, (4, (some .int))))), ([(0, .aload_n 0), (1, .iload_n 1), (2, .invokevirtual 127), (5, .astore_n 2), (6, .aload_n 2), (7, .ifnonnull 6), (10, .bipush (-2)), (12, .ireturn), (13, .aload_n 2), (14, .aload_n 0), (15, .getfield 69), (18, .if_acmp .ne 6), (21, .bipush (-4)), (23, .ireturn), (24, .aload_n 0), (25, .getfield 69), (28, .aload_n 2), (29, .invokestatic 228), (32, .istore_n 3), (33, .aload_n 0), (34, .aload_n 2), (35, .invokevirtual 222), (38, .iload_n 3), (39, .ireturn)], ([], zp_0)))
def mc0_nameHere : zv_M := ((RX0, (⟨RX0, "nameHere", "(I)I"⟩, (prog_2_method_29_code, (3, (some .int))))), ([(0, .iload_n 1), (1, .ifCond .ne 5), (4, .iconst (-1)), (5, .ireturn), (6, .aload_n 0), (7, .getfield 44), (10, .iload_n 1), (11, .invokevirtual 232), (14, .istore_n 2), (15, .iload_n 2), (16, .iconst (-1)), (17, .if_icmp .ne 18), (20, .aload_n 0), (21, .getfield 44), (24, .getfield 90), (27, .bipush 12), (29, .if_icmp .lt 6), (32, .bipush (-3)), (34, .ireturn), (35, .iload_n 2), (36, .iconst (-1)), (37, .if_icmp .eq 24), (40, .aload_n 0), (41, .getfield 44), (44, .iload_n 2), (45, .invokevirtual 235), (48, .aload_n 0), (49, .getfield 69), (52, .getfield 185), (55, .if_icmp .ne 6), (58, .bipush (-4)), (60, .ireturn), (61, .aload_n 0), (62, .getfield 44), (65, .iload_n 1), (66, .aload_n 0), (67, .getfield 69), (70, .getfield 185), (73, .invokevirtual 238), (76, .aload_n 0), (77, .getfield 44), (80, .getfield 90), (83, .ireturn)], ([(35, [true, true, true]), (61, [true, true, false])], zp_0)))
def mc0_dropName : zv_M := ((RX0, (⟨RX0, "dropName", "(I)I"⟩, (prog_2_method_30_code, (3, (some .int))))), ([(0, .iload_n 1), (1, .ifCond .ne 5), (4, .iconst (-1)), (5, .ireturn), (6, .aload_n 0), (7, .getfield 44), (10, .iload_n 1), (11, .invokevirtual 232), (14, .istore_n 2), (15, .iload_n 2), (16, .iconst (-1)), (17, .if_icmp .ne 6), (20, .bipush (-5)), (22, .ireturn), (23, .aload_n 0), (24, .getfield 44), (27, .iload_n 2), (28, .invokevirtual 241), (31, .aload_n 0), (32, .getfield 44), (35, .getfield 90), (38, .ireturn)], ([], zp_0)))
def mc0_takeBack : zv_M := ((RX0, (⟨RX0, "takeBack", "(I)I"⟩, (prog_2_method_31_code, (5, (some .int))))), ([(0, .aload_n 0), (1, .iload_n 1), (2, .invokevirtual 127), (5, .astore_n 2), (6, .aload_n 2), (7, .ifnonnull 6), (10, .bipush (-2)), (12, .ireturn), (13, .aload_n 0), (14, .getfield 37), (17, .aload_n 0), (18, .getfield 69), (21, .invokevirtual 123), (24, .aload_n 0), (25, .getfield 37), (28, .getfield 244), (31, .aload_n 2), (32, .invokevirtual 247), (35, .land), (36, .lconst 0), (37, .lcmp), (38, .ifCond .ne 6), (41, .bipush (-7)), (43, .ireturn), (44, .aload_n 0), (45, .getfield 37), (48, .getfield 251), (51, .aload_n 2), (52, .invokevirtual 247), (55, .land), (56, .lconst 0), (57, .lcmp), (58, .ifCond .ne 6), (61, .bipush (-4)), (63, .ireturn), (64, .aload_n 0), (65, .getfield 37), (68, .aload_n 2), (69, .invokevirtual 254), (72, .aload_n 0), (73, .getfield 37), (76, .getfield 251), (79, .land), (80, .lstore_n 3), (81, .aload_n 0), (82, .iconst 2), (83, .lload_n 3), (84, .aload_n 0), (85, .getfield 37), (88, .getfield 251), (91, .lload_n 3), (92, .ldc2_w 258), (95, .lxor), (96, .land), (97, .invokevirtual 260), (100, .ireturn)], ([], zp_0)))
def mc0_giveBack : zv_M := ((RX0, (⟨RX0, "giveBack", "(I)I"⟩, (prog_2_method_32_code, (5, (some .int))))), ([(0, .aload_n 0), (1, .iload_n 1), (2, .invokevirtual 127), (5, .astore_n 2), (6, .aload_n 2), (7, .ifnonnull 6), (10, .bipush (-2)), (12, .ireturn), (13, .aload_n 0), (14, .getfield 37), (17, .aload_n 0), (18, .getfield 69), (21, .invokevirtual 123), (24, .aload_n 0), (25, .getfield 37), (28, .getfield 244), (31, .aload_n 2), (32, .invokevirtual 247), (35, .land), (36, .lconst 0), (37, .lcmp), (38, .ifCond .ne 6), (41, .bipush (-7)), (43, .ireturn), (44, .aload_n 0), (45, .getfield 37), (48, .getfield 251), (51, .aload_n 2), (52, .invokevirtual 247), (55, .land), (56, .lconst 0), (57, .lcmp), (58, .ifCond .eq 6), (61, .bipush (-4)), (63, .ireturn), (64, .aload_n 0), (65, .getfield 37), (68, .aload_n 2), (69, .invokevirtual 264), (72, .aload_n 0), (73, .getfield 37), (76, .getfield 251), (79, .ldc2_w 258), (82, .lxor), (83, .land), (84, .lstore_n 3), (85, .aload_n 0), (86, .iconst 3), (87, .lload_n 3), (88, .aload_n 0), (89, .getfield 37), (92, .getfield 251), (95, .lload_n 3), (96, .lor), (97, .invokevirtual 260), (100, .ireturn)], ([], zp_0)))
def mc0_turn : zv_M := ((RX0, (⟨RX0, "turn", "(IJJ)I"⟩, (prog_2_method_33_code, (8, (some .int))))), ([(0, .aload_n 0), (1, .getfield 87), (4, .bipush 48), (6, .if_icmp .lt 6), (9, .bipush (-3)), (11, .ireturn), (12, .aload_n 0), (13, .getfield 37), (16, .lload 4), (18, .invokevirtual 267), (21, .aload_n 0), (22, .getfield 37), (25, .getfield 271), (28, .bipush 120), (30, .if_icmp .le 6), (33, .bipush (-6)), (35, .ireturn), (36, .aload_n 0), (37, .iload_n 1), (38, .iconst (-1)), (39, .lload_n 2), (40, .invokestatic 274), (43, .invokevirtual 170), (46, .astore 6), (48, .aload 6), (50, .ifnonnull 6), (53, .bipush (-3)), (55, .ireturn), (56, .aload 6), (58, .lload_n 2), (59, .putfield 280), (62, .iconst 0), (63, .istore 7), (65, .iload 7), (67, .aload_n 0), (68, .getfield 37), (71, .getfield 283), (74, .if_icmp .ge 35), (77, .aload_n 0), (78, .getfield 37), (81, .iload 7), (83, .invokevirtual 284), (86, .ifCond .eq 17), (89, .aload 6), (91, .aload_n 0), (92, .getfield 37), (95, .iload 7), (97, .invokevirtual 288), (100, .invokevirtual 114), (103, .iinc 7 1), (106, .goto (-41)), (109, .aload 6), (111, .getfield 185), (114, .ireturn)], ([(65, [true, false, false, false, false, false, true, true])], zp_0)))
def mc0_carryOver : zv_M := ((RX0, (⟨RX0, "carryOver", "(I)I"⟩, (prog_2_method_34_code, (3, (some .int))))), ([(0, .aload_n 0), (1, .iload_n 1), (2, .invokevirtual 127), (5, .astore_n 2), (6, .aload_n 2), (7, .ifnonnull 6), (10, .bipush (-2)), (12, .ireturn), (13, .aload_n 2), (14, .invokevirtual 199), (17, .ifCond .eq 14), (20, .aload_n 2), (21, .aload_n 0), (22, .getfield 69), (25, .invokestatic 289), (28, .ifCond .eq 6), (31, .bipush (-7)), (33, .ireturn), (34, .aload_n 0), (35, .invokevirtual 292), (38, .aload_n 0), (39, .aload_n 2), (40, .invokevirtual 295), (43, .ireturn)], ([], zp_0)))
def mc0_standForThemselves : zv_M := ((RX0, (⟨RX0, "standForThemselves", "()V"⟩, (prog_2_method_35_code, (2, none)))), ([(0, .iconst 0), (1, .istore_n 1), (2, .iload_n 1), (3, .bipush 48), (5, .if_icmp .ge 16), (8, .aload_n 0), (9, .getfield 28), (12, .iload_n 1), (13, .iload_n 1), (14, .iastore), (15, .iinc 1 1), (18, .goto (-16)), (21, .return_)], ([(2, [true, true])], zp_0)))
def mc0_standOf : zv_M := ((RX0, (⟨RX0, "standOf", "(I)I"⟩, (prog_2_method_36_code, (3, (some .int))))), ([(0, .iload_n 1), (1, .invokestatic 160), (4, .istore_n 2), (5, .iload_n 1), (6, .ifCond .lt 29), (9, .iload_n 2), (10, .ifCond .lt 25), (13, .iload_n 2), (14, .bipush 48), (16, .if_icmp .ge 19), (19, .aload_n 0), (20, .getfield 28), (23, .iload_n 2), (24, .iaload), (25, .iload_n 1), (26, .invokestatic 299), (29, .invokestatic 102), (32, .goto 4), (35, .iconst (-1)), (36, .ireturn)], ([], zp_0)))
def mc0_carryOne : zv_M := ((RX0, (⟨RX0, "carryOne", "(LBranchedText$State;)I"⟩, (prog_2_method_37_code, (4, (some .int))))), ([(0, .aload_n 1), (1, .getfield 206), (4, .iconst 1), (5, .if_icmp .ne 32), (8, .aload_n 0), (9, .aload_n 1), (10, .invokevirtual 302), (13, .istore_n 2), (14, .aload_n 0), (15, .aload_n 1), (16, .iload_n 2), (17, .invokevirtual 305), (20, .istore_n 3), (21, .iload_n 3), (22, .ifCond .ne 8), (25, .bipush (-10)), (27, .goto 9), (30, .aload_n 0), (31, .iload_n 2), (32, .iload_n 3), (33, .invokevirtual 309), (36, .ireturn), (37, .iconst 0), (38, .istore_n 2), (39, .aload_n 1), (40, .getfield 174), (43, .iconst (-1)), (44, .if_icmp .eq 30), (47, .aload_n 0), (48, .getfield 37), (51, .aload_n 0), (52, .getfield 69), (55, .invokevirtual 123), (58, .aload_n 0), (59, .getfield 37), (62, .aload_n 0), (63, .aload_n 1), (64, .getfield 174), (67, .invokevirtual 312), (70, .invokevirtual 315), (73, .istore_n 2), (74, .iload_n 2), (75, .iconst (-1)), (76, .if_icmp .ne 6), (79, .bipush (-10)), (81, .ireturn), (82, .aload_n 0), (83, .getfield 65), (86, .invokevirtual 318), (89, .iconst 0), (90, .istore_n 3), (91, .iload_n 3), (92, .aload_n 1), (93, .getfield 98), (96, .if_icmp .ge 28), (99, .aload_n 0), (100, .getfield 65), (103, .aload_n 0), (104, .aload_n 1), (105, .getfield 185), (108, .iload_n 3), (109, .invokestatic 102), (112, .invokevirtual 120), (115, .invokevirtual 321), (118, .iinc 3 1), (121, .goto (-30)), (124, .aload_n 0), (125, .iload_n 2), (126, .aload_n 0), (127, .getfield 65), (130, .invokevirtual 323), (133, .ireturn)], ([(74, [true, true, true, false]), (91, [true, true, true, true])], zp_0)))
def mc0_firstTaken : zv_M := ((RX0, (⟨RX0, "firstTaken", "(LBranchedText$State;)I"⟩, (prog_2_method_38_code, (3, (some .int))))), ([(0, .iconst 0), (1, .istore_n 2), (2, .iload_n 2), (3, .aload_n 0), (4, .getfield 69), (7, .getfield 99), (10, .if_icmp .ge 27), (13, .aload_n 0), (14, .aload_n 1), (15, .aload_n 0), (16, .getfield 69), (19, .iload_n 2), (20, .invokevirtual 117), (23, .invokevirtual 327), (26, .ifCond .eq 5), (29, .iload_n 2), (30, .ireturn), (31, .iinc 2 1), (34, .goto (-32)), (37, .iconst (-1)), (38, .ireturn)], ([(2, [true, true, true])], zp_0)))
def mc0_takenFrom : zv_M := ((RX0, (⟨RX0, "takenFrom", "(LBranchedText$State;I)I"⟩, (prog_2_method_39_code, (5, (some .int))))), ([(0, .iconst 0), (1, .istore_n 3), (2, .iload_n 2), (3, .iconst 0), (4, .invokestatic 152), (7, .istore 4), (9, .iload 4), (11, .aload_n 0), (12, .getfield 69), (15, .getfield 99), (18, .if_icmp .ge 39), (21, .aload_n 0), (22, .aload_n 1), (23, .aload_n 0), (24, .getfield 69), (27, .iload 4), (29, .invokevirtual 117), (32, .invokevirtual 327), (35, .ifCond .eq 16), (38, .iload 4), (40, .iload_n 2), (41, .iload_n 3), (42, .iadd), (43, .if_icmp .eq 5), (46, .iconst 0), (47, .ireturn), (48, .iinc 3 1), (51, .iinc 4 1), (54, .goto (-45)), (57, .iload_n 3), (58, .ireturn)], ([(9, [true, true, true, true, true])], zp_0)))
def mc0_takes : zv_M := ((RX0, (⟨RX0, "takes", "(LBranchedText$State;I)Z"⟩, (prog_2_method_40_code, (4, (some .boolean))))), ([(0, .iconst 0), (1, .istore_n 3), (2, .iload_n 3), (3, .aload_n 1), (4, .getfield 98), (7, .if_icmp .ge 29), (10, .iload_n 2), (11, .iconst (-1)), (12, .if_icmp .eq 18), (15, .aload_n 0), (16, .aload_n 1), (17, .iload_n 3), (18, .invokevirtual 331), (21, .invokevirtual 312), (24, .iload_n 2), (25, .if_icmp .ne 5), (28, .iconst 1), (29, .ireturn), (30, .iinc 3 1), (33, .goto (-31)), (36, .iconst 0), (37, .ireturn)], ([(2, [true, true, true, true])], zp_0)))
def mc0_mergeIn : zv_M := ((RX0, (⟨RX0, "mergeIn", "(I)I"⟩, (prog_2_method_41_code, (11, (some .int))))), ([(0, .aload_n 0), (1, .iload_n 1), (2, .invokevirtual 127), (5, .astore_n 2), (6, .aload_n 2), (7, .ifnonnull 6), (10, .bipush (-2)), (12, .ireturn), (13, .aload_n 2), (14, .aload_n 0), (15, .getfield 69), (18, .invokestatic 289), (21, .ifCond .eq 6), (24, .bipush (-4)), (26, .ireturn), (27, .aload_n 0), (28, .getfield 37), (31, .aload_n 0), (32, .getfield 69), (35, .invokevirtual 334), (38, .aload_n 0), (39, .getfield 37), (42, .getfield 244), (45, .lstore_n 3), (46, .aload_n 0), (47, .getfield 37), (50, .aload_n 2), (51, .invokevirtual 334), (54, .aload_n 0), (55, .getfield 37), (58, .getfield 251), (61, .lload_n 3), (62, .ldc2_w 258), (65, .lxor), (66, .land), (67, .lstore 5), (69, .aload_n 0), (70, .invokevirtual 292), (73, .aload_n 0), (74, .iconst 0), (75, .putfield 337), (78, .iconst 0), (79, .istore 7), (81, .iconst 1), (82, .istore 8), (84, .iload 8), (86, .aload_n 2), (87, .getfield 157), (90, .if_icmp .gt 86), (93, .aload_n 2), (94, .iload 8), (96, .invokestatic 340), (99, .astore 9), (101, .aload 9), (103, .ifnull 67), (106, .lload 5), (108, .aload 9), (110, .invokevirtual 247), (113, .land), (114, .lconst 0), (115, .lcmp), (116, .ifCond .eq 54), (119, .aload_n 0), (120, .aload 9), (122, .invokevirtual 295), (125, .istore 10), (127, .iload 10), (129, .ifCond .lt 31), (132, .aload 9), (134, .getfield 185), (137, .bipush 48), (139, .if_icmp .ge 21), (142, .aload_n 0), (143, .getfield 28), (146, .aload 9), (148, .getfield 185), (151, .iload 10), (153, .iastore), (154, .iinc 7 1), (157, .goto 13), (160, .aload_n 0), (161, .dup), (162, .getfield 337), (165, .iconst 1), (166, .iadd), (167, .putfield 337), (170, .iinc 8 1), (173, .goto (-89)), (176, .iload 7), (178, .ireturn)], ([(84, [true, false, true, false, false, true, false, true, true, false, false])], zp_0)))
def mc0_mergeOnPaper : zv_M := ((RX0, (⟨RX0, "mergeOnPaper", "(II)I"⟩, (prog_2_method_42_code, (8, (some .int))))), ([(0, .aload_n 0), (1, .getfield 69), (4, .astore_n 3), (5, .aload_n 0), (6, .getfield 51), (9, .invokevirtual 343), (12, .aload_n 0), (13, .iload_n 1), (14, .invokevirtual 346), (17, .istore 4), (19, .iload 4), (21, .ifCond .ge 6), (24, .iload 4), (26, .ireturn), (27, .iload_n 2), (28, .ifCond .ne 8), (31, .iload 4), (33, .goto 22), (36, .iload_n 2), (37, .iconst 1), (38, .if_icmp .ne 10), (41, .aload_n 0), (42, .getfield 337), (45, .goto 10), (48, .aload_n 0), (49, .getfield 69), (52, .getfield 99), (55, .istore 5), (57, .iconst 0), (58, .istore 6), (60, .iload 6), (62, .iload 4), (64, .if_icmp .ge 48), (67, .aload_n 0), (68, .getfield 69), (71, .aload_n 3), (72, .if_acmp .eq 40), (75, .aload_n 0), (76, .getfield 69), (79, .getfield 136), (82, .ifnull 30), (85, .aload_n 0), (86, .getfield 69), (89, .astore 7), (91, .aload_n 0), (92, .aload 7), (94, .getfield 136), (97, .putfield 69), (100, .aload_n 0), (101, .aload 7), (103, .invokevirtual 349), (106, .iinc 6 1), (109, .goto (-49)), (112, .aload_n 0), (113, .getfield 51), (116, .invokevirtual 352), (119, .iload 5), (121, .ireturn)], ([(60, [true, false, false, true, true, true, true, false]), (112, [true, false, false, false, false, true, false, false])], zp_0)))
def mc0_remove : zv_M := ((RX0, (⟨RX0, "remove", "(LBranchedText$State;)V"⟩, (prog_2_method_43_code, (2, none)))), ([(0, .aload_n 1), (1, .iconst 0), (2, .putfield 79), (5, .aload_n 1), (6, .getfield 136), (9, .ifnull 16), (12, .aload_n 1), (13, .getfield 136), (16, .dup), (17, .getfield 130), (20, .iconst 1), (21, .isub), (22, .putfield 130), (25, .aload_n 1), (26, .aconst_null), (27, .putfield 136), (30, .aload_n 0), (31, .getfield 51), (34, .aload_n 1), (35, .getfield 185), (38, .invokevirtual 355), (41, .aload_n 0), (42, .dup), (43, .getfield 87), (46, .iconst 1), (47, .isub), (48, .putfield 87), (51, .return_)], ([(25, [true, true])], zp_0)))
def mc0_nextToGo : zv_M := ((RX0, (⟨RX0, "nextToGo", "()LBranchedText$State;"⟩, (prog_2_method_44_code, (4, (some (.object "BranchedText$State")))))), ([(0, .aconst_null), (1, .astore_n 1), (2, .iconst 1), (3, .istore_n 2), (4, .iload_n 2), (5, .bipush 48), (7, .if_icmp .ge 62), (10, .aload_n 0), (11, .iload_n 2), (12, .invokevirtual 127), (15, .astore_n 3), (16, .aload_n 3), (17, .ifnull 46), (20, .aload_n 3), (21, .aload_n 0), (22, .getfield 69), (25, .if_acmp .eq 38), (28, .aload_n 3), (29, .getfield 130), (32, .ifCond .ne 31), (35, .aload_n 0), (36, .getfield 44), (39, .iload_n 2), (40, .invokevirtual 358), (43, .ifCond .ne 20), (46, .aload_n 1), (47, .ifnull 14), (50, .aload_n 3), (51, .getfield 149), (54, .aload_n 1), (55, .getfield 149), (58, .if_icmp .ge 5), (61, .aload_n 3), (62, .astore_n 1), (63, .iinc 2 1), (66, .goto (-62)), (69, .aload_n 1), (70, .areturn)], ([(4, [true, true, true, false])], zp_0)))
def mc0_pruneTo : zv_M := ((RX0, (⟨RX0, "pruneTo", "(I)I"⟩, (prog_2_method_45_code, (4, (some .int))))), ([(0, .iload_n 1), (1, .iconst 1), (2, .bipush 48), (4, .invokestatic 192), (7, .ifCond .ne 5), (10, .iconst (-1)), (11, .ireturn), (12, .iconst 0), (13, .istore_n 2), (14, .aload_n 0), (15, .getfield 87), (18, .iload_n 1), (19, .if_icmp .le 31), (22, .iload_n 2), (23, .bipush 48), (25, .if_icmp .ge 25), (28, .aload_n 0), (29, .invokevirtual 361), (32, .astore_n 3), (33, .aload_n 3), (34, .ifnonnull 5), (37, .iload_n 2), (38, .ireturn), (39, .aload_n 0), (40, .aload_n 3), (41, .invokevirtual 349), (44, .iinc 2 1), (47, .goto (-33)), (50, .iload_n 2), (51, .ireturn)], ([(14, [true, true, true, false])], zp_0)))
def mc0_nearest : zv_M := ((RX0, (⟨RX0, "nearest", "(LBranchedText$State;LBranchedText$State;)LBranchedText$State;"⟩, (prog_2_method_46_code, (3, (some (.object "BranchedText$State")))))), ([(0, .aload_n 0), (1, .astore_n 2), (2, .aload_n 2), (3, .getfield 136), (6, .ifnull 19), (9, .aload_n 2), (10, .aload_n 1), (11, .invokestatic 289), (14, .ifCond .ne 11), (17, .aload_n 2), (18, .getfield 136), (21, .astore_n 2), (22, .goto (-20)), (25, .aload_n 2), (26, .areturn)], ([(2, [false, true, true])], zp_0)))
def mc0_wayLength : zv_M := ((RX0, (⟨RX0, "wayLength", "(LBranchedText$State;LBranchedText$State;)I"⟩, (prog_2_method_47_code, (2, (some .int))))), ([(0, .aload_n 0), (1, .getfield 157), (4, .aload_n 1), (5, .getfield 157), (8, .iadd), (9, .iconst 2), (10, .aload_n 0), (11, .aload_n 1), (12, .invokestatic 365), (15, .getfield 157), (18, .imul), (19, .isub), (20, .ireturn)], ([], zp_0)))
def mc0_onWay : zv_M := ((RX0, (⟨RX0, "onWay", "(LBranchedText$State;LBranchedText$State;I)LBranchedText$State;"⟩, (prog_2_method_48_code, (5, (some (.object "BranchedText$State")))))), ([(0, .aload_n 0), (1, .getfield 157), (4, .aload_n 0), (5, .aload_n 1), (6, .invokestatic 365), (9, .getfield 157), (12, .isub), (13, .istore_n 3), (14, .aload_n 0), (15, .aload_n 1), (16, .invokestatic 228), (19, .istore 4), (21, .iload_n 2), (22, .ifCond .lt 9), (25, .iload_n 2), (26, .iload 4), (28, .if_icmp .le 5), (31, .aconst_null), (32, .areturn), (33, .iload_n 2), (34, .iload_n 3), (35, .if_icmp .gt 16), (38, .aload_n 0), (39, .aload_n 0), (40, .getfield 157), (43, .iload_n 2), (44, .isub), (45, .invokestatic 340), (48, .goto 16), (51, .aload_n 1), (52, .aload_n 1), (53, .getfield 157), (56, .iload 4), (58, .iload_n 2), (59, .isub), (60, .isub), (61, .invokestatic 340), (64, .areturn)], ([], zp_0)))
def mc0_keptOf : zv_M := ((RX0, (⟨RX0, "keptOf", "(LBranchedText$State;LBranchedText$State;)I"⟩, (prog_2_method_49_code, (6, (some .int))))), ([(0, .iconst 0), (1, .istore_n 3), (2, .iconst 0), (3, .istore 4), (5, .iload 4), (7, .aload_n 1), (8, .getfield 99), (11, .if_icmp .ge 50), (14, .iconst 0), (15, .istore 5), (17, .iload 5), (19, .aload_n 2), (20, .getfield 99), (23, .if_icmp .ge 32), (26, .iload_n 3), (27, .aload_n 1), (28, .iload 4), (30, .invokevirtual 117), (33, .aload_n 2), (34, .iload 5), (36, .invokevirtual 117), (39, .if_icmp .ne 7), (42, .iconst 1), (43, .goto 4), (46, .iconst 0), (47, .iadd), (48, .istore_n 3), (49, .iinc 5 1), (52, .goto (-35)), (55, .iinc 4 1), (58, .goto (-53)), (61, .iload_n 3), (62, .ireturn)], ([(5, [false, true, true, true, true, false]), (17, [false, true, true, true, true, true])], zp_0)))
def mc0_firstDifference : zv_M := ((RX0, (⟨RX0, "firstDifference", "(LBranchedText$State;LBranchedText$State;)I"⟩, (prog_2_method_50_code, (5, (some .int))))), ([(0, .aload_n 1), (1, .getfield 99), (4, .aload_n 2), (5, .getfield 99), (8, .invokestatic 152), (11, .istore_n 3), (12, .iconst 0), (13, .istore 4), (15, .iload 4), (17, .iload_n 3), (18, .if_icmp .ge 29), (21, .aload_n 0), (22, .aload_n 1), (23, .iload 4), (25, .invokevirtual 369), (28, .aload_n 0), (29, .aload_n 2), (30, .iload 4), (32, .invokevirtual 369), (35, .if_icmp .eq 6), (38, .iload 4), (40, .ireturn), (41, .iinc 4 1), (44, .goto (-29)), (47, .iconst (-1)), (48, .ireturn)], ([(15, [true, true, true, true, true])], zp_0)))
def mc0_longestCommon : zv_M := ((RX0, (⟨RX0, "longestCommon", "(LBranchedText$State;LBranchedText$State;)I"⟩, (prog_2_method_51_code, (9, (some .int))))), ([(0, .iconst 0), (1, .istore_n 3), (2, .iload_n 3), (3, .bipush 120), (5, .if_icmp .gt 16), (8, .aload_n 0), (9, .getfield 31), (12, .iload_n 3), (13, .iconst 0), (14, .iastore), (15, .iinc 3 1), (18, .goto (-16)), (21, .aload_n 2), (22, .getfield 99), (25, .bipush 120), (27, .invokestatic 372), (30, .istore_n 3), (31, .iconst 0), (32, .istore 4), (34, .iload 4), (36, .aload_n 1), (37, .getfield 99), (40, .if_icmp .ge 91), (43, .aload_n 0), (44, .aload_n 1), (45, .iload 4), (47, .invokevirtual 369), (50, .istore 5), (52, .iconst 0), (53, .istore 6), (55, .iconst 1), (56, .istore 7), (58, .iload 7), (60, .iload_n 3), (61, .if_icmp .gt 64), (64, .aload_n 0), (65, .getfield 31), (68, .iload 7), (70, .iaload), (71, .istore 8), (73, .aload_n 0), (74, .getfield 31), (77, .iload 7), (79, .iload 5), (81, .aload_n 0), (82, .aload_n 2), (83, .iload 7), (85, .iconst 1), (86, .isub), (87, .invokevirtual 369), (90, .if_icmp .ne 10), (93, .iload 6), (95, .iconst 1), (96, .iadd), (97, .goto 17), (100, .iload 8), (102, .aload_n 0), (103, .getfield 31), (106, .iload 7), (108, .iconst 1), (109, .isub), (110, .iaload), (111, .invokestatic 152), (114, .iastore), (115, .iload 8), (117, .istore 6), (119, .iinc 7 1), (122, .goto (-64)), (125, .iinc 4 1), (128, .goto (-94)), (131, .aload_n 0), (132, .getfield 31), (135, .iload_n 3), (136, .iconst 0), (137, .invokestatic 152), (140, .iaload), (141, .ireturn)], ([(2, [true, true, true, true, false, false, false, false, false]), (34, [true, true, true, true, true, false, false, false, false]), (58, [true, true, true, true, true, true, true, true, false])], zp_0)))
def mc0_placeIn : zv_M := ((RX0, (⟨RX0, "placeIn", "(LBranchedText$State;LBranchedText$Word;)I"⟩, (prog_2_method_52_code, (5, (some .int))))), ([(0, .iconst 0), (1, .istore_n 3), (2, .iload_n 3), (3, .aload_n 2), (4, .getfield 97), (7, .iadd), (8, .aload_n 1), (9, .getfield 99), (12, .if_icmp .gt 56), (15, .iconst 0), (16, .istore 4), (18, .iload 4), (20, .aload_n 2), (21, .getfield 97), (24, .if_icmp .ge 27), (27, .aload_n 0), (28, .aload_n 1), (29, .iload_n 3), (30, .iload 4), (32, .iadd), (33, .invokevirtual 369), (36, .aload_n 2), (37, .iload 4), (39, .invokevirtual 106), (42, .if_icmp .ne 9), (45, .iinc 4 1), (48, .goto (-30)), (51, .iload 4), (53, .aload_n 2), (54, .getfield 97), (57, .if_icmp .ne 5), (60, .iload_n 3), (61, .ireturn), (62, .iinc 3 1), (65, .goto (-63)), (68, .iconst (-1)), (69, .ireturn)], ([(2, [true, true, true, true, false]), (18, [true, true, true, true, true]), (51, [true, true, true, true, true])], zp_0)))
def mc0_leastWith : zv_M := ((RX0, (⟨RX0, "leastWith", "(LBranchedText$Word;)I"⟩, (prog_2_method_53_code, (4, (some .int))))), ([(0, .iconst 0), (1, .istore_n 2), (2, .iload_n 2), (3, .bipush 48), (5, .if_icmp .ge 31), (8, .aload_n 0), (9, .iload_n 2), (10, .invokevirtual 127), (13, .astore_n 3), (14, .aload_n 3), (15, .ifnull 15), (18, .aload_n 0), (19, .aload_n 3), (20, .aload_n 1), (21, .invokevirtual 375), (24, .iconst (-1)), (25, .if_icmp .eq 5), (28, .iload_n 2), (29, .ireturn), (30, .iinc 2 1), (33, .goto (-31)), (36, .iconst (-1)), (37, .ireturn)], ([(2, [true, true, true, false])], zp_0)))
def mc0_statesWith : zv_M := ((RX0, (⟨RX0, "statesWith", "(LBranchedText$Word;)I"⟩, (prog_2_method_54_code, (5, (some .int))))), ([(0, .iconst 0), (1, .istore_n 2), (2, .iconst 0), (3, .istore_n 3), (4, .iload_n 3), (5, .bipush 48), (7, .if_icmp .ge 40), (10, .aload_n 0), (11, .iload_n 3), (12, .invokevirtual 127), (15, .astore 4), (17, .iload_n 2), (18, .aload 4), (20, .ifnull 18), (23, .aload_n 0), (24, .aload 4), (26, .aload_n 1), (27, .invokevirtual 375), (30, .iconst (-1)), (31, .if_icmp .eq 7), (34, .iconst 1), (35, .goto 4), (38, .iconst 0), (39, .iadd), (40, .istore_n 2), (41, .iinc 3 1), (44, .goto (-40)), (47, .iload_n 2), (48, .ireturn)], ([(4, [true, true, true, true, false])], zp_0)))
def mc0_twinOf : zv_M := ((RX0, (⟨RX0, "twinOf", "(LBranchedText$State;)I"⟩, (prog_2_method_55_code, (4, (some .int))))), ([(0, .iconst 0), (1, .istore_n 2), (2, .iload_n 2), (3, .bipush 48), (5, .if_icmp .ge 36), (8, .aload_n 0), (9, .iload_n 2), (10, .invokevirtual 127), (13, .astore_n 3), (14, .aload_n 3), (15, .ifnull 20), (18, .aload_n 3), (19, .aload_n 1), (20, .if_acmp .eq 15), (23, .aload_n 0), (24, .aload_n 1), (25, .aload_n 3), (26, .invokevirtual 379), (29, .iconst (-1)), (30, .if_icmp .ne 5), (33, .iload_n 2), (34, .ireturn), (35, .iinc 2 1), (38, .goto (-36)), (41, .iconst (-1)), (42, .ireturn)], ([(2, [true, true, true, false])], zp_0)))
def mc1_init : zv_M := ((RX1, (⟨RX1, "<init>", "()V"⟩, (prog_3_method_1_code, (1, none)))), ([(0, .aload_n 0), (1, .invokespecial 3), (4, .aload_n 0), (5, .sipush 176), (8, .newarray .int), (10, .putfield 11), (13, .aload_n 0), (14, .sipush 176), (17, .newarray .int), (19, .putfield 15), (22, .aload_n 0), (23, .bipush 6), (25, .newarray .int), (27, .putfield 18), (30, .return_)], ([], zp_1)))
def mc1_clear : zv_M := ((RX1, (⟨RX1, "clear", "()V"⟩, (prog_3_method_2_code, (1, none)))), ([(0, .aload_n 0), (1, .iconst 0), (2, .putfield 21), (5, .return_)], ([], zp_1)))
def mc1_usual : zv_M := ((RX1, (⟨RX1, "usual", "()V"⟩, (prog_3_method_3_code, (1, none)))), ([(0, .aload_n 0), (1, .invokevirtual 25), (4, .aload_n 0), (5, .iconst 0), (6, .iconst 0), (7, .iconst 3), (8, .invokevirtual 28), (11, .aload_n 0), (12, .iconst 3), (13, .iconst 1), (14, .iconst 1), (15, .invokevirtual 28), (18, .aload_n 0), (19, .bipush 19), (21, .iconst 0), (22, .invokevirtual 32), (25, .aload_n 0), (26, .iconst 4), (27, .iconst 1), (28, .iconst 1), (29, .invokevirtual 28), (32, .aload_n 0), (33, .bipush 19), (35, .iconst 0), (36, .invokevirtual 32), (39, .aload_n 0), (40, .iconst 1), (41, .iconst 0), (42, .bipush 8), (44, .invokevirtual 28), (47, .aload_n 0), (48, .bipush 19), (50, .iconst 0), (51, .invokevirtual 32), (54, .return_)], ([], zp_1)))
def mc1_compare : zv_M := ((RX1, (⟨RX1, "compare", "(III)V"⟩, (prog_3_method_4_code, (4, none)))), ([(0, .aload_n 0), (1, .iload_n 1), (2, .iconst 3), (3, .imul), (4, .iload_n 2), (5, .iadd), (6, .iload_n 3), (7, .invokevirtual 32), (10, .return_)], ([], zp_1)))
def mc1_add : zv_M := ((RX1, (⟨RX1, "add", "(II)V"⟩, (prog_3_method_5_code, (3, none)))), ([(0, .aload_n 0), (1, .getfield 21), (4, .ifCond .lt 43), (7, .aload_n 0), (8, .getfield 21), (11, .sipush 176), (14, .if_icmp .ge 33), (17, .aload_n 0), (18, .getfield 11), (21, .aload_n 0), (22, .getfield 21), (25, .iload_n 1), (26, .iastore), (27, .aload_n 0), (28, .getfield 15), (31, .aload_n 0), (32, .getfield 21), (35, .iload_n 2), (36, .iastore), (37, .aload_n 0), (38, .dup), (39, .getfield 21), (42, .iconst 1), (43, .iadd), (44, .putfield 21), (47, .return_)], ([], zp_1)))
def mc1_set : zv_M := ((RX1, (⟨RX1, "set", "(II)V"⟩, (prog_3_method_6_code, (3, none)))), ([(0, .iload_n 1), (1, .ifCond .lt 16), (4, .iload_n 1), (5, .bipush 6), (7, .if_icmp .ge 10), (10, .aload_n 0), (11, .getfield 18), (14, .iload_n 1), (15, .iload_n 2), (16, .iastore), (17, .return_)], ([], zp_1)))
def mc1_holds : zv_M := ((RX1, (⟨RX1, "holds", "()Z"⟩, (prog_3_method_7_code, (9, (some .boolean))))), ([(0, .lconst 0), (1, .lstore_n 1), (2, .iconst 0), (3, .istore_n 3), (4, .iload_n 3), (5, .aload_n 0), (6, .getfield 21), (9, .if_icmp .ge 195), (12, .iload_n 3), (13, .sipush 176), (16, .if_icmp .ge 188), (19, .aload_n 0), (20, .getfield 11), (23, .iload_n 3), (24, .iaload), (25, .istore 4), (27, .iload 4), (29, .bipush 18), (31, .if_icmp .ne 10), (34, .lload_n 1), (35, .lconst 1), (36, .lxor), (37, .lstore_n 1), (38, .goto 160), (41, .iload 4), (43, .bipush 19), (45, .if_icmp .ne 16), (48, .lload_n 1), (49, .iconst 1), (50, .lushr), (51, .lload_n 1), (52, .ldc2_w 36), (55, .lor), (56, .land), (57, .lstore_n 1), (58, .goto 140), (61, .iload 4), (63, .bipush 20), (65, .if_icmp .ne 14), (68, .lload_n 1), (69, .iconst 1), (70, .lushr), (71, .lload_n 1), (72, .lconst 1), (73, .land), (74, .lor), (75, .lstore_n 1), (76, .goto 122), (79, .iload 4), (81, .iconst 3), (82, .idiv), (83, .istore 5), (85, .iload 5), (87, .ifCond .lt 20), (90, .iload 5), (92, .bipush 6), (94, .if_icmp .ge 13), (97, .aload_n 0), (98, .getfield 18), (101, .iload 5), (103, .iaload), (104, .goto 4), (107, .iconst 0), (108, .istore 6), (110, .iload 4), (112, .iconst 3), (113, .irem), (114, .istore 7), (116, .iload 7), (118, .ifCond .ne 22), (121, .iload 6), (123, .aload_n 0), (124, .getfield 15), (127, .iload_n 3), (128, .iaload), (129, .if_icmp .ge 7), (132, .iconst 1), (133, .goto 48), (136, .iconst 0), (137, .goto 44), (140, .iload 7), (142, .iconst 1), (143, .if_icmp .ne 22), (146, .iload 6), (148, .aload_n 0), (149, .getfield 15), (152, .iload_n 3), (153, .iaload), (154, .if_icmp .ne 7), (157, .iconst 1), (158, .goto 23), (161, .iconst 0), (162, .goto 19), (165, .iload 6), (167, .aload_n 0), (168, .getfield 15), (171, .iload_n 3), (172, .iaload), (173, .if_icmp .le 7), (176, .iconst 1), (177, .goto 4), (180, .iconst 0), (181, .istore 8), (183, .lload_n 1), (184, .iconst 1), (185, .lshl), (186, .iload 8), (188, .ifCond .eq 7), (191, .lconst 1), (192, .goto 4), (195, .lconst 0), (196, .lor), (197, .lstore_n 1), (198, .iinc 3 1), (201, .goto (-197)), (204, .lload_n 1), (205, .lconst 1), (206, .land), (207, .lconst 0), (208, .lcmp), (209, .ifCond .eq 7), (212, .iconst 1), (213, .goto 4), (216, .iconst 0), (217, .ireturn)], ([(4, [true, true, false, true, false, false, false, false, false]), (107, [true, true, false, true, true, false, false, false, false]), (108, [true, true, false, true, true, false, false, false, false]), (181, [true, true, false, true, false, false, false, false, false]), (204, [false, true, false, false, false, false, false, false, false])], zp_1)))
def mc2_init : zv_M := ((RX2, (⟨RX2, "<init>", "()V"⟩, (prog_4_method_1_code, (1, none)))), ([(0, .aload_n 0), (1, .invokespecial 3), (4, .aload_n 0), (5, .bipush 12), (7, .newarray .int), (9, .putfield 9), (12, .aload_n 0), (13, .bipush 12), (15, .newarray .int), (17, .putfield 15), (20, .return_)], ([], zp_2)))
def mc2_indexOf : zv_M := ((RX2, (⟨RX2, "indexOf", "(I)I"⟩, (prog_4_method_2_code, (3, (some .int))))), ([(0, .iconst 0), (1, .istore_n 2), (2, .iload_n 2), (3, .aload_n 0), (4, .getfield 18), (7, .if_icmp .ge 27), (10, .iload_n 2), (11, .bipush 12), (13, .if_icmp .ge 21), (16, .aload_n 0), (17, .getfield 9), (20, .iload_n 2), (21, .iaload), (22, .iload_n 1), (23, .if_icmp .ne 5), (26, .iload_n 2), (27, .ireturn), (28, .iinc 2 1), (31, .goto (-29)), (34, .iconst (-1)), (35, .ireturn)], ([(2, [true, true, true])], zp_2)))
def mc2_keyAt : zv_M := ((RX2, (⟨RX2, "keyAt", "(I)I"⟩, (prog_4_method_3_code, (2, (some .int))))), ([(0, .iload_n 1), (1, .ifCond .lt 26), (4, .iload_n 1), (5, .aload_n 0), (6, .getfield 18), (9, .if_icmp .ge 18), (12, .iload_n 1), (13, .bipush 12), (15, .if_icmp .ge 12), (18, .aload_n 0), (19, .getfield 9), (22, .iload_n 1), (23, .iaload), (24, .goto 4), (27, .iconst 0), (28, .ireturn)], ([], zp_2)))
def mc2_ownerAt : zv_M := ((RX2, (⟨RX2, "ownerAt", "(I)I"⟩, (prog_4_method_4_code, (2, (some .int))))), ([(0, .iload_n 1), (1, .ifCond .lt 26), (4, .iload_n 1), (5, .aload_n 0), (6, .getfield 18), (9, .if_icmp .ge 18), (12, .iload_n 1), (13, .bipush 12), (15, .if_icmp .ge 12), (18, .aload_n 0), (19, .getfield 15), (22, .iload_n 1), (23, .iaload), (24, .goto 4), (27, .iconst 0), (28, .ireturn)], ([], zp_2)))
def mc2_countOf : zv_M := ((RX2, (⟨RX2, "countOf", "(I)I"⟩, (prog_4_method_5_code, (4, (some .int))))), ([(0, .iconst 0), (1, .istore_n 2), (2, .iconst 0), (3, .istore_n 3), (4, .iload_n 3), (5, .aload_n 0), (6, .getfield 18), (9, .if_icmp .ge 33), (12, .iload_n 3), (13, .bipush 12), (15, .if_icmp .ge 27), (18, .iload_n 2), (19, .aload_n 0), (20, .getfield 15), (23, .iload_n 3), (24, .iaload), (25, .iload_n 1), (26, .if_icmp .ne 7), (29, .iconst 1), (30, .goto 4), (33, .iconst 0), (34, .iadd), (35, .istore_n 2), (36, .iinc 3 1), (39, .goto (-35)), (42, .iload_n 2), (43, .ireturn)], ([(4, [true, true, true, true])], zp_2)))
def mc2_own : zv_M := ((RX2, (⟨RX2, "own", "(II)V"⟩, (prog_4_method_6_code, (4, none)))), ([(0, .aload_n 0), (1, .iload_n 1), (2, .invokevirtual 22), (5, .istore_n 3), (6, .iload_n 3), (7, .iconst (-1)), (8, .if_icmp .ne 8), (11, .aload_n 0), (12, .getfield 18), (15, .istore_n 3), (16, .iload_n 3), (17, .ifCond .lt 37), (20, .iload_n 3), (21, .bipush 12), (23, .if_icmp .ge 31), (26, .aload_n 0), (27, .getfield 9), (30, .iload_n 3), (31, .iload_n 1), (32, .iastore), (33, .aload_n 0), (34, .getfield 15), (37, .iload_n 3), (38, .iload_n 2), (39, .iastore), (40, .aload_n 0), (41, .aload_n 0), (42, .getfield 18), (45, .iload_n 3), (46, .iconst 1), (47, .iadd), (48, .invokestatic 26), (51, .putfield 18), (54, .return_)], ([(16, [true, true, true, true])], zp_2)))
def mc2_drop : zv_M := ((RX2, (⟨RX2, "drop", "(I)V"⟩, (prog_4_method_7_code, (3, none)))), ([(0, .iload_n 1), (1, .iconst 0), (2, .invokestatic 26), (5, .istore_n 2), (6, .iload_n 2), (7, .iconst 1), (8, .iadd), (9, .aload_n 0), (10, .getfield 18), (13, .if_icmp .ge 45), (16, .iload_n 2), (17, .iconst 1), (18, .iadd), (19, .bipush 12), (21, .if_icmp .ge 37), (24, .aload_n 0), (25, .getfield 9), (28, .iload_n 2), (29, .aload_n 0), (30, .getfield 9), (33, .iload_n 2), (34, .iconst 1), (35, .iadd), (36, .iaload), (37, .iastore), (38, .aload_n 0), (39, .getfield 15), (42, .iload_n 2), (43, .aload_n 0), (44, .getfield 15), (47, .iload_n 2), (48, .iconst 1), (49, .iadd), (50, .iaload), (51, .iastore), (52, .iinc 2 1), (55, .goto (-49)), (58, .aload_n 0), (59, .aload_n 0), (60, .getfield 18), (63, .iconst 1), (64, .isub), (65, .iconst 0), (66, .invokestatic 26), (69, .putfield 18), (72, .return_)], ([(6, [true, false, true]), (58, [true, false, false])], zp_2)))
def mc3_init : zv_M := ((RX3, (⟨RX3, "<init>", "()V"⟩, (prog_5_method_1_code, (1, none)))), ([(0, .aload_n 0), (1, .invokespecial 3), (4, .aload_n 0), (5, .sipush 700), (8, .newarray .int), (10, .putfield 9), (13, .aload_n 0), (14, .new 15), (17, .dup), (18, .invokespecial 17), (21, .putfield 18), (24, .return_)], ([], zp_3)))
def mc3_addByte : zv_M := ((RX3, (⟨RX3, "addByte", "(I)V"⟩, (prog_5_method_2_code, (2, none)))), ([(0, .aload_n 0), (1, .getfield 22), (4, .ifCond .lt 33), (7, .aload_n 0), (8, .getfield 22), (11, .sipush 700), (14, .if_icmp .ge 23), (17, .aload_n 0), (18, .getfield 9), (21, .aload_n 0), (22, .getfield 22), (25, .iload_n 1), (26, .iastore), (27, .aload_n 0), (28, .dup), (29, .getfield 22), (32, .iconst 1), (33, .iadd), (34, .putfield 22), (37, .return_)], ([], zp_3)))
def mc3_byteAt : zv_M := ((RX3, (⟨RX3, "byteAt", "(I)I"⟩, (prog_5_method_3_code, (2, (some .int))))), ([(0, .iload_n 1), (1, .ifCond .lt 27), (4, .iload_n 1), (5, .aload_n 0), (6, .getfield 26), (9, .if_icmp .ge 19), (12, .iload_n 1), (13, .sipush 700), (16, .if_icmp .ge 12), (19, .aload_n 0), (20, .getfield 9), (23, .iload_n 1), (24, .iaload), (25, .goto 4), (28, .iconst (-1)), (29, .ireturn)], ([], zp_3)))
def mc3_fail : zv_M := ((RX3, (⟨RX3, "fail", "(I)Z"⟩, (prog_5_method_4_code, (2, (some .boolean))))), ([(0, .aload_n 0), (1, .iload_n 1), (2, .putfield 29), (5, .aload_n 0), (6, .aload_n 0), (7, .getfield 32), (10, .putfield 35), (13, .iconst 0), (14, .ireturn)], ([], zp_3)))
def mc3_more : zv_M := ((RX3, (⟨RX3, "more", "()Z"⟩, (prog_5_method_5_code, (1, (some .boolean))))), ([(0, .aload_n 0), (1, .getfield 29), (4, .ifCond .ne 14), (7, .aload_n 0), (8, .getfield 38), (11, .ifCond .eq 7), (14, .iconst 1), (15, .goto 4), (18, .iconst 0), (19, .ireturn)], ([], zp_3)))
def mc3_begin : zv_M := ((RX3, (⟨RX3, "begin", "(I)V"⟩, (prog_5_method_6_code, (2, none)))), ([(0, .aload_n 0), (1, .iload_n 1), (2, .aload_n 0), (3, .getfield 22), (6, .invokestatic 41), (9, .putfield 26), (12, .aload_n 0), (13, .iconst 0), (14, .putfield 22), (17, .aload_n 0), (18, .iconst 0), (19, .putfield 29), (22, .aload_n 0), (23, .iconst (-1)), (24, .putfield 35), (27, .aload_n 0), (28, .iconst 0), (29, .putfield 47), (32, .aload_n 0), (33, .invokevirtual 50), (36, .pop), (37, .return_)], ([], zp_3)))
def mc3_next : zv_M := ((RX3, (⟨RX3, "next", "()Z"⟩, (prog_5_method_7_code, (1, (some .boolean))))), ([(0, .aload_n 0), (1, .aload_n 0), (2, .getfield 47), (5, .putfield 32), (8, .aload_n 0), (9, .getfield 32), (12, .aload_n 0), (13, .getfield 26), (16, .if_icmp .ge 42), (19, .aload_n 0), (20, .aload_n 0), (21, .getfield 32), (24, .invokevirtual 54), (27, .bipush 32), (29, .if_icmp .eq 16), (32, .aload_n 0), (33, .aload_n 0), (34, .getfield 32), (37, .invokevirtual 54), (40, .bipush 10), (42, .if_icmp .ne 16), (45, .aload_n 0), (46, .dup), (47, .getfield 32), (50, .iconst 1), (51, .iadd), (52, .putfield 32), (55, .goto (-47)), (58, .aload_n 0), (59, .aload_n 0), (60, .getfield 32), (63, .putfield 47), (66, .aload_n 0), (67, .aload_n 0), (68, .aload_n 0), (69, .getfield 32), (72, .invokevirtual 54), (75, .putfield 58), (78, .aload_n 0), (79, .getfield 58), (82, .iconst (-1)), (83, .if_icmp .ne 10), (86, .aload_n 0), (87, .iconst 0), (88, .putfield 38), (91, .iconst 1), (92, .ireturn), (93, .aload_n 0), (94, .getfield 58), (97, .invokestatic 61), (100, .ifCond .eq 48), (103, .aload_n 0), (104, .iconst 1), (105, .putfield 38), (108, .aload_n 0), (109, .getfield 47), (112, .aload_n 0), (113, .getfield 26), (116, .if_icmp .ge 30), (119, .aload_n 0), (120, .aload_n 0), (121, .getfield 47), (124, .invokevirtual 54), (127, .invokestatic 61), (130, .ifCond .eq 16), (133, .aload_n 0), (134, .dup), (135, .getfield 47), (138, .iconst 1), (139, .iadd), (140, .putfield 47), (143, .goto (-35)), (146, .iconst 1), (147, .ireturn), (148, .aload_n 0), (149, .getfield 58), (152, .invokestatic 65), (155, .ifCond .eq 114), (158, .aload_n 0), (159, .iconst 2), (160, .putfield 38), (163, .aload_n 0), (164, .iconst 0), (165, .putfield 58), (168, .aload_n 0), (169, .getfield 47), (172, .aload_n 0), (173, .getfield 26), (176, .if_icmp .ge 66), (179, .aload_n 0), (180, .getfield 47), (183, .aload_n 0), (184, .getfield 32), (187, .isub), (188, .iconst 3), (189, .if_icmp .gt 53), (192, .aload_n 0), (193, .aload_n 0), (194, .getfield 47), (197, .invokevirtual 54), (200, .invokestatic 65), (203, .ifCond .eq 39), (206, .aload_n 0), (207, .aload_n 0), (208, .getfield 58), (211, .bipush 10), (213, .imul), (214, .aload_n 0), (215, .aload_n 0), (216, .getfield 47), (219, .invokevirtual 54), (222, .iadd), (223, .bipush 48), (225, .isub), (226, .putfield 58), (229, .aload_n 0), (230, .dup), (231, .getfield 47), (234, .iconst 1), (235, .iadd), (236, .putfield 47), (239, .goto (-71)), (242, .aload_n 0), (243, .getfield 47), (246, .aload_n 0), (247, .getfield 32), (250, .isub), (251, .iconst 3), (252, .if_icmp .le 11), (255, .aload_n 0), (256, .iconst 1), (257, .invokevirtual 68), (260, .ifCond .eq 7), (263, .iconst 1), (264, .goto 4), (267, .iconst 0), (268, .ireturn), (269, .aload_n 0), (270, .iconst 3), (271, .putfield 38), (274, .aload_n 0), (275, .dup), (276, .getfield 47), (279, .iconst 1), (280, .iadd), (281, .putfield 47), (284, .aload_n 0), (285, .getfield 58), (288, .bipush 59), (290, .if_icmp .lt 12), (293, .aload_n 0), (294, .getfield 58), (297, .bipush 62), (299, .if_icmp .le 29), (302, .aload_n 0), (303, .getfield 58), (306, .bipush 91), (308, .if_icmp .eq 20), (311, .aload_n 0), (312, .getfield 58), (315, .bipush 93), (317, .if_icmp .eq 11), (320, .aload_n 0), (321, .iconst 1), (322, .invokevirtual 68), (325, .ifCond .eq 7), (328, .iconst 1), (329, .goto 4), (332, .iconst 0), (333, .ireturn)], ([(8, [true]), (58, [true]), (108, [true]), (168, [true]), (242, [true]), (302, [true])], zp_3)))
def mc3_isSmall : zv_M := ((RX3, (⟨RX3, "isSmall", "(I)Z"⟩, (prog_5_method_8_code, (1, (some .boolean))))), ([(0, .iload_n 0), (1, .bipush 97), (3, .if_icmp .lt 13), (6, .iload_n 0), (7, .bipush 122), (9, .if_icmp .gt 7), (12, .iconst 1), (13, .goto 4), (16, .iconst 0), (17, .ireturn)], ([], zp_3)))
def mc3_isDigit : zv_M := ((RX3, (⟨RX3, "isDigit", "(I)Z"⟩, (prog_5_method_9_code, (1, (some .boolean))))), ([(0, .iload_n 0), (1, .bipush 48), (3, .if_icmp .lt 13), (6, .iload_n 0), (7, .bipush 57), (9, .if_icmp .gt 7), (12, .iconst 1), (13, .goto 4), (16, .iconst 0), (17, .ireturn)], ([], zp_3)))
def mc3_is : zv_M := ((RX3, (⟨RX3, "is", "(Ljava/lang/String;)Z"⟩, (prog_5_method_10_code, (3, (some .boolean))))), ([(0, .aload_n 0), (1, .getfield 38), (4, .iconst 1), (5, .if_icmp .ne 19), (8, .aload_n 0), (9, .getfield 47), (12, .aload_n 0), (13, .getfield 32), (16, .isub), (17, .aload_n 1), (18, .invokevirtual 71), (21, .if_icmp .eq 5), (24, .iconst 0), (25, .ireturn), (26, .iconst 0), (27, .istore_n 2), (28, .iload_n 2), (29, .aload_n 1), (30, .invokevirtual 71), (33, .if_icmp .ge 29), (36, .aload_n 0), (37, .aload_n 0), (38, .getfield 32), (41, .iload_n 2), (42, .iadd), (43, .invokevirtual 54), (46, .aload_n 1), (47, .iload_n 2), (48, .invokevirtual 76), (51, .if_icmp .eq 5), (54, .iconst 0), (55, .ireturn), (56, .iinc 2 1), (59, .goto (-31)), (62, .iconst 1), (63, .ireturn)], ([(28, [true, true, true])], zp_3)))
def mc3_isSign : zv_M := ((RX3, (⟨RX3, "isSign", "(I)Z"⟩, (prog_5_method_11_code, (2, (some .boolean))))), ([(0, .aload_n 0), (1, .getfield 38), (4, .iconst 3), (5, .if_icmp .ne 15), (8, .aload_n 0), (9, .getfield 58), (12, .iload_n 1), (13, .if_icmp .ne 7), (16, .iconst 1), (17, .goto 4), (20, .iconst 0), (21, .ireturn)], ([], zp_3)))
def mc3_head : zv_M := ((RX3, (⟨RX3, "head", "(LBranchedText$History;)V"⟩, (prog_5_method_12_code, (2, none)))), ([(0, .aload_n 0), (1, .getfield 29), (4, .ifCond .ne 48), (7, .aload_n 0), (8, .ldc 80), (10, .invokevirtual 82), (13, .ifCond .eq 39), (16, .aload_n 0), (17, .invokevirtual 50), (20, .ifCond .eq 32), (23, .aload_n 0), (24, .bipush 40), (26, .invokevirtual 86), (29, .ifCond .eq 23), (32, .aload_n 0), (33, .invokevirtual 89), (36, .ifCond .eq 16), (39, .aload_n 1), (40, .aload_n 0), (41, .getfield 18), (44, .invokevirtual 92), (47, .aload_n 0), (48, .invokevirtual 50), (51, .pop), (52, .aload_n 0), (53, .getfield 29), (56, .ifCond .ne 50), (59, .aload_n 0), (60, .ldc 98), (62, .invokevirtual 82), (65, .ifCond .eq 41), (68, .aload_n 0), (69, .invokevirtual 50), (72, .ifCond .eq 34), (75, .aload_n 1), (76, .getfield 100), (79, .invokevirtual 103), (82, .aload_n 0), (83, .aload_n 1), (84, .getfield 100), (87, .iconst 0), (88, .invokevirtual 108), (91, .ifCond .eq 15), (94, .aload_n 0), (95, .invokevirtual 89), (98, .ifCond .eq 8), (101, .aload_n 0), (102, .invokevirtual 50), (105, .pop), (106, .return_)], ([(52, [true, true])], zp_3)))
def mc3_closed : zv_M := ((RX3, (⟨RX3, "closed", "()Z"⟩, (prog_5_method_13_code, (1, (some .boolean))))), ([(0, .aload_n 0), (1, .bipush 59), (3, .invokevirtual 112), (6, .ifCond .ne 11), (9, .aload_n 0), (10, .iconst 2), (11, .invokevirtual 68), (14, .ifCond .eq 7), (17, .iconst 1), (18, .goto 4), (21, .iconst 0), (22, .ireturn)], ([], zp_3)))
def mc3_spelled : zv_M := ((RX3, (⟨RX3, "spelled", "(I)Z"⟩, (prog_5_method_14_code, (3, (some .boolean))))), ([(0, .aload_n 0), (1, .getfield 38), (4, .iconst 1), (5, .if_icmp .eq 9), (8, .aload_n 0), (9, .iconst 2), (10, .invokevirtual 68), (13, .ireturn), (14, .aload_n 0), (15, .getfield 47), (18, .aload_n 0), (19, .getfield 32), (22, .isub), (23, .iload_n 1), (24, .if_icmp .le 9), (27, .aload_n 0), (28, .iconst 4), (29, .invokevirtual 68), (32, .ireturn), (33, .aload_n 0), (34, .getfield 18), (37, .invokevirtual 115), (40, .aload_n 0), (41, .getfield 32), (44, .istore_n 2), (45, .iload_n 2), (46, .aload_n 0), (47, .getfield 47), (50, .if_icmp .ge 24), (53, .aload_n 0), (54, .getfield 18), (57, .aload_n 0), (58, .iload_n 2), (59, .invokevirtual 54), (62, .bipush 97), (64, .isub), (65, .invokevirtual 116), (68, .iinc 2 1), (71, .goto (-26)), (74, .aload_n 0), (75, .invokevirtual 50), (78, .ireturn)], ([(45, [true, false, true])], zp_3)))
def mc3_test : zv_M := ((RX3, (⟨RX3, "test", "(LBranchedText$JoinTest;I)Z"⟩, (prog_5_method_15_code, (5, (some .boolean))))), ([(0, .aload_n 0), (1, .aload_n 1), (2, .iload_n 2), (3, .invokevirtual 120), (6, .istore_n 3), (7, .iconst 0), (8, .istore 4), (10, .iload 4), (12, .sipush 700), (15, .if_icmp .ge 51), (18, .iload_n 3), (19, .ifCond .eq 47), (22, .aload_n 0), (23, .ldc 123), (25, .invokevirtual 82), (28, .ifCond .eq 38), (31, .aload_n 0), (32, .invokevirtual 50), (35, .ifCond .eq 16), (38, .aload_n 0), (39, .aload_n 1), (40, .iload_n 2), (41, .invokevirtual 120), (44, .ifCond .eq 7), (47, .iconst 1), (48, .goto 4), (51, .iconst 0), (52, .istore_n 3), (53, .aload_n 1), (54, .bipush 20), (56, .iconst 0), (57, .invokevirtual 125), (60, .iinc 4 1), (63, .goto (-53)), (66, .iload_n 3), (67, .ireturn)], ([(10, [true, true, true, true, true]), (51, [true, true, true, false, true]), (52, [true, true, true, false, true])], zp_3)))
def mc3_side : zv_M := ((RX3, (⟨RX3, "side", "(LBranchedText$JoinTest;I)Z"⟩, (prog_5_method_16_code, (5, (some .boolean))))), ([(0, .aload_n 0), (1, .aload_n 1), (2, .iload_n 2), (3, .invokevirtual 128), (6, .istore_n 3), (7, .iconst 0), (8, .istore 4), (10, .iload 4), (12, .sipush 700), (15, .if_icmp .ge 51), (18, .iload_n 3), (19, .ifCond .eq 47), (22, .aload_n 0), (23, .ldc 131), (25, .invokevirtual 82), (28, .ifCond .eq 38), (31, .aload_n 0), (32, .invokevirtual 50), (35, .ifCond .eq 16), (38, .aload_n 0), (39, .aload_n 1), (40, .iload_n 2), (41, .invokevirtual 128), (44, .ifCond .eq 7), (47, .iconst 1), (48, .goto 4), (51, .iconst 0), (52, .istore_n 3), (53, .aload_n 1), (54, .bipush 19), (56, .iconst 0), (57, .invokevirtual 125), (60, .iinc 4 1), (63, .goto (-53)), (66, .iload_n 3), (67, .ireturn)], ([(10, [true, true, true, true, true]), (51, [true, true, true, false, true]), (52, [true, true, true, false, true])], zp_3)))
def mc3_fact : zv_M := ((RX3, (⟨RX3, "fact", "(LBranchedText$JoinTest;I)Z"⟩, (prog_5_method_17_code, (5, (some .boolean))))), ([(0, .aload_n 0), (1, .ldc 133), (3, .invokevirtual 82), (6, .istore_n 3), (7, .iload_n 3), (8, .ifCond .ne 22), (11, .aload_n 0), (12, .bipush 91), (14, .invokevirtual 112), (17, .ifCond .ne 13), (20, .aload_n 0), (21, .aload_n 1), (22, .aload_n 0), (23, .invokevirtual 135), (26, .invokevirtual 138), (29, .ireturn), (30, .iload_n 2), (31, .bipush 6), (33, .if_icmp .lt 10), (36, .aload_n 0), (37, .bipush 6), (39, .invokevirtual 68), (42, .ireturn), (43, .aload_n 0), (44, .invokevirtual 50), (47, .ifCond .ne 5), (50, .iconst 0), (51, .ireturn), (52, .iload_n 3), (53, .ifCond .eq 23), (56, .aload_n 0), (57, .aload_n 1), (58, .iload_n 2), (59, .iconst 1), (60, .iadd), (61, .invokevirtual 128), (64, .istore 4), (66, .aload_n 1), (67, .bipush 18), (69, .iconst 0), (70, .invokevirtual 125), (73, .iload 4), (75, .ireturn), (76, .aload_n 0), (77, .aload_n 1), (78, .iload_n 2), (79, .iconst 1), (80, .iadd), (81, .invokevirtual 108), (84, .ifCond .ne 5), (87, .iconst 0), (88, .ireturn), (89, .aload_n 0), (90, .bipush 93), (92, .invokevirtual 112), (95, .ifCond .eq 10), (98, .aload_n 0), (99, .invokevirtual 50), (102, .goto 8), (105, .aload_n 0), (106, .iconst 2), (107, .invokevirtual 68), (110, .ireturn)], ([(30, [true, true, true, true, false])], zp_3)))
def mc3_comparison : zv_M := ((RX3, (⟨RX3, "comparison", "(LBranchedText$JoinTest;I)Z"⟩, (prog_5_method_18_code, (4, (some .boolean))))), ([(0, .iload_n 2), (1, .iconst (-1)), (2, .if_icmp .ne 9), (5, .aload_n 0), (6, .iconst 2), (7, .invokevirtual 68), (10, .ireturn), (11, .aload_n 0), (12, .invokevirtual 50), (15, .ifCond .ne 5), (18, .iconst 0), (19, .ireturn), (20, .aload_n 0), (21, .getfield 38), (24, .iconst 3), (25, .if_icmp .ne 21), (28, .aload_n 0), (29, .getfield 58), (32, .bipush 60), (34, .if_icmp .lt 12), (37, .aload_n 0), (38, .getfield 58), (41, .bipush 62), (43, .if_icmp .le 9), (46, .aload_n 0), (47, .iconst 2), (48, .invokevirtual 68), (51, .ireturn), (52, .aload_n 0), (53, .getfield 58), (56, .bipush 60), (58, .isub), (59, .istore_n 3), (60, .aload_n 0), (61, .invokevirtual 50), (64, .ifCond .ne 5), (67, .iconst 0), (68, .ireturn), (69, .aload_n 0), (70, .getfield 38), (73, .iconst 2), (74, .if_icmp .eq 9), (77, .aload_n 0), (78, .iconst 2), (79, .invokevirtual 68), (82, .ireturn), (83, .aload_n 1), (84, .iload_n 2), (85, .iload_n 3), (86, .aload_n 0), (87, .getfield 58), (90, .invokevirtual 141), (93, .aload_n 0), (94, .invokevirtual 50), (97, .ireturn)], ([(46, [true, false, false, false])], zp_3)))
def mc3_asked : zv_M := ((RX3, (⟨RX3, "asked", "()I"⟩, (prog_5_method_19_code, (1, (some .int))))), ([(0, .aload_n 0), (1, .ldc 145), (3, .invokevirtual 82), (6, .ifCond .eq 7), (9, .iconst 0), (10, .goto 69), (13, .aload_n 0), (14, .ldc 147), (16, .invokevirtual 82), (19, .ifCond .eq 7), (22, .iconst 1), (23, .goto 56), (26, .aload_n 0), (27, .ldc 149), (29, .invokevirtual 82), (32, .ifCond .eq 7), (35, .iconst 2), (36, .goto 43), (39, .aload_n 0), (40, .ldc 150), (42, .invokevirtual 82), (45, .ifCond .eq 7), (48, .iconst 3), (49, .goto 30), (52, .aload_n 0), (53, .ldc 152), (55, .invokevirtual 82), (58, .ifCond .eq 7), (61, .iconst 4), (62, .goto 17), (65, .aload_n 0), (66, .ldc 154), (68, .invokevirtual 82), (71, .ifCond .eq 7), (74, .iconst 5), (75, .goto 4), (78, .iconst (-1)), (79, .ireturn)], ([], zp_3)))
def mc3_line : zv_M := ((RX3, (⟨RX3, "line", "()Z"⟩, (prog_5_method_20_code, (2, (some .boolean))))), ([(0, .aload_n 0), (1, .aload_n 0), (2, .invokevirtual 156), (5, .putfield 159), (8, .aload_n 0), (9, .getfield 159), (12, .iconst (-1)), (13, .if_icmp .ne 9), (16, .aload_n 0), (17, .iconst 2), (18, .invokevirtual 68), (21, .ireturn), (22, .aload_n 0), (23, .invokevirtual 50), (26, .istore_n 1), (27, .iload_n 1), (28, .ifCond .eq 57), (31, .aload_n 0), (32, .getfield 159), (35, .iconst 3), (36, .if_icmp .eq 49), (39, .aload_n 0), (40, .getfield 159), (43, .iconst 4), (44, .if_icmp .eq 41), (47, .aload_n 0), (48, .getfield 159), (51, .bipush 6), (53, .if_icmp .eq 32), (56, .aload_n 0), (57, .aload_n 0), (58, .getfield 58), (61, .putfield 162), (64, .aload_n 0), (65, .getfield 38), (68, .iconst 2), (69, .if_icmp .ne 10), (72, .aload_n 0), (73, .invokevirtual 50), (76, .goto 8), (79, .aload_n 0), (80, .iconst 2), (81, .invokevirtual 68), (84, .istore_n 1), (85, .iload_n 1), (86, .ifCond .eq 40), (89, .aload_n 0), (90, .getfield 159), (93, .iconst 1), (94, .if_icmp .ne 32), (97, .aload_n 0), (98, .aload_n 0), (99, .getfield 58), (102, .putfield 165), (105, .aload_n 0), (106, .getfield 38), (109, .iconst 2), (110, .if_icmp .ne 10), (113, .aload_n 0), (114, .invokevirtual 50), (117, .goto 8), (120, .aload_n 0), (121, .iconst 2), (122, .invokevirtual 68), (125, .istore_n 1), (126, .iload_n 1), (127, .ifCond .eq 17), (130, .aload_n 0), (131, .getfield 159), (134, .ifCond .ne 10), (137, .aload_n 0), (138, .bipush 12), (140, .invokevirtual 86), (143, .istore_n 1), (144, .iload_n 1), (145, .ifCond .eq 19), (148, .aload_n 0), (149, .getfield 159), (152, .bipush 6), (154, .if_icmp .ne 10), (157, .aload_n 0), (158, .bipush 6), (160, .invokevirtual 86), (163, .istore_n 1), (164, .iload_n 1), (165, .ifCond .eq 14), (168, .aload_n 0), (169, .invokevirtual 89), (172, .ifCond .eq 7), (175, .iconst 1), (176, .goto 4), (179, .iconst 0), (180, .ireturn)], ([(84, [true, false]), (85, [true, true]), (125, [true, false]), (126, [true, true]), (144, [true, true]), (164, [true, true])], zp_3)))
def mc3_verbHere : zv_M := ((RX3, (⟨RX3, "verbHere", "()I"⟩, (prog_5_method_21_code, (1, (some .int))))), ([(0, .aload_n 0), (1, .ldc 168), (3, .invokevirtual 82), (6, .ifCond .eq 7), (9, .iconst 0), (10, .goto 153), (13, .aload_n 0), (14, .ldc 170), (16, .invokevirtual 82), (19, .ifCond .eq 7), (22, .iconst 1), (23, .goto 140), (26, .aload_n 0), (27, .ldc 172), (29, .invokevirtual 82), (32, .ifCond .eq 7), (35, .iconst 2), (36, .goto 127), (39, .aload_n 0), (40, .ldc 174), (42, .invokevirtual 82), (45, .ifCond .eq 7), (48, .iconst 3), (49, .goto 114), (52, .aload_n 0), (53, .ldc 176), (55, .invokevirtual 82), (58, .ifCond .eq 7), (61, .iconst 4), (62, .goto 101), (65, .aload_n 0), (66, .ldc 178), (68, .invokevirtual 82), (71, .ifCond .eq 7), (74, .iconst 5), (75, .goto 88), (78, .aload_n 0), (79, .ldc 180), (81, .invokevirtual 82), (84, .ifCond .eq 8), (87, .bipush 6), (89, .goto 74), (92, .aload_n 0), (93, .ldc 182), (95, .invokevirtual 82), (98, .ifCond .eq 8), (101, .bipush 7), (103, .goto 60), (106, .aload_n 0), (107, .ldc 184), (109, .invokevirtual 82), (112, .ifCond .eq 8), (115, .bipush 8), (117, .goto 46), (120, .aload_n 0), (121, .ldc 186), (123, .invokevirtual 82), (126, .ifCond .eq 8), (129, .bipush 9), (131, .goto 32), (134, .aload_n 0), (135, .ldc 188), (137, .invokevirtual 82), (140, .ifCond .eq 8), (143, .bipush 10), (145, .goto 18), (148, .aload_n 0), (149, .ldc 190), (151, .invokevirtual 82), (154, .ifCond .eq 8), (157, .bipush 11), (159, .goto 4), (162, .iconst (-1)), (163, .ireturn)], ([], zp_3)))
def mc4_init : zv_M := ((RX4, (⟨RX4, "<init>", "()V"⟩, (prog_6_method_1_code, (1, none)))), ([(0, .aload_n 0), (1, .invokespecial 3), (4, .aload_n 0), (5, .bipush 48), (7, .anewarray 9), (10, .putfield 11), (13, .aload_n 0), (14, .sipush 604), (17, .newarray .int), (19, .putfield 17), (22, .aload_n 0), (23, .sipush 604), (26, .newarray .boolean), (28, .putfield 21), (31, .aload_n 0), (32, .sipush 604), (35, .newarray .boolean), (37, .putfield 25), (40, .aload_n 0), (41, .sipush 605), (44, .newarray .int), (46, .putfield 28), (49, .return_)], ([], zp_4)))
def mc4_id : zv_M := ((RX4, (⟨RX4, "id", "(II)I"⟩, (prog_6_method_2_code, (2, (some .int))))), ([(0, .iload_n 0), (1, .ifCond .ne 7), (4, .iload_n 1), (5, .goto 14), (8, .bipush 40), (10, .iload_n 0), (11, .iconst 1), (12, .isub), (13, .bipush 12), (15, .imul), (16, .iadd), (17, .iload_n 1), (18, .iadd), (19, .ireturn)], ([], zp_4)))
def mc4_putter : zv_M := ((RX4, (⟨RX4, "putter", "(I)I"⟩, (prog_6_method_3_code, (1, (some .int))))), ([(0, .iload_n 0), (1, .bipush 40), (3, .if_icmp .ge 7), (6, .iconst 0), (7, .goto 12), (10, .iload_n 0), (11, .bipush 40), (13, .isub), (14, .bipush 12), (16, .idiv), (17, .iconst 1), (18, .iadd), (19, .ireturn)], ([], zp_4)))
def mc4_order : zv_M := ((RX4, (⟨RX4, "order", "(I)I"⟩, (prog_6_method_4_code, (1, (some .int))))), ([(0, .iload_n 0), (1, .bipush 40), (3, .if_icmp .ge 7), (6, .iload_n 0), (7, .goto 10), (10, .iload_n 0), (11, .bipush 40), (13, .isub), (14, .bipush 12), (16, .irem), (17, .ireturn)], ([], zp_4)))
def mc4_isId : zv_M := ((RX4, (⟨RX4, "isId", "(I)Z"⟩, (prog_6_method_5_code, (1, (some .boolean))))), ([(0, .iload_n 0), (1, .ifCond .lt 14), (4, .iload_n 0), (5, .sipush 604), (8, .if_icmp .ge 7), (11, .iconst 1), (12, .goto 4), (15, .iconst 0), (16, .ireturn)], ([], zp_4)))
def mc4_lay : zv_M := ((RX4, (⟨RX4, "lay", "(LBranchedText$State;)V"⟩, (prog_6_method_6_code, (4, none)))), ([(0, .aload_n 0), (1, .aload_n 1), (2, .invokevirtual 31), (5, .aload_n 0), (6, .getfield 28), (9, .sipush 604), (12, .iconst (-1)), (13, .iastore), (14, .iconst 0), (15, .istore_n 2), (16, .iload_n 2), (17, .aload_n 0), (18, .getfield 35), (21, .if_icmp .ge 40), (24, .aload_n 0), (25, .getfield 11), (28, .iload_n 2), (29, .aaload), (30, .ifnull 25), (33, .aload_n 0), (34, .getfield 11), (37, .iload_n 2), (38, .aaload), (39, .invokevirtual 39), (42, .ifCond .eq 13), (45, .aload_n 0), (46, .aload_n 0), (47, .getfield 11), (50, .iload_n 2), (51, .aaload), (52, .invokevirtual 43), (55, .iinc 2 1), (58, .goto (-42)), (61, .aload_n 0), (62, .iconst 0), (63, .putfield 46), (66, .aload_n 0), (67, .getfield 28), (70, .sipush 604), (73, .iaload), (74, .istore_n 2), (75, .iconst 0), (76, .istore_n 3), (77, .iload_n 3), (78, .sipush 604), (81, .if_icmp .ge 37), (84, .iload_n 2), (85, .invokestatic 49), (88, .ifCond .eq 30), (91, .aload_n 0), (92, .getfield 17), (95, .iload_n 3), (96, .iload_n 2), (97, .iastore), (98, .aload_n 0), (99, .iload_n 3), (100, .iconst 1), (101, .iadd), (102, .putfield 46), (105, .aload_n 0), (106, .getfield 28), (109, .iload_n 2), (110, .iaload), (111, .istore_n 2), (112, .iinc 3 1), (115, .goto (-38)), (118, .aload_n 0), (119, .aload_n 0), (120, .getfield 53), (123, .invokevirtual 57), (126, .return_)], ([(16, [true, false, true, false]), (77, [true, false, true, true]), (118, [true, false, false, false])], zp_4)))
def mc4_walk : zv_M := ((RX4, (⟨RX4, "walk", "(LBranchedText$State;)V"⟩, (prog_6_method_7_code, (7, none)))), ([(0, .lconst 0), (1, .lstore_n 2), (2, .lconst 0), (3, .lstore 4), (5, .aload_n 0), (6, .lconst 0), (7, .putfield 61), (10, .aload_n 0), (11, .aload_n 1), (12, .getfield 64), (15, .iconst 1), (16, .iadd), (17, .bipush 48), (19, .invokestatic 67), (22, .putfield 35), (25, .aload_n 1), (26, .astore 6), (28, .aload 6), (30, .ifnull 98), (33, .aload 6), (35, .getfield 64), (38, .ifCond .lt 25), (41, .aload 6), (43, .getfield 64), (46, .bipush 48), (48, .if_icmp .ge 15), (51, .aload_n 0), (52, .getfield 11), (55, .aload 6), (57, .getfield 64), (60, .aload 6), (62, .aastore), (63, .aload 6), (65, .invokevirtual 73), (68, .ifCond .eq 17), (71, .aload_n 0), (72, .dup), (73, .getfield 61), (76, .aload 6), (78, .invokevirtual 76), (81, .lor), (82, .putfield 61), (85, .aload 6), (87, .getfield 80), (90, .iconst 2), (91, .if_icmp .ne 19), (94, .lload 4), (96, .aload 6), (98, .getfield 83), (101, .lload_n 2), (102, .ldc2_w 86), (105, .lxor), (106, .land), (107, .lor), (108, .lstore 4), (110, .lload_n 2), (111, .aload 6), (113, .getfield 83), (116, .lor), (117, .lstore_n 2), (118, .aload 6), (120, .getfield 88), (123, .astore 6), (125, .goto (-97)), (128, .aload_n 0), (129, .aload_n 0), (130, .getfield 61), (133, .lload 4), (135, .ldc2_w 86), (138, .lxor), (139, .land), (140, .putfield 53), (143, .return_)], ([(28, [true, false, true, false, true, false, true]), (63, [true, false, true, false, true, false, true]), (85, [true, false, true, false, true, false, true])], zp_4)))
def mc4_link : zv_M := ((RX4, (⟨RX4, "link", "(LBranchedText$State;)V"⟩, (prog_6_method_8_code, (6, none)))), ([(0, .aload_n 1), (1, .getfield 92), (4, .invokestatic 49), (7, .ifCond .eq 10), (10, .aload_n 1), (11, .getfield 92), (14, .goto 6), (17, .sipush 604), (20, .istore_n 2), (21, .aload_n 0), (22, .getfield 28), (25, .iload_n 2), (26, .iaload), (27, .istore_n 3), (28, .iconst 0), (29, .istore 4), (31, .iload 4), (33, .aload_n 1), (34, .getfield 95), (37, .if_icmp .ge 39), (40, .aload_n 1), (41, .getfield 96), (44, .iload 4), (46, .invokestatic 99), (49, .istore 5), (51, .iload 5), (53, .invokestatic 49), (56, .ifCond .eq 14), (59, .aload_n 0), (60, .getfield 28), (63, .iload_n 2), (64, .iload 5), (66, .iastore), (67, .iload 5), (69, .istore_n 2), (70, .iinc 4 1), (73, .goto (-42)), (76, .aload_n 0), (77, .getfield 28), (80, .iload_n 2), (81, .iload_n 3), (82, .iastore), (83, .return_)], ([(31, [true, true, true, true, true, false])], zp_4)))
def mc4_look : zv_M := ((RX4, (⟨RX4, "look", "(J)V"⟩, (prog_6_method_9_code, (7, none)))), ([(0, .iconst 0), (1, .istore_n 3), (2, .iload_n 3), (3, .sipush 604), (6, .if_icmp .ge 16), (9, .aload_n 0), (10, .getfield 25), (13, .iload_n 3), (14, .iconst 0), (15, .bastore), (16, .iinc 3 1), (19, .goto (-17)), (22, .iconst 0), (23, .istore_n 3), (24, .iload_n 3), (25, .aload_n 0), (26, .getfield 35), (29, .if_icmp .ge 78), (32, .aload_n 0), (33, .getfield 11), (36, .iload_n 3), (37, .aaload), (38, .astore 4), (40, .iconst 0), (41, .istore 5), (43, .aload 4), (45, .ifnull 56), (48, .lload_n 1), (49, .aload 4), (51, .invokevirtual 76), (54, .land), (55, .lconst 0), (56, .lcmp), (57, .ifCond .eq 44), (60, .iload 5), (62, .aload 4), (64, .getfield 95), (67, .if_icmp .ge 34), (70, .aload 4), (72, .iload 5), (74, .invokevirtual 102), (77, .istore 6), (79, .iload 6), (81, .invokestatic 49), (84, .ifCond .eq 11), (87, .aload_n 0), (88, .getfield 25), (91, .iload 6), (93, .iconst 1), (94, .bastore), (95, .iinc 5 1), (98, .goto (-55)), (101, .iinc 3 1), (104, .goto (-80)), (107, .aload_n 0), (108, .iconst 0), (109, .putfield 106), (112, .iconst 0), (113, .istore_n 3), (114, .iload_n 3), (115, .aload_n 0), (116, .getfield 46), (119, .if_icmp .ge 99), (122, .iload_n 3), (123, .sipush 604), (126, .if_icmp .ge 92), (129, .aload_n 0), (130, .getfield 17), (133, .iload_n 3), (134, .iaload), (135, .istore 4), (137, .iload 4), (139, .invokestatic 109), (142, .istore 5), (144, .aload_n 0), (145, .getfield 21), (148, .iload_n 3), (149, .iload 4), (151, .invokestatic 49), (154, .ifCond .eq 33), (157, .aload_n 0), (158, .getfield 25), (161, .iload 4), (163, .baload), (164, .ifCond .ne 23), (167, .iload 5), (169, .ifCond .eq 14), (172, .lload_n 1), (173, .iload 5), (175, .lushr), (176, .lconst 1), (177, .land), (178, .lconst 0), (179, .lcmp), (180, .ifCond .eq 7), (183, .iconst 1), (184, .goto 4), (187, .iconst 0), (188, .bastore), (189, .aload_n 0), (190, .dup), (191, .getfield 106), (194, .aload_n 0), (195, .getfield 21), (198, .iload_n 3), (199, .baload), (200, .ifCond .eq 7), (203, .iconst 1), (204, .goto 4), (207, .iconst 0), (208, .iadd), (209, .putfield 106), (212, .iinc 3 1), (215, .goto (-101)), (218, .return_)], ([(2, [true, true, false, true, false, false, false]), (24, [true, true, false, true, false, false, false]), (43, [true, true, false, true, true, true, false]), (114, [true, true, false, true, false, false, false]), (183, [true, true, false, true, false, false, false]), (187, [true, true, false, true, false, false, false]), (188, [true, true, false, true, false, false, false])], zp_4)))
def mc4_numberAt : zv_M := ((RX4, (⟨RX4, "numberAt", "(I)I"⟩, (prog_6_method_10_code, (2, (some .int))))), ([(0, .iload_n 1), (1, .ifCond .lt 38), (4, .iload_n 1), (5, .aload_n 0), (6, .getfield 35), (9, .if_icmp .ge 30), (12, .iload_n 1), (13, .bipush 48), (15, .if_icmp .ge 24), (18, .aload_n 0), (19, .getfield 11), (22, .iload_n 1), (23, .aaload), (24, .ifnull 15), (27, .aload_n 0), (28, .getfield 11), (31, .iload_n 1), (32, .aaload), (33, .getfield 96), (36, .goto 4), (39, .iconst 0), (40, .ireturn)], ([], zp_4)))
def mc4_idAt : zv_M := ((RX4, (⟨RX4, "idAt", "(I)I"⟩, (prog_6_method_11_code, (2, (some .int))))), ([(0, .iload_n 1), (1, .ifCond .lt 27), (4, .iload_n 1), (5, .aload_n 0), (6, .getfield 46), (9, .if_icmp .ge 19), (12, .iload_n 1), (13, .sipush 604), (16, .if_icmp .ge 12), (19, .aload_n 0), (20, .getfield 17), (23, .iload_n 1), (24, .iaload), (25, .goto 4), (28, .iconst (-1)), (29, .ireturn)], ([], zp_4)))
def mc4_seesAt : zv_M := ((RX4, (⟨RX4, "seesAt", "(I)Z"⟩, (prog_6_method_12_code, (2, (some .boolean))))), ([(0, .iload_n 1), (1, .ifCond .lt 31), (4, .iload_n 1), (5, .aload_n 0), (6, .getfield 46), (9, .if_icmp .ge 23), (12, .iload_n 1), (13, .sipush 604), (16, .if_icmp .ge 16), (19, .aload_n 0), (20, .getfield 21), (23, .iload_n 1), (24, .baload), (25, .ifCond .eq 7), (28, .iconst 1), (29, .goto 4), (32, .iconst 0), (33, .ireturn)], ([], zp_4)))
def mc4_placeOf : zv_M := ((RX4, (⟨RX4, "placeOf", "(I)I"⟩, (prog_6_method_13_code, (3, (some .int))))), ([(0, .iconst 0), (1, .istore_n 2), (2, .iload_n 2), (3, .aload_n 0), (4, .getfield 46), (7, .if_icmp .ge 25), (10, .iload_n 1), (11, .iconst (-1)), (12, .if_icmp .eq 14), (15, .aload_n 0), (16, .iload_n 2), (17, .invokevirtual 112), (20, .iload_n 1), (21, .if_icmp .ne 5), (24, .iload_n 2), (25, .ireturn), (26, .iinc 2 1), (29, .goto (-27)), (32, .iconst (-1)), (33, .ireturn)], ([(2, [true, true, true])], zp_4)))
def mc4_seenUpTo : zv_M := ((RX4, (⟨RX4, "seenUpTo", "(I)I"⟩, (prog_6_method_14_code, (5, (some .int))))), ([(0, .aload_n 0), (1, .iload_n 1), (2, .invokevirtual 115), (5, .istore_n 2), (6, .iload_n 2), (7, .iconst (-1)), (8, .if_icmp .ne 5), (11, .iconst (-1)), (12, .ireturn), (13, .iconst 0), (14, .istore_n 3), (15, .iconst 0), (16, .istore 4), (18, .iload 4), (20, .iload_n 2), (21, .if_icmp .gt 26), (24, .iload_n 3), (25, .aload_n 0), (26, .iload 4), (28, .invokevirtual 118), (31, .ifCond .eq 7), (34, .iconst 1), (35, .goto 4), (38, .iconst 0), (39, .iadd), (40, .istore_n 3), (41, .iinc 4 1), (44, .goto (-26)), (47, .iload_n 3), (48, .ireturn)], ([(18, [true, false, true, true, true])], zp_4)))
def mc4_outOfForce : zv_M := ((RX4, (⟨RX4, "outOfForce", "()J"⟩, (prog_6_method_15_code, (1, (some .long))))), ([(0, .aload_n 0), (1, .getfield 61), (4, .aload_n 0), (5, .getfield 53), (8, .ldc2_w 86), (11, .lxor), (12, .land), (13, .lreturn)], ([], zp_4)))
def mc4_cutsInForce : zv_M := ((RX4, (⟨RX4, "cutsInForce", "(I)I"⟩, (prog_6_method_16_code, (5, (some .int))))), ([(0, .iconst 0), (1, .istore_n 2), (2, .iconst 0), (3, .istore_n 3), (4, .iload_n 3), (5, .aload_n 0), (6, .getfield 35), (9, .if_icmp .ge 49), (12, .aload_n 0), (13, .getfield 11), (16, .iload_n 3), (17, .aaload), (18, .astore 4), (20, .aload 4), (22, .ifnull 30), (25, .aload_n 0), (26, .getfield 53), (29, .aload 4), (31, .invokevirtual 76), (34, .land), (35, .lconst 0), (36, .lcmp), (37, .ifCond .eq 15), (40, .aload 4), (42, .iload_n 1), (43, .invokevirtual 121), (46, .ifCond .eq 6), (49, .iinc 2 1), (52, .iinc 3 1), (55, .goto (-51)), (58, .iload_n 2), (59, .ireturn)], ([(4, [true, true, true, true, false])], zp_4)))
def mc4_lastCut : zv_M := ((RX4, (⟨RX4, "lastCut", "(I)I"⟩, (prog_6_method_17_code, (3, (some .int))))), ([(0, .aload_n 0), (1, .getfield 35), (4, .iconst 1), (5, .isub), (6, .istore_n 2), (7, .iload_n 2), (8, .ifCond .lt 41), (11, .aload_n 0), (12, .getfield 11), (15, .iload_n 2), (16, .aaload), (17, .ifnull 26), (20, .aload_n 0), (21, .getfield 11), (24, .iload_n 2), (25, .aaload), (26, .iload_n 1), (27, .invokevirtual 121), (30, .ifCond .eq 13), (33, .aload_n 0), (34, .getfield 11), (37, .iload_n 2), (38, .aaload), (39, .getfield 96), (42, .ireturn), (43, .iinc 2 (-1)), (46, .goto (-39)), (49, .iconst (-1)), (50, .ireturn)], ([(7, [true, true, true])], zp_4)))
def mc4_leaningOn : zv_M := ((RX4, (⟨RX4, "leaningOn", "(LBranchedText$State;)J"⟩, (prog_6_method_18_code, (6, (some .long))))), ([(0, .aload_n 1), (1, .invokevirtual 76), (4, .lstore_n 2), (5, .iconst 0), (6, .istore 4), (8, .iload 4), (10, .aload_n 0), (11, .getfield 35), (14, .if_icmp .ge 55), (17, .aload_n 0), (18, .getfield 11), (21, .iload 4), (23, .aaload), (24, .astore 5), (26, .aload 5), (28, .ifnull 35), (31, .aload 5), (33, .getfield 64), (36, .aload_n 1), (37, .getfield 64), (40, .if_icmp .le 23), (43, .aload 5), (45, .getfield 124), (48, .lload_n 2), (49, .land), (50, .lconst 0), (51, .lcmp), (52, .ifCond .eq 11), (55, .lload_n 2), (56, .aload 5), (58, .invokevirtual 76), (61, .lor), (62, .lstore_n 2), (63, .iinc 4 1), (66, .goto (-58)), (69, .lload_n 2), (70, .lreturn)], ([(8, [true, true, true, false, true, false])], zp_4)))
def mc4_groundOf : zv_M := ((RX4, (⟨RX4, "groundOf", "(LBranchedText$State;)J"⟩, (prog_6_method_19_code, (5, (some .long))))), ([(0, .aload_n 1), (1, .invokevirtual 76), (4, .lstore_n 2), (5, .aload_n 1), (6, .astore 4), (8, .aload 4), (10, .ifnull 33), (13, .lload_n 2), (14, .aload 4), (16, .invokevirtual 76), (19, .land), (20, .lconst 0), (21, .lcmp), (22, .ifCond .eq 11), (25, .lload_n 2), (26, .aload 4), (28, .getfield 124), (31, .lor), (32, .lstore_n 2), (33, .aload 4), (35, .getfield 88), (38, .astore 4), (40, .goto (-32)), (43, .lload_n 2), (44, .lreturn)], ([(8, [false, false, true, false, true])], zp_4)))
def mc5_init : zv_M := ((RX5, (⟨RX5, "<init>", "(I)V"⟩, (prog_7_method_1_code, (2, none)))), ([(0, .aload_n 0), (1, .invokespecial 3), (4, .aload_n 0), (5, .bipush 12), (7, .newarray .int), (9, .putfield 9), (12, .aload_n 0), (13, .bipush 120), (15, .newarray .int), (17, .putfield 15), (20, .aload_n 0), (21, .iload_n 1), (22, .putfield 18), (25, .return_)], ([], zp_5)))
def mc5_open : zv_M := ((RX5, (⟨RX5, "open", "(LBranchedText$State;III)V"⟩, (prog_7_method_2_code, (5, none)))), ([(0, .aload_n 0), (1, .iconst 1), (2, .putfield 22), (5, .aload_n 0), (6, .aload_n 1), (7, .putfield 26), (10, .aload_n 0), (11, .aload_n 0), (12, .putfield 30), (15, .aload_n 0), (16, .iload_n 2), (17, .putfield 33), (20, .aload_n 0), (21, .iconst 0), (22, .putfield 36), (25, .aload_n 0), (26, .iload_n 3), (27, .putfield 39), (30, .aload_n 0), (31, .iload 4), (33, .putfield 42), (36, .aload_n 0), (37, .aload_n 1), (38, .ifnonnull 7), (41, .iconst 0), (42, .goto 9), (45, .aload_n 1), (46, .getfield 45), (49, .iconst 1), (50, .iadd), (51, .putfield 45), (54, .aload_n 0), (55, .iconst 0), (56, .putfield 48), (59, .aload_n 0), (60, .iconst 0), (61, .putfield 51), (64, .aload_n 0), (65, .iconst 0), (66, .putfield 54), (69, .aload_n 0), (70, .iconst 0), (71, .putfield 57), (74, .aload_n 0), (75, .iconst (-1)), (76, .putfield 60), (79, .aload_n 0), (80, .lconst 0), (81, .putfield 63), (84, .aload_n 0), (85, .lconst 0), (86, .putfield 67), (89, .return_)], ([(51, [true, false, false, false, false])], zp_5)))
def mc5_bit : zv_M := ((RX5, (⟨RX5, "bit", "()J"⟩, (prog_7_method_3_code, (1, (some .long))))), ([(0, .lconst 1), (1, .aload_n 0), (2, .getfield 18), (5, .lshl), (6, .lreturn)], ([], zp_5)))
def mc5_edits : zv_M := ((RX5, (⟨RX5, "edits", "()Z"⟩, (prog_7_method_4_code, (1, (some .boolean))))), ([(0, .aload_n 0), (1, .getfield 33), (4, .ifCond .eq 11), (7, .aload_n 0), (8, .getfield 33), (11, .iconst 1), (12, .if_icmp .ne 7), (15, .iconst 1), (16, .goto 4), (19, .iconst 0), (20, .ireturn)], ([], zp_5)))
def mc5_brings : zv_M := ((RX5, (⟨RX5, "brings", "()Z"⟩, (prog_7_method_5_code, (1, (some .boolean))))), ([(0, .aload_n 0), (1, .getfield 33), (4, .ifCond .eq 11), (7, .aload_n 0), (8, .getfield 33), (11, .iconst (-1)), (12, .if_icmp .ne 7), (15, .iconst 1), (16, .goto 4), (19, .iconst 0), (20, .ireturn)], ([], zp_5)))
def mc5_idAt : zv_M := ((RX5, (⟨RX5, "idAt", "(I)I"⟩, (prog_7_method_6_code, (2, (some .int))))), ([(0, .iload_n 1), (1, .ifCond .lt 29), (4, .iload_n 1), (5, .aload_n 0), (6, .getfield 51), (9, .if_icmp .ge 21), (12, .iload_n 1), (13, .aload_n 0), (14, .getfield 15), (17, .arraylength), (18, .if_icmp .ge 12), (21, .aload_n 0), (22, .getfield 15), (25, .iload_n 1), (26, .iaload), (27, .goto 4), (30, .iconst (-1)), (31, .ireturn)], ([], zp_5)))
def mc5_addId : zv_M := ((RX5, (⟨RX5, "addId", "(I)V"⟩, (prog_7_method_7_code, (2, none)))), ([(0, .aload_n 0), (1, .getfield 51), (4, .ifCond .lt 35), (7, .aload_n 0), (8, .getfield 51), (11, .aload_n 0), (12, .getfield 15), (15, .arraylength), (16, .if_icmp .ge 23), (19, .aload_n 0), (20, .getfield 15), (23, .aload_n 0), (24, .getfield 51), (27, .iload_n 1), (28, .iastore), (29, .aload_n 0), (30, .dup), (31, .getfield 51), (34, .iconst 1), (35, .iadd), (36, .putfield 51), (39, .return_)], ([], zp_5)))
def mc5_tookAt : zv_M := ((RX5, (⟨RX5, "tookAt", "(I)I"⟩, (prog_7_method_8_code, (2, (some .int))))), ([(0, .aload_n 0), (1, .getfield 33), (4, .iconst 1), (5, .if_icmp .ne 33), (8, .iload_n 1), (9, .ifCond .lt 29), (12, .iload_n 1), (13, .aload_n 0), (14, .getfield 42), (17, .if_icmp .ge 21), (20, .iload_n 1), (21, .aload_n 0), (22, .getfield 9), (25, .arraylength), (26, .if_icmp .ge 12), (29, .aload_n 0), (30, .getfield 9), (33, .iload_n 1), (34, .iaload), (35, .goto 4), (38, .iconst (-1)), (39, .ireturn)], ([], zp_5)))
def mc5_tookIt : zv_M := ((RX5, (⟨RX5, "tookIt", "(I)Z"⟩, (prog_7_method_9_code, (3, (some .boolean))))), ([(0, .iconst 0), (1, .istore_n 2), (2, .iload_n 2), (3, .aload_n 0), (4, .getfield 42), (7, .if_icmp .ge 25), (10, .iload_n 1), (11, .iconst (-1)), (12, .if_icmp .eq 14), (15, .aload_n 0), (16, .iload_n 2), (17, .invokevirtual 70), (20, .iload_n 1), (21, .if_icmp .ne 5), (24, .iconst 1), (25, .ireturn), (26, .iinc 2 1), (29, .goto (-27)), (32, .iconst 0), (33, .ireturn)], ([(2, [true, true, true])], zp_5)))
def mc6_init : zv_M := ((RX6, (⟨RX6, "<init>", "()V"⟩, (prog_8_method_1_code, (1, none)))), ([(0, .aload_n 0), (1, .invokespecial 3), (4, .aload_n 0), (5, .bipush 40), (7, .newarray .int), (9, .putfield 9), (12, .aload_n 0), (13, .bipush 40), (15, .newarray .int), (17, .putfield 15), (20, .aload_n 0), (21, .bipush 40), (23, .newarray .int), (25, .putfield 18), (28, .aload_n 0), (29, .bipush 40), (31, .newarray .int), (33, .putfield 21), (36, .return_)], ([], zp_6)))
def mc6_add : zv_M := ((RX6, (⟨RX6, "add", "(LBranchedText$State;I)V"⟩, (prog_8_method_2_code, (4, none)))), ([(0, .aload_n 0), (1, .getfield 24), (4, .bipush 40), (6, .irem), (7, .istore_n 3), (8, .iload_n 3), (9, .ifCond .lt 26), (12, .iload_n 3), (13, .bipush 40), (15, .if_icmp .ge 20), (18, .aload_n 0), (19, .getfield 9), (22, .iload_n 3), (23, .aload_n 1), (24, .getfield 28), (27, .iastore), (28, .aload_n 0), (29, .getfield 15), (32, .iload_n 3), (33, .iload_n 2), (34, .iastore), (35, .aload_n 0), (36, .dup), (37, .getfield 24), (40, .iconst 1), (41, .iadd), (42, .putfield 24), (45, .aload_n 1), (46, .aload_n 0), (47, .getfield 24), (50, .putfield 33), (53, .return_)], ([], zp_6)))
def mc6_slot : zv_M := ((RX6, (⟨RX6, "slot", "(I)I"⟩, (prog_8_method_3_code, (2, (some .int))))), ([(0, .aload_n 0), (1, .getfield 24), (4, .iconst 1), (5, .isub), (6, .iload_n 1), (7, .isub), (8, .bipush 40), (10, .irem), (11, .ireturn)], ([], zp_6)))
def mc6_stateAt : zv_M := ((RX6, (⟨RX6, "stateAt", "(I)I"⟩, (prog_8_method_4_code, (3, (some .int))))), ([(0, .aload_n 0), (1, .iload_n 1), (2, .invokevirtual 36), (5, .istore_n 2), (6, .iload_n 2), (7, .ifCond .lt 18), (10, .iload_n 2), (11, .bipush 40), (13, .if_icmp .ge 12), (16, .aload_n 0), (17, .getfield 9), (20, .iload_n 2), (21, .iaload), (22, .goto 4), (25, .iconst (-1)), (26, .ireturn)], ([], zp_6)))
def mc6_timeAt : zv_M := ((RX6, (⟨RX6, "timeAt", "(I)I"⟩, (prog_8_method_5_code, (3, (some .int))))), ([(0, .aload_n 0), (1, .iload_n 1), (2, .invokevirtual 36), (5, .istore_n 2), (6, .iload_n 2), (7, .ifCond .lt 18), (10, .iload_n 2), (11, .bipush 40), (13, .if_icmp .ge 12), (16, .aload_n 0), (17, .getfield 15), (20, .iload_n 2), (21, .iaload), (22, .goto 4), (25, .iconst (-1)), (26, .ireturn)], ([], zp_6)))
def mc6_forget : zv_M := ((RX6, (⟨RX6, "forget", "(I)V"⟩, (prog_8_method_6_code, (3, none)))), ([(0, .iconst 0), (1, .istore_n 2), (2, .iload_n 2), (3, .bipush 40), (5, .if_icmp .ge 26), (8, .aload_n 0), (9, .getfield 9), (12, .iload_n 2), (13, .iaload), (14, .iload_n 1), (15, .if_icmp .ne 10), (18, .aload_n 0), (19, .getfield 9), (22, .iload_n 2), (23, .iconst (-1)), (24, .iastore), (25, .iinc 2 1), (28, .goto (-26)), (31, .return_)], ([(2, [true, true, true])], zp_6)))
def mc6_keep : zv_M := ((RX6, (⟨RX6, "keep", "()V"⟩, (prog_8_method_7_code, (1, none)))), ([(0, .aload_n 0), (1, .getfield 9), (4, .iconst 0), (5, .aload_n 0), (6, .getfield 18), (9, .iconst 0), (10, .bipush 40), (12, .invokestatic 40), (15, .aload_n 0), (16, .getfield 15), (19, .iconst 0), (20, .aload_n 0), (21, .getfield 21), (24, .iconst 0), (25, .bipush 40), (27, .invokestatic 40), (30, .aload_n 0), (31, .aload_n 0), (32, .getfield 24), (35, .putfield 46), (38, .return_)], ([], zp_6)))
def mc6_giveBack : zv_M := ((RX6, (⟨RX6, "giveBack", "()V"⟩, (prog_8_method_8_code, (1, none)))), ([(0, .aload_n 0), (1, .getfield 18), (4, .iconst 0), (5, .aload_n 0), (6, .getfield 9), (9, .iconst 0), (10, .bipush 40), (12, .invokestatic 40), (15, .aload_n 0), (16, .getfield 21), (19, .iconst 0), (20, .aload_n 0), (21, .getfield 15), (24, .iconst 0), (25, .bipush 40), (27, .invokestatic 40), (30, .aload_n 0), (31, .aload_n 0), (32, .getfield 46), (35, .putfield 24), (38, .return_)], ([], zp_6)))
def mc7_init : zv_M := ((RX7, (⟨RX7, "<init>", "()V"⟩, (prog_9_method_1_code, (1, none)))), ([(0, .aload_n 0), (1, .invokespecial 3), (4, .aload_n 0), (5, .bipush 40), (7, .newarray .int), (9, .putfield 9), (12, .return_)], ([], zp_7)))
def mc7_clear : zv_M := ((RX7, (⟨RX7, "clear", "()V"⟩, (prog_9_method_2_code, (1, none)))), ([(0, .aload_n 0), (1, .iconst 0), (2, .putfield 15), (5, .return_)], ([], zp_7)))
def mc7_add : zv_M := ((RX7, (⟨RX7, "add", "(I)V"⟩, (prog_9_method_3_code, (2, none)))), ([(0, .aload_n 0), (1, .getfield 15), (4, .ifCond .lt 35), (7, .aload_n 0), (8, .getfield 15), (11, .aload_n 0), (12, .getfield 9), (15, .arraylength), (16, .if_icmp .ge 23), (19, .aload_n 0), (20, .getfield 9), (23, .aload_n 0), (24, .getfield 15), (27, .iload_n 1), (28, .iastore), (29, .aload_n 0), (30, .dup), (31, .getfield 15), (34, .iconst 1), (35, .iadd), (36, .putfield 15), (39, .return_)], ([], zp_7)))
def mc7_at : zv_M := ((RX7, (⟨RX7, "at", "(I)I"⟩, (prog_9_method_4_code, (2, (some .int))))), ([(0, .iload_n 1), (1, .ifCond .lt 29), (4, .iload_n 1), (5, .aload_n 0), (6, .getfield 15), (9, .if_icmp .ge 21), (12, .iload_n 1), (13, .aload_n 0), (14, .getfield 9), (17, .arraylength), (18, .if_icmp .ge 12), (21, .aload_n 0), (22, .getfield 9), (25, .iload_n 1), (26, .iaload), (27, .goto 4), (30, .iconst (-1)), (31, .ireturn)], ([], zp_7)))
def mc7_key : zv_M := ((RX7, (⟨RX7, "key", "()I"⟩, (prog_9_method_5_code, (3, (some .int))))), ([(0, .aload_n 0), (1, .getfield 15), (4, .iconst 1), (5, .bipush 6), (7, .invokestatic 19), (10, .ifCond .ne 5), (13, .iconst 0), (14, .ireturn), (15, .iconst 0), (16, .istore_n 1), (17, .aload_n 0), (18, .getfield 15), (21, .iconst 1), (22, .isub), (23, .istore_n 2), (24, .iload_n 2), (25, .ifCond .lt 21), (28, .iload_n 1), (29, .iconst 5), (30, .ishl), (31, .aload_n 0), (32, .iload_n 2), (33, .invokevirtual 23), (36, .iconst 1), (37, .iadd), (38, .ior), (39, .istore_n 1), (40, .iinc 2 (-1)), (43, .goto (-19)), (46, .iload_n 1), (47, .ireturn)], ([(24, [true, true, true])], zp_7)))
def mc8_init : zv_M := ((RX8, (⟨RX8, "<init>", "()V"⟩, (prog_1_method_1_code, (1, none)))), ([(0, .aload_n 0), (1, .invokespecial 3), (4, .aload_n 0), (5, .sipush 160), (8, .newarray .int), (10, .putfield 9), (13, .aload_n 0), (14, .new 13), (17, .dup), (18, .invokespecial 15), (21, .putfield 16), (24, .aload_n 0), (25, .new 20), (28, .dup), (29, .invokespecial 22), (32, .putfield 23), (35, .aload_n 0), (36, .new 27), (39, .dup), (40, .invokespecial 29), (43, .putfield 30), (46, .aload_n 0), (47, .new 27), (50, .dup), (51, .invokespecial 29), (54, .putfield 34), (57, .aload_n 0), (58, .iconst 0), (59, .putfield 37), (62, .aload_n 0), (63, .iconst 0), (64, .putfield 41), (67, .aload_n 0), (68, .iconst 0), (69, .putfield 44), (72, .return_)], ([], zp_8)))
def mc8_refused : zv_M := ((RX8, (⟨RX8, "refused", "(I)I"⟩, (prog_1_method_2_code, (2, (some .int))))), ([(0, .aload_n 0), (1, .iload_n 1), (2, .putfield 41), (5, .iconst (-1)), (6, .ireturn)], ([], zp_8)))
def mc8_given : zv_M := ((RX8, (⟨RX8, "given", "(I)I"⟩, (prog_1_method_3_code, (2, (some .int))))), ([(0, .aload_n 0), (1, .iconst 0), (2, .putfield 41), (5, .iload_n 1), (6, .ireturn)], ([], zp_8)))
def mc8_answered : zv_M := ((RX8, (⟨RX8, "answered", "(I)I"⟩, (prog_1_method_4_code, (2, (some .int))))), ([(0, .iload_n 1), (1, .ifCond .ge 12), (4, .aload_n 0), (5, .iload_n 1), (6, .ineg), (7, .invokevirtual 48), (10, .goto 8), (13, .aload_n 0), (14, .iload_n 1), (15, .invokevirtual 52), (18, .ireturn)], ([], zp_8)))
def mc8_within : zv_M := ((RX8, (⟨RX8, "within", "(III)Z"⟩, (prog_1_method_5_code, (3, (some .boolean))))), ([(0, .iload_n 0), (1, .iload_n 1), (2, .if_icmp .lt 12), (5, .iload_n 0), (6, .iload_n 2), (7, .if_icmp .gt 7), (10, .iconst 1), (11, .goto 4), (14, .iconst 0), (15, .ireturn)], ([], zp_8)))
def mc8_status : zv_M := ((RX8, (⟨RX8, "status", "()I"⟩, (prog_1_method_6_code, (1, (some .int))))), ([(0, .aload_n 0), (1, .getfield 41), (4, .ireturn)], ([], zp_8)))
def mc8_feed : zv_M := ((RX8, (⟨RX8, "feed", "(IIIII)I"⟩, (prog_1_method_7_code, (6, (some .int))))), ([(0, .aload_n 0), (1, .getfield 23), (4, .getfield 55), (7, .bipush 20), (9, .iadd), (10, .sipush 700), (13, .if_icmp .le 5), (16, .iconst (-1)), (17, .ireturn), (18, .aload_n 0), (19, .iload_n 1), (20, .invokevirtual 58), (23, .aload_n 0), (24, .iload_n 2), (25, .invokevirtual 58), (28, .aload_n 0), (29, .iload_n 3), (30, .invokevirtual 58), (33, .aload_n 0), (34, .iload 4), (36, .invokevirtual 58), (39, .aload_n 0), (40, .iload 5), (42, .invokevirtual 58), (45, .aload_n 0), (46, .getfield 23), (49, .getfield 55), (52, .ireturn)], ([], zp_8)))
def mc8_feedInt : zv_M := ((RX8, (⟨RX8, "feedInt", "(I)V"⟩, (prog_1_method_8_code, (3, none)))), ([(0, .bipush 24), (2, .istore_n 2), (3, .iload_n 2), (4, .ifCond .lt 23), (7, .aload_n 0), (8, .getfield 23), (11, .iload_n 1), (12, .iload_n 2), (13, .iushr), (14, .sipush 255), (17, .iand), (18, .invokevirtual 62), (21, .iinc 2 (-8)), (24, .goto (-21)), (27, .return_)], ([(3, [true, true, true])], zp_8)))
def mc8_fault : zv_M := ((RX8, (⟨RX8, "fault", "(I)I"⟩, (prog_1_method_9_code, (2, (some .int))))), ([(0, .aload_n 0), (1, .getfield 44), (4, .ifCond .eq 12), (7, .iload_n 1), (8, .iconst 0), (9, .iconst 1), (10, .invokestatic 65), (13, .ifCond .ne 5), (16, .iconst (-1)), (17, .ireturn), (18, .iload_n 1), (19, .ifCond .ne 13), (22, .aload_n 0), (23, .getfield 23), (26, .getfield 69), (29, .goto 10), (32, .aload_n 0), (33, .getfield 23), (36, .getfield 72), (39, .ireturn)], ([], zp_8)))
def mc8_type : zv_M := ((RX8, (⟨RX8, "type", "(II)I"⟩, (prog_1_method_10_code, (5, (some .int))))), ([(0, .iconst 0), (1, .istore_n 3), (2, .iload_n 3), (3, .bipush 12), (5, .if_icmp .ge 31), (8, .iload_n 1), (9, .iload_n 2), (10, .iload_n 3), (11, .invokestatic 75), (14, .ifCond .eq 22), (17, .iload_n 1), (18, .iload_n 2), (19, .iload_n 3), (20, .invokestatic 75), (23, .bipush 26), (25, .if_icmp .le 5), (28, .iconst (-1)), (29, .ireturn), (30, .iinc 3 1), (33, .goto (-31)), (36, .aload_n 0), (37, .getfield 16), (40, .invokevirtual 79), (43, .iconst 0), (44, .istore 4), (46, .iload 4), (48, .iload_n 3), (49, .if_icmp .ge 25), (52, .aload_n 0), (53, .getfield 16), (56, .iload_n 1), (57, .iload_n 2), (58, .iload 4), (60, .invokestatic 75), (63, .iconst 1), (64, .isub), (65, .invokevirtual 82), (68, .iinc 4 1), (71, .goto (-25)), (74, .iload_n 3), (75, .ireturn)], ([(2, [true, true, true, true, false]), (36, [true, true, true, true, false]), (46, [true, true, true, true, true])], zp_8)))
def mc8_typedLetter : zv_M := ((RX8, (⟨RX8, "typedLetter", "(III)I"⟩, (prog_1_method_11_code, (4, (some .int))))), ([(0, .bipush 6), (2, .istore_n 3), (3, .iload_n 2), (4, .iload_n 3), (5, .if_icmp .ge 11), (8, .iload_n 0), (9, .iconst 5), (10, .iload_n 2), (11, .imul), (12, .iushr), (13, .goto 10), (16, .iload_n 1), (17, .iconst 5), (18, .iload_n 2), (19, .iload_n 3), (20, .isub), (21, .imul), (22, .iushr), (23, .bipush 31), (25, .iand), (26, .ireturn)], ([], zp_8)))
def mc8_load : zv_M := ((RX8, (⟨RX8, "load", "(I)I"⟩, (prog_1_method_12_code, (3, (some .int))))), ([(0, .iload_n 1), (1, .iconst 0), (2, .aload_n 0), (3, .getfield 23), (6, .getfield 55), (9, .invokestatic 65), (12, .ifCond .ne 9), (15, .aload_n 0), (16, .iconst 1), (17, .invokevirtual 48), (20, .ireturn), (21, .aload_n 0), (22, .iconst 1), (23, .putfield 44), (26, .aload_n 0), (27, .getfield 34), (30, .invokevirtual 85), (33, .aload_n 0), (34, .getfield 23), (37, .iload_n 1), (38, .invokevirtual 88), (41, .aload_n 0), (42, .getfield 23), (45, .aload_n 0), (46, .getfield 34), (49, .invokevirtual 90), (52, .iconst 0), (53, .istore_n 2), (54, .iload_n 2), (55, .iload_n 1), (56, .if_icmp .gt 61), (59, .aload_n 0), (60, .getfield 23), (63, .invokevirtual 94), (66, .ifCond .eq 51), (69, .aload_n 0), (70, .getfield 23), (73, .invokevirtual 98), (76, .ifCond .eq 35), (79, .aload_n 0), (80, .aload_n 0), (81, .getfield 34), (84, .invokevirtual 101), (87, .ifCond .ge 16), (90, .aload_n 0), (91, .getfield 23), (94, .bipush 7), (96, .invokevirtual 105), (99, .pop), (100, .goto 11), (103, .aload_n 0), (104, .getfield 23), (107, .invokevirtual 109), (110, .pop), (111, .iinc 2 1), (114, .goto (-60)), (117, .aload_n 0), (118, .getfield 23), (121, .getfield 69), (124, .ifCond .eq 10), (127, .aload_n 0), (128, .bipush 9), (130, .invokevirtual 48), (133, .ireturn), (134, .aload_n 0), (135, .getfield 30), (138, .astore_n 2), (139, .aload_n 0), (140, .aload_n 0), (141, .getfield 34), (144, .putfield 30), (147, .aload_n 0), (148, .aload_n 2), (149, .putfield 34), (152, .aload_n 0), (153, .aload_n 0), (154, .getfield 30), (157, .getfield 112), (160, .invokevirtual 52), (163, .ireturn)], ([(54, [true, true, true]), (117, [true, false, false])], zp_8)))
def mc8_done : zv_M := ((RX8, (⟨RX8, "done", "(LBranchedText$History;)I"⟩, (prog_1_method_13_code, (2, (some .int))))), ([(0, .aload_n 0), (1, .getfield 23), (4, .getfield 115), (7, .tableswitch 208 0 11 #[61, 80, 99, 111, 116, 121, 133, 148, 160, 172, 184, 196]), (68, .aload_n 1), (69, .aload_n 0), (70, .getfield 23), (73, .getfield 118), (76, .aload_n 0), (77, .getfield 23), (80, .getfield 121), (83, .invokevirtual 124), (86, .ireturn), (87, .aload_n 1), (88, .aload_n 0), (89, .getfield 23), (92, .getfield 118), (95, .aload_n 0), (96, .getfield 23), (99, .getfield 128), (102, .invokevirtual 131), (105, .ireturn), (106, .aload_n 1), (107, .aload_n 0), (108, .getfield 23), (111, .getfield 118), (114, .invokevirtual 135), (117, .ireturn), (118, .aload_n 1), (119, .invokevirtual 138), (122, .ireturn), (123, .aload_n 1), (124, .invokevirtual 142), (127, .ireturn), (128, .aload_n 1), (129, .aload_n 0), (130, .getfield 23), (133, .getfield 118), (136, .invokevirtual 145), (139, .ireturn), (140, .aload_n 1), (141, .aload_n 0), (142, .getfield 23), (145, .getfield 121), (148, .invokevirtual 148), (151, .invokevirtual 151), (154, .ireturn), (155, .aload_n 1), (156, .aload_n 0), (157, .getfield 23), (160, .getfield 118), (163, .invokevirtual 154), (166, .ireturn), (167, .aload_n 1), (168, .aload_n 0), (169, .getfield 23), (172, .getfield 118), (175, .invokevirtual 157), (178, .ireturn), (179, .aload_n 1), (180, .aload_n 0), (181, .getfield 23), (184, .getfield 118), (187, .invokevirtual 160), (190, .ireturn), (191, .aload_n 1), (192, .aload_n 0), (193, .getfield 23), (196, .getfield 118), (199, .invokevirtual 163), (202, .ireturn), (203, .aload_n 1), (204, .aload_n 0), (205, .getfield 23), (208, .getfield 118), (211, .invokevirtual 166), (214, .ireturn), (215, .iconst (-1)), (216, .ireturn)], ([], zp_8)))
def mc8_many : zv_M := ((RX8, (⟨RX8, "many", "(I)I"⟩, (prog_1_method_14_code, (2, (some .int))))), ([(0, .iload_n 1), (1, .tableswitch 196 0 9 #[55, 67, 82, 94, 109, 124, 139, 151, 163, 181]), (56, .aload_n 0), (57, .aload_n 0), (58, .getfield 30), (61, .getfield 112), (64, .invokevirtual 52), (67, .ireturn), (68, .aload_n 0), (69, .aload_n 0), (70, .getfield 30), (73, .getfield 169), (76, .getfield 173), (79, .invokevirtual 52), (82, .ireturn), (83, .aload_n 0), (84, .aload_n 0), (85, .getfield 30), (88, .getfield 178), (91, .invokevirtual 52), (94, .ireturn), (95, .aload_n 0), (96, .aload_n 0), (97, .getfield 30), (100, .getfield 169), (103, .getfield 181), (106, .invokevirtual 52), (109, .ireturn), (110, .aload_n 0), (111, .aload_n 0), (112, .getfield 30), (115, .invokevirtual 184), (118, .getfield 188), (121, .invokevirtual 52), (124, .ireturn), (125, .aload_n 0), (126, .aload_n 0), (127, .getfield 30), (130, .getfield 193), (133, .getfield 197), (136, .invokevirtual 52), (139, .ireturn), (140, .aload_n 0), (141, .aload_n 0), (142, .getfield 30), (145, .invokevirtual 200), (148, .invokevirtual 52), (151, .ireturn), (152, .aload_n 0), (153, .aload_n 0), (154, .getfield 30), (157, .invokevirtual 203), (160, .invokevirtual 52), (163, .ireturn), (164, .aload_n 0), (165, .aload_n 0), (166, .getfield 30), (169, .invokevirtual 184), (172, .invokevirtual 206), (175, .invokestatic 210), (178, .invokevirtual 52), (181, .ireturn), (182, .aload_n 0), (183, .aload_n 0), (184, .getfield 30), (187, .getfield 216), (190, .getfield 220), (193, .invokevirtual 52), (196, .ireturn), (197, .aload_n 0), (198, .iconst 1), (199, .invokevirtual 48), (202, .ireturn)], ([], zp_8)))
def mc8_letter : zv_M := ((RX8, (⟨RX8, "letter", "(II)I"⟩, (prog_1_method_15_code, (4, (some .int))))), ([(0, .iload_n 2), (1, .ifCond .ge 9), (4, .aload_n 0), (5, .iconst 1), (6, .invokevirtual 48), (9, .ireturn), (10, .aload_n 0), (11, .getfield 30), (14, .iload_n 1), (15, .invokevirtual 223), (18, .astore_n 3), (19, .aload_n 3), (20, .ifnonnull 9), (23, .aload_n 0), (24, .iconst 2), (25, .invokevirtual 48), (28, .ireturn), (29, .iload_n 2), (30, .aload_n 3), (31, .getfield 181), (34, .if_icmp .lt 9), (37, .aload_n 0), (38, .iconst 5), (39, .invokevirtual 48), (42, .ireturn), (43, .aload_n 0), (44, .aload_n 0), (45, .getfield 30), (48, .aload_n 3), (49, .iload_n 2), (50, .invokevirtual 227), (53, .invokevirtual 52), (56, .ireturn)], ([], zp_8)))
def mc8_state : zv_M := ((RX8, (⟨RX8, "state", "(II)I"⟩, (prog_1_method_16_code, (4, (some .int))))), ([(0, .iload_n 2), (1, .iconst 0), (2, .bipush 9), (4, .invokestatic 65), (7, .ifCond .ne 9), (10, .aload_n 0), (11, .iconst 1), (12, .invokevirtual 48), (15, .ireturn), (16, .aload_n 0), (17, .getfield 30), (20, .iload_n 1), (21, .invokevirtual 223), (24, .astore_n 3), (25, .aload_n 3), (26, .ifnonnull 9), (29, .aload_n 0), (30, .iconst 2), (31, .invokevirtual 48), (34, .ireturn), (35, .iload_n 2), (36, .tableswitch 161 0 8 #[52, 75, 84, 93, 102, 111, 134, 143, 152]), (88, .aload_n 0), (89, .aload_n 3), (90, .getfield 231), (93, .ifnonnull 7), (96, .iconst (-1)), (97, .goto 10), (100, .aload_n 3), (101, .getfield 231), (104, .getfield 173), (107, .invokevirtual 52), (110, .ireturn), (111, .aload_n 0), (112, .aload_n 3), (113, .getfield 234), (116, .invokevirtual 52), (119, .ireturn), (120, .aload_n 0), (121, .aload_n 3), (122, .getfield 237), (125, .invokevirtual 52), (128, .ireturn), (129, .aload_n 0), (130, .aload_n 3), (131, .getfield 240), (134, .invokevirtual 52), (137, .ireturn), (138, .aload_n 0), (139, .aload_n 3), (140, .getfield 243), (143, .invokevirtual 52), (146, .ireturn), (147, .aload_n 0), (148, .aload_n 3), (149, .getfield 244), (152, .ifnonnull 7), (155, .iconst (-1)), (156, .goto 10), (159, .aload_n 3), (160, .getfield 244), (163, .getfield 173), (166, .invokevirtual 52), (169, .ireturn), (170, .aload_n 0), (171, .aload_n 3), (172, .getfield 247), (175, .invokevirtual 52), (178, .ireturn), (179, .aload_n 0), (180, .aload_n 3), (181, .getfield 250), (184, .invokevirtual 52), (187, .ireturn), (188, .aload_n 0), (189, .aload_n 3), (190, .getfield 181), (193, .invokevirtual 52), (196, .ireturn), (197, .aload_n 0), (198, .aload_n 0), (199, .getfield 30), (202, .getfield 193), (205, .aload_n 3), (206, .getfield 173), (209, .invokevirtual 253), (212, .invokevirtual 52), (215, .ireturn)], ([(107, [false, false, false, false]), (166, [false, false, false, false])], zp_8)))
def mc8_child : zv_M := ((RX8, (⟨RX8, "child", "(II)I"⟩, (prog_1_method_17_code, (5, (some .int))))), ([(0, .iload_n 2), (1, .ifCond .ge 9), (4, .aload_n 0), (5, .iconst 1), (6, .invokevirtual 48), (9, .ireturn), (10, .aload_n 0), (11, .getfield 30), (14, .iload_n 1), (15, .invokevirtual 223), (18, .astore_n 3), (19, .aload_n 3), (20, .ifnonnull 9), (23, .aload_n 0), (24, .iconst 2), (25, .invokevirtual 48), (28, .ireturn), (29, .aload_n 0), (30, .getfield 30), (33, .aload_n 3), (34, .iload_n 2), (35, .invokevirtual 256), (38, .astore 4), (40, .aload 4), (42, .ifnonnull 11), (45, .aload_n 0), (46, .iconst 5), (47, .invokevirtual 48), (50, .goto 12), (53, .aload_n 0), (54, .aload 4), (56, .getfield 173), (59, .invokevirtual 52), (62, .ireturn)], ([], zp_8)))
def mc8_force : zv_M := ((RX8, (⟨RX8, "force", "(II)I"⟩, (prog_1_method_18_code, (6, (some .int))))), ([(0, .aload_n 0), (1, .getfield 30), (4, .iload_n 1), (5, .invokevirtual 223), (8, .astore_n 3), (9, .aload_n 0), (10, .getfield 30), (13, .iload_n 2), (14, .invokevirtual 223), (17, .astore 4), (19, .aload_n 3), (20, .ifnull 8), (23, .aload 4), (25, .ifnonnull 9), (28, .aload_n 0), (29, .iconst 2), (30, .invokevirtual 48), (33, .ireturn), (34, .aload_n 0), (35, .getfield 30), (38, .getfield 260), (41, .astore 5), (43, .aload 5), (45, .aload 4), (47, .invokevirtual 264), (50, .aload 5), (52, .getfield 268), (55, .aload_n 3), (56, .invokevirtual 272), (59, .land), (60, .lconst 0), (61, .lcmp), (62, .ifCond .ne 9), (65, .aload_n 0), (66, .iconst 5), (67, .invokevirtual 48), (70, .ireturn), (71, .aload_n 0), (72, .aload 5), (74, .getfield 275), (77, .aload_n 3), (78, .invokevirtual 272), (81, .land), (82, .lconst 0), (83, .lcmp), (84, .ifCond .eq 7), (87, .iconst 1), (88, .goto 4), (91, .iconst 0), (92, .invokevirtual 52), (95, .ireturn)], ([(28, [true, false, false, false, false, false]), (92, [false, false, false, false, false, false])], zp_8)))
def mc8_blame : zv_M := ((RX8, (⟨RX8, "blame", "(II)I"⟩, (prog_1_method_19_code, (4, (some .int))))), ([(0, .iload_n 1), (1, .ifCond .lt 12), (4, .iload_n 2), (5, .iconst 0), (6, .iconst 2), (7, .invokestatic 65), (10, .ifCond .ne 9), (13, .aload_n 0), (14, .iconst 1), (15, .invokevirtual 48), (18, .ireturn), (19, .aload_n 0), (20, .getfield 30), (23, .getfield 169), (26, .iload_n 1), (27, .invokevirtual 278), (30, .istore_n 3), (31, .iload_n 3), (32, .iconst (-1)), (33, .if_icmp .ne 9), (36, .aload_n 0), (37, .iconst 5), (38, .invokevirtual 48), (41, .ireturn), (42, .iload_n 2), (43, .lookupswitch 43 #[(0, 25), (1, 34)]), (68, .aload_n 0), (69, .iload_n 3), (70, .invokestatic 281), (73, .invokevirtual 52), (76, .ireturn), (77, .aload_n 0), (78, .iload_n 3), (79, .invokestatic 284), (82, .invokevirtual 52), (85, .ireturn), (86, .aload_n 0), (87, .aload_n 0), (88, .getfield 30), (91, .invokevirtual 184), (94, .iload_n 3), (95, .invokevirtual 287), (98, .invokevirtual 52), (101, .ireturn)], ([(13, [true, false, false, false])], zp_8)))
def mc8_row : zv_M := ((RX8, (⟨RX8, "row", "(II)I"⟩, (prog_1_method_20_code, (5, (some .int))))), ([(0, .iload_n 1), (1, .ifCond .lt 12), (4, .iload_n 2), (5, .iconst 0), (6, .iconst 4), (7, .invokestatic 65), (10, .ifCond .ne 9), (13, .aload_n 0), (14, .iconst 1), (15, .invokevirtual 48), (18, .ireturn), (19, .aload_n 0), (20, .getfield 30), (23, .invokevirtual 184), (26, .astore_n 3), (27, .aload_n 3), (28, .iload_n 1), (29, .invokevirtual 290), (32, .istore 4), (34, .iload 4), (36, .iconst (-1)), (37, .if_icmp .ne 9), (40, .aload_n 0), (41, .iconst 5), (42, .invokevirtual 48), (45, .ireturn), (46, .iload_n 2), (47, .tableswitch 82 0 3 #[29, 43, 53, 71]), (76, .aload_n 0), (77, .aload_n 0), (78, .getfield 30), (81, .iload 4), (83, .invokevirtual 291), (86, .invokevirtual 52), (89, .ireturn), (90, .aload_n 0), (91, .iload 4), (93, .invokestatic 281), (96, .invokevirtual 52), (99, .ireturn), (100, .aload_n 0), (101, .aload_n 3), (102, .iload_n 1), (103, .invokevirtual 294), (106, .ifCond .eq 7), (109, .iconst 1), (110, .goto 4), (113, .iconst 0), (114, .invokevirtual 52), (117, .ireturn), (118, .aload_n 0), (119, .aload_n 3), (120, .iload 4), (122, .invokevirtual 297), (125, .invokevirtual 52), (128, .ireturn), (129, .aload_n 0), (130, .aload_n 3), (131, .iload 4), (133, .invokevirtual 300), (136, .invokevirtual 52), (139, .ireturn)], ([(13, [true, false, false, false, false]), (114, [false, false, false, false, false])], zp_8)))
def mc8_visit : zv_M := ((RX8, (⟨RX8, "visit", "(II)I"⟩, (prog_1_method_21_code, (3, (some .int))))), ([(0, .iload_n 1), (1, .iconst 0), (2, .bipush 39), (4, .invokestatic 65), (7, .ifCond .eq 12), (10, .iload_n 2), (11, .iconst 0), (12, .iconst 1), (13, .invokestatic 65), (16, .ifCond .ne 9), (19, .aload_n 0), (20, .iconst 1), (21, .invokevirtual 48), (24, .ireturn), (25, .iload_n 1), (26, .aload_n 0), (27, .getfield 30), (30, .getfield 216), (33, .getfield 220), (36, .if_icmp .lt 9), (39, .aload_n 0), (40, .iconst 5), (41, .invokevirtual 48), (44, .ireturn), (45, .aload_n 0), (46, .iload_n 2), (47, .ifCond .ne 17), (50, .aload_n 0), (51, .getfield 30), (54, .getfield 216), (57, .iload_n 1), (58, .invokevirtual 303), (61, .goto 14), (64, .aload_n 0), (65, .getfield 30), (68, .getfield 216), (71, .iload_n 1), (72, .invokevirtual 306), (75, .invokevirtual 52), (78, .ireturn)], ([(19, [true, false, false]), (75, [false, false, false])], zp_8)))
def mc8_named : zv_M := ((RX8, (⟨RX8, "named", "()I"⟩, (prog_1_method_22_code, (3, (some .int))))), ([(0, .aload_n 0), (1, .getfield 16), (4, .invokevirtual 148), (7, .istore_n 1), (8, .iload_n 1), (9, .ifCond .ne 9), (12, .aload_n 0), (13, .iconst 1), (14, .invokevirtual 48), (17, .ireturn), (18, .aload_n 0), (19, .getfield 30), (22, .getfield 193), (25, .iload_n 1), (26, .invokevirtual 309), (29, .istore_n 2), (30, .iload_n 2), (31, .ifCond .ge 11), (34, .aload_n 0), (35, .iconst 5), (36, .invokevirtual 48), (39, .goto 18), (42, .aload_n 0), (43, .aload_n 0), (44, .getfield 30), (47, .getfield 193), (50, .iload_n 2), (51, .invokevirtual 312), (54, .invokevirtual 52), (57, .ireturn)], ([], zp_8)))
def mc8_leans : zv_M := ((RX8, (⟨RX8, "leans", "(II)I"⟩, (prog_1_method_23_code, (7, (some .int))))), ([(0, .aload_n 0), (1, .getfield 30), (4, .iload_n 1), (5, .invokevirtual 223), (8, .astore_n 3), (9, .aload_n 0), (10, .getfield 30), (13, .iload_n 2), (14, .invokevirtual 223), (17, .astore 4), (19, .aload_n 3), (20, .ifnull 8), (23, .aload 4), (25, .ifnonnull 9), (28, .aload_n 0), (29, .iconst 2), (30, .invokevirtual 48), (33, .ireturn), (34, .aload_n 3), (35, .getfield 250), (38, .aload 4), (40, .getfield 250), (43, .if_icmp .lt 7), (46, .aload_n 3), (47, .goto 5), (50, .aload 4), (52, .astore 5), (54, .aload 5), (56, .aload_n 3), (57, .if_acmp .ne 8), (60, .aload 4), (62, .goto 4), (65, .aload_n 3), (66, .astore 6), (68, .aload 5), (70, .invokevirtual 315), (73, .ifCond .eq 21), (76, .aload 6), (78, .invokevirtual 315), (81, .ifCond .eq 13), (84, .aload 6), (86, .aload 5), (88, .invokestatic 318), (91, .ifCond .ne 9), (94, .aload_n 0), (95, .iconst 5), (96, .invokevirtual 48), (99, .ireturn), (100, .aload_n 0), (101, .aload 5), (103, .getfield 322), (106, .aload 6), (108, .invokevirtual 272), (111, .land), (112, .lconst 0), (113, .lcmp), (114, .ifCond .eq 7), (117, .iconst 1), (118, .goto 4), (121, .iconst 0), (122, .invokevirtual 52), (125, .ireturn)], ([(28, [true, false, false, false, false, false, false]), (52, [true, false, false, true, true, false, false]), (66, [true, false, false, false, false, true, false]), (94, [true, false, false, false, false, false, false]), (122, [false, false, false, false, false, false, false])], zp_8)))
def mc8_put : zv_M := ((RX8, (⟨RX8, "put", "(I)I"⟩, (prog_1_method_24_code, (2, (some .int))))), ([(0, .aload_n 0), (1, .aload_n 0), (2, .getfield 30), (5, .iload_n 1), (6, .aload_n 0), (7, .getfield 16), (10, .invokevirtual 124), (13, .invokevirtual 325), (16, .ireturn)], ([], zp_8)))
def mc8_cut : zv_M := ((RX8, (⟨RX8, "cut", "(II)I"⟩, (prog_1_method_25_code, (3, (some .int))))), ([(0, .aload_n 0), (1, .aload_n 0), (2, .getfield 30), (5, .iload_n 1), (6, .iload_n 2), (7, .invokevirtual 131), (10, .invokevirtual 325), (13, .ireturn)], ([], zp_8)))
def mc8_wait : zv_M := ((RX8, (⟨RX8, "wait", "(I)I"⟩, (prog_1_method_26_code, (2, (some .int))))), ([(0, .aload_n 0), (1, .aload_n 0), (2, .getfield 30), (5, .iload_n 1), (6, .invokevirtual 135), (9, .invokevirtual 325), (12, .ireturn)], ([], zp_8)))
def mc8_undo : zv_M := ((RX8, (⟨RX8, "undo", "()I"⟩, (prog_1_method_27_code, (1, (some .int))))), ([(0, .aload_n 0), (1, .aload_n 0), (2, .getfield 30), (5, .invokevirtual 138), (8, .invokevirtual 325), (11, .ireturn)], ([], zp_8)))
def mc8_redo : zv_M := ((RX8, (⟨RX8, "redo", "()I"⟩, (prog_1_method_28_code, (1, (some .int))))), ([(0, .aload_n 0), (1, .aload_n 0), (2, .getfield 30), (5, .invokevirtual 142), (8, .invokevirtual 325), (11, .ireturn)], ([], zp_8)))
def mc8_go : zv_M := ((RX8, (⟨RX8, "go", "(I)I"⟩, (prog_1_method_29_code, (2, (some .int))))), ([(0, .aload_n 0), (1, .aload_n 0), (2, .getfield 30), (5, .iload_n 1), (6, .invokevirtual 145), (9, .invokevirtual 325), (12, .ireturn)], ([], zp_8)))
def mc8_name : zv_M := ((RX8, (⟨RX8, "name", "()I"⟩, (prog_1_method_30_code, (1, (some .int))))), ([(0, .aload_n 0), (1, .aload_n 0), (2, .getfield 30), (5, .aload_n 0), (6, .getfield 16), (9, .invokevirtual 148), (12, .invokevirtual 151), (15, .invokevirtual 325), (18, .ireturn)], ([], zp_8)))
def mc8_unname : zv_M := ((RX8, (⟨RX8, "unname", "()I"⟩, (prog_1_method_31_code, (1, (some .int))))), ([(0, .aload_n 0), (1, .aload_n 0), (2, .getfield 30), (5, .aload_n 0), (6, .getfield 16), (9, .invokevirtual 148), (12, .invokevirtual 328), (15, .invokevirtual 325), (18, .ireturn)], ([], zp_8)))
def mc8_withdraw : zv_M := ((RX8, (⟨RX8, "withdraw", "(I)I"⟩, (prog_1_method_32_code, (2, (some .int))))), ([(0, .aload_n 0), (1, .aload_n 0), (2, .getfield 30), (5, .iload_n 1), (6, .invokevirtual 154), (9, .invokevirtual 325), (12, .ireturn)], ([], zp_8)))
def mc8_restore : zv_M := ((RX8, (⟨RX8, "restore", "(I)I"⟩, (prog_1_method_33_code, (2, (some .int))))), ([(0, .aload_n 0), (1, .aload_n 0), (2, .getfield 30), (5, .iload_n 1), (6, .invokevirtual 157), (9, .invokevirtual 325), (12, .ireturn)], ([], zp_8)))
def mc8_carry : zv_M := ((RX8, (⟨RX8, "carry", "(I)I"⟩, (prog_1_method_34_code, (2, (some .int))))), ([(0, .aload_n 0), (1, .aload_n 0), (2, .getfield 30), (5, .iload_n 1), (6, .invokevirtual 160), (9, .invokevirtual 325), (12, .ireturn)], ([], zp_8)))
def mc8_merge : zv_M := ((RX8, (⟨RX8, "merge", "(I)I"⟩, (prog_1_method_35_code, (2, (some .int))))), ([(0, .aload_n 0), (1, .aload_n 0), (2, .getfield 30), (5, .iload_n 1), (6, .invokevirtual 163), (9, .invokevirtual 325), (12, .ireturn)], ([], zp_8)))
def mc8_prune : zv_M := ((RX8, (⟨RX8, "prune", "(I)I"⟩, (prog_1_method_36_code, (2, (some .int))))), ([(0, .aload_n 0), (1, .aload_n 0), (2, .getfield 30), (5, .iload_n 1), (6, .invokevirtual 166), (9, .invokevirtual 325), (12, .ireturn)], ([], zp_8)))
def mc8_common : zv_M := ((RX8, (⟨RX8, "common", "(II)I"⟩, (prog_1_method_37_code, (5, (some .int))))), ([(0, .aload_n 0), (1, .getfield 30), (4, .iload_n 1), (5, .invokevirtual 223), (8, .astore_n 3), (9, .aload_n 0), (10, .getfield 30), (13, .iload_n 2), (14, .invokevirtual 223), (17, .astore 4), (19, .aload_n 3), (20, .ifnull 8), (23, .aload 4), (25, .ifnonnull 9), (28, .aload_n 0), (29, .iconst 2), (30, .invokevirtual 48), (33, .ireturn), (34, .aload_n 0), (35, .aload_n 3), (36, .aload 4), (38, .invokestatic 331), (41, .getfield 173), (44, .invokevirtual 52), (47, .ireturn)], ([(28, [true, false, false, false, false])], zp_8)))
def mc8_way : zv_M := ((RX8, (⟨RX8, "way", "(III)I"⟩, (prog_1_method_38_code, (7, (some .int))))), ([(0, .iload_n 3), (1, .ifCond .ge 9), (4, .aload_n 0), (5, .iconst 1), (6, .invokevirtual 48), (9, .ireturn), (10, .aload_n 0), (11, .getfield 30), (14, .iload_n 1), (15, .invokevirtual 223), (18, .astore 4), (20, .aload_n 0), (21, .getfield 30), (24, .iload_n 2), (25, .invokevirtual 223), (28, .astore 5), (30, .aload 4), (32, .ifnull 8), (35, .aload 5), (37, .ifnonnull 9), (40, .aload_n 0), (41, .iconst 2), (42, .invokevirtual 48), (45, .ireturn), (46, .aload 4), (48, .aload 5), (50, .iload_n 3), (51, .invokestatic 335), (54, .astore 6), (56, .aload 6), (58, .ifnonnull 11), (61, .aload_n 0), (62, .iconst 5), (63, .invokevirtual 48), (66, .goto 12), (69, .aload_n 0), (70, .aload 6), (72, .getfield 173), (75, .invokevirtual 52), (78, .ireturn)], ([(40, [true, false, false, false, false, false, false])], zp_8)))
def mc8_between : zv_M := ((RX8, (⟨RX8, "between", "(III)I"⟩, (prog_1_method_39_code, (6, (some .int))))), ([(0, .iload_n 3), (1, .iconst 0), (2, .iconst 3), (3, .invokestatic 65), (6, .ifCond .ne 9), (9, .aload_n 0), (10, .iconst 1), (11, .invokevirtual 48), (14, .ireturn), (15, .aload_n 0), (16, .getfield 30), (19, .iload_n 1), (20, .invokevirtual 223), (23, .astore 4), (25, .aload_n 0), (26, .getfield 30), (29, .iload_n 2), (30, .invokevirtual 223), (33, .astore 5), (35, .aload 4), (37, .ifnull 8), (40, .aload 5), (42, .ifnonnull 9), (45, .aload_n 0), (46, .iconst 2), (47, .invokevirtual 48), (50, .ireturn), (51, .iload_n 3), (52, .tableswitch 88 0 2 #[28, 44, 66]), (80, .aload_n 0), (81, .aload_n 0), (82, .getfield 30), (85, .aload 4), (87, .aload 5), (89, .invokevirtual 339), (92, .invokevirtual 52), (95, .ireturn), (96, .aload_n 0), (97, .aload 4), (99, .getfield 181), (102, .aload_n 0), (103, .getfield 30), (106, .aload 4), (108, .aload 5), (110, .invokevirtual 339), (113, .isub), (114, .invokevirtual 52), (117, .ireturn), (118, .aload_n 0), (119, .aload 5), (121, .getfield 181), (124, .aload_n 0), (125, .getfield 30), (128, .aload 4), (130, .aload 5), (132, .invokevirtual 339), (135, .isub), (136, .invokevirtual 52), (139, .ireturn), (140, .aload_n 0), (141, .aload_n 0), (142, .getfield 30), (145, .aload 4), (147, .aload 5), (149, .invokevirtual 343), (152, .invokevirtual 52), (155, .ireturn)], ([(45, [true, false, false, false, false, false])], zp_8)))
def mc8_least : zv_M := ((RX8, (⟨RX8, "least", "(II)I"⟩, (prog_1_method_40_code, (5, (some .int))))), ([(0, .aload_n 0), (1, .getfield 30), (4, .iload_n 1), (5, .invokevirtual 223), (8, .astore_n 3), (9, .aload_n 0), (10, .getfield 30), (13, .iload_n 2), (14, .invokevirtual 223), (17, .astore 4), (19, .aload_n 3), (20, .ifnull 8), (23, .aload 4), (25, .ifnonnull 9), (28, .aload_n 0), (29, .iconst 2), (30, .invokevirtual 48), (33, .ireturn), (34, .aload_n 0), (35, .aload_n 3), (36, .getfield 181), (39, .aload 4), (41, .getfield 181), (44, .iadd), (45, .iconst 2), (46, .aload_n 0), (47, .getfield 30), (50, .aload_n 3), (51, .aload 4), (53, .invokevirtual 346), (56, .imul), (57, .isub), (58, .invokevirtual 52), (61, .ireturn)], ([(28, [true, false, false, false, false])], zp_8)))
def mc8_merges : zv_M := ((RX8, (⟨RX8, "merges", "(II)I"⟩, (prog_1_method_41_code, (3, (some .int))))), ([(0, .iload_n 2), (1, .iconst 0), (2, .iconst 2), (3, .invokestatic 65), (6, .ifCond .ne 9), (9, .aload_n 0), (10, .iconst 1), (11, .invokevirtual 48), (14, .ireturn), (15, .aload_n 0), (16, .aload_n 0), (17, .getfield 30), (20, .iload_n 1), (21, .iload_n 2), (22, .invokevirtual 349), (25, .invokevirtual 325), (28, .ireturn)], ([], zp_8)))
def mc8_tell : zv_M := ((RX8, (⟨RX8, "tell", "(I)I"⟩, (prog_1_method_42_code, (2, (some .int))))), ([(0, .iload_n 1), (1, .iconst 0), (2, .iconst 2), (3, .invokestatic 65), (6, .ifCond .ne 9), (9, .aload_n 0), (10, .iconst 1), (11, .invokevirtual 48), (14, .ireturn), (15, .aload_n 0), (16, .iconst 0), (17, .putfield 37), (20, .iload_n 1), (21, .ifCond .ne 10), (24, .aload_n 0), (25, .invokevirtual 352), (28, .goto 19), (31, .iload_n 1), (32, .iconst 1), (33, .if_icmp .ne 10), (36, .aload_n 0), (37, .invokevirtual 355), (40, .goto 7), (43, .aload_n 0), (44, .invokevirtual 358), (47, .aload_n 0), (48, .aload_n 0), (49, .getfield 37), (52, .invokevirtual 52), (55, .ireturn)], ([(47, [true, false])], zp_8)))
def mc8_tellDocument : zv_M := ((RX8, (⟨RX8, "tellDocument", "()V"⟩, (prog_1_method_43_code, (3, none)))), ([(0, .aload_n 0), (1, .getfield 30), (4, .getfield 169), (7, .astore_n 1), (8, .iconst 0), (9, .istore_n 2), (10, .iload_n 2), (11, .aload_n 1), (12, .getfield 181), (15, .if_icmp .ge 25), (18, .aload_n 0), (19, .bipush 97), (21, .aload_n 0), (22, .getfield 30), (25, .aload_n 1), (26, .iload_n 2), (27, .invokevirtual 227), (30, .iadd), (31, .invokevirtual 361), (34, .iinc 2 1), (37, .goto (-27)), (40, .return_)], ([(10, [true, true, true])], zp_8)))
def mc8_tellLine : zv_M := ((RX8, (⟨RX8, "tellLine", "()V"⟩, (prog_1_method_44_code, (3, none)))), ([(0, .aload_n 0), (1, .getfield 30), (4, .invokevirtual 184), (7, .astore_n 1), (8, .iconst 0), (9, .istore_n 2), (10, .iload_n 2), (11, .aload_n 1), (12, .getfield 364), (15, .if_icmp .ge 28), (18, .iload_n 2), (19, .ifCond .le 9), (22, .aload_n 0), (23, .bipush 60), (25, .invokevirtual 361), (28, .aload_n 0), (29, .aload_n 1), (30, .iload_n 2), (31, .invokevirtual 367), (34, .invokevirtual 370), (37, .iinc 2 1), (40, .goto (-30)), (43, .return_)], ([(10, [true, true, true]), (28, [true, true, true])], zp_8)))
def mc8_tellNames : zv_M := ((RX8, (⟨RX8, "tellNames", "()V"⟩, (prog_1_method_45_code, (4, none)))), ([(0, .aload_n 0), (1, .getfield 30), (4, .getfield 193), (7, .astore_n 1), (8, .iconst 0), (9, .istore_n 2), (10, .iload_n 2), (11, .aload_n 1), (12, .getfield 197), (15, .if_icmp .ge 62), (18, .iload_n 2), (19, .ifCond .le 9), (22, .aload_n 0), (23, .bipush 32), (25, .invokevirtual 361), (28, .aload_n 1), (29, .iload_n 2), (30, .invokevirtual 373), (33, .istore_n 3), (34, .iload_n 3), (35, .ifCond .le 21), (38, .aload_n 0), (39, .bipush 96), (41, .iload_n 3), (42, .bipush 31), (44, .iand), (45, .iadd), (46, .invokevirtual 361), (49, .iload_n 3), (50, .iconst 5), (51, .iushr), (52, .istore_n 3), (53, .goto (-19)), (56, .aload_n 0), (57, .bipush 61), (59, .invokevirtual 361), (62, .aload_n 0), (63, .aload_n 1), (64, .iload_n 2), (65, .invokevirtual 312), (68, .invokevirtual 370), (71, .iinc 2 1), (74, .goto (-64)), (77, .return_)], ([(10, [true, true, true, false]), (28, [true, true, true, false]), (34, [true, true, true, true])], zp_8)))
def mc8_tellNumber : zv_M := ((RX8, (⟨RX8, "tellNumber", "(I)V"⟩, (prog_1_method_46_code, (2, none)))), ([(0, .iload_n 1), (1, .bipush 10), (3, .if_icmp .lt 14), (6, .aload_n 0), (7, .bipush 48), (9, .iload_n 1), (10, .bipush 10), (12, .idiv), (13, .iadd), (14, .invokevirtual 361), (17, .aload_n 0), (18, .bipush 48), (20, .iload_n 1), (21, .bipush 10), (23, .irem), (24, .iadd), (25, .invokevirtual 361), (28, .return_)], ([(17, [true, true])], zp_8)))
def mc8_tellByte : zv_M := ((RX8, (⟨RX8, "tellByte", "(I)V"⟩, (prog_1_method_47_code, (2, none)))), ([(0, .aload_n 0), (1, .getfield 37), (4, .ifCond .lt 35), (7, .aload_n 0), (8, .getfield 37), (11, .aload_n 0), (12, .getfield 9), (15, .arraylength), (16, .if_icmp .ge 23), (19, .aload_n 0), (20, .getfield 9), (23, .aload_n 0), (24, .getfield 37), (27, .iload_n 1), (28, .iastore), (29, .aload_n 0), (30, .dup), (31, .getfield 37), (34, .iconst 1), (35, .iadd), (36, .putfield 37), (39, .return_)], ([], zp_8)))
def mc8_out : zv_M := ((RX8, (⟨RX8, "out", "(I)I"⟩, (prog_1_method_48_code, (2, (some .int))))), ([(0, .iload_n 1), (1, .ifCond .ge 9), (4, .aload_n 0), (5, .iconst 1), (6, .invokevirtual 48), (9, .ireturn), (10, .iload_n 1), (11, .aload_n 0), (12, .getfield 37), (15, .if_icmp .ge 12), (18, .iload_n 1), (19, .aload_n 0), (20, .getfield 9), (23, .arraylength), (24, .if_icmp .lt 11), (27, .aload_n 0), (28, .iconst 5), (29, .invokevirtual 48), (32, .goto 13), (35, .aload_n 0), (36, .aload_n 0), (37, .getfield 9), (40, .iload_n 1), (41, .iaload), (42, .invokevirtual 52), (45, .ireturn)], ([(27, [true, false])], zp_8)))
def mc8_leaning : zv_M := ((RX8, (⟨RX8, "leaning", "(II)I"⟩, (prog_1_method_49_code, (7, (some .int))))), ([(0, .iload_n 2), (1, .iconst 0), (2, .iconst 3), (3, .invokestatic 65), (6, .ifCond .ne 9), (9, .aload_n 0), (10, .iconst 1), (11, .invokevirtual 48), (14, .ireturn), (15, .aload_n 0), (16, .getfield 30), (19, .iload_n 1), (20, .invokevirtual 223), (23, .astore_n 3), (24, .aload_n 3), (25, .ifnonnull 9), (28, .aload_n 0), (29, .iconst 2), (30, .invokevirtual 48), (33, .ireturn), (34, .aload_n 0), (35, .getfield 30), (38, .invokevirtual 184), (41, .astore 4), (43, .aload 4), (45, .getfield 268), (48, .aload_n 3), (49, .invokevirtual 272), (52, .land), (53, .lconst 0), (54, .lcmp), (55, .ifCond .ne 10), (58, .aload_n 0), (59, .bipush 7), (61, .invokevirtual 48), (64, .ireturn), (65, .aload 4), (67, .aload_n 3), (68, .invokevirtual 376), (71, .lstore 5), (73, .iload_n 2), (74, .tableswitch 66 0 2 #[26, 36, 52]), (100, .aload_n 0), (101, .lload 5), (103, .invokestatic 210), (106, .invokevirtual 52), (109, .ireturn), (110, .aload_n 0), (111, .lload 5), (113, .aload 4), (115, .getfield 275), (118, .land), (119, .invokestatic 210), (122, .invokevirtual 52), (125, .ireturn), (126, .aload_n 0), (127, .aload_n 0), (128, .getfield 30), (131, .lload 5), (133, .invokevirtual 380), (136, .invokevirtual 52), (139, .ireturn), (140, .aload 4), (142, .aload 4), (144, .getfield 275), (147, .lload 5), (149, .ldc2_w 383), (152, .lxor), (153, .land), (154, .invokevirtual 385), (157, .aload_n 0), (158, .aload 4), (160, .getfield 389), (163, .invokevirtual 52), (166, .ireturn)], ([], zp_8)))
def mc8_find : zv_M := ((RX8, (⟨RX8, "find", "(I)I"⟩, (prog_1_method_50_code, (3, (some .int))))), ([(0, .iload_n 1), (1, .iconst 0), (2, .iconst 2), (3, .invokestatic 65), (6, .ifCond .eq 13), (9, .aload_n 0), (10, .getfield 16), (13, .getfield 392), (16, .ifCond .ne 9), (19, .aload_n 0), (20, .iconst 1), (21, .invokevirtual 48), (24, .ireturn), (25, .iload_n 1), (26, .iconst 1), (27, .if_icmp .ne 19), (30, .aload_n 0), (31, .aload_n 0), (32, .getfield 30), (35, .aload_n 0), (36, .getfield 16), (39, .invokevirtual 393), (42, .invokevirtual 52), (45, .ireturn), (46, .iload_n 1), (47, .ifCond .ne 17), (50, .aload_n 0), (51, .getfield 30), (54, .aload_n 0), (55, .getfield 16), (58, .invokevirtual 397), (61, .goto 21), (64, .aload_n 0), (65, .getfield 30), (68, .aload_n 0), (69, .getfield 30), (72, .getfield 169), (75, .aload_n 0), (76, .getfield 16), (79, .invokevirtual 400), (82, .istore_n 2), (83, .iload_n 2), (84, .iconst (-1)), (85, .if_icmp .ne 11), (88, .aload_n 0), (89, .iconst 5), (90, .invokevirtual 48), (93, .goto 8), (96, .aload_n 0), (97, .iload_n 2), (98, .invokevirtual 52), (101, .ireturn)], ([(19, [true, false, false]), (82, [true, false, false])], zp_8)))
def mc8_first : zv_M := ((RX8, (⟨RX8, "first", "()I"⟩, (prog_1_method_51_code, (2, (some .int))))), ([(0, .aload_n 0), (1, .getfield 30), (4, .invokevirtual 404), (7, .astore_n 1), (8, .aload_n 1), (9, .ifnonnull 11), (12, .aload_n 0), (13, .iconst 5), (14, .invokevirtual 48), (17, .goto 11), (20, .aload_n 0), (21, .aload_n 1), (22, .getfield 173), (25, .invokevirtual 52), (28, .ireturn)], ([], zp_8)))
def mc8_twin : zv_M := ((RX8, (⟨RX8, "twin", "(I)I"⟩, (prog_1_method_52_code, (4, (some .int))))), ([(0, .aload_n 0), (1, .getfield 30), (4, .iload_n 1), (5, .invokevirtual 223), (8, .astore_n 2), (9, .aload_n 2), (10, .ifnonnull 9), (13, .aload_n 0), (14, .iconst 2), (15, .invokevirtual 48), (18, .ireturn), (19, .aload_n 0), (20, .getfield 30), (23, .aload_n 2), (24, .invokevirtual 408), (27, .istore_n 3), (28, .iload_n 3), (29, .iconst (-1)), (30, .if_icmp .ne 11), (33, .aload_n 0), (34, .iconst 5), (35, .invokevirtual 48), (38, .goto 8), (41, .aload_n 0), (42, .iload_n 3), (43, .invokevirtual 52), (46, .ireturn)], ([], zp_8)))
def mc8_back : zv_M := ((RX8, (⟨RX8, "back", "(I)I"⟩, (prog_1_method_53_code, (3, (some .int))))), ([(0, .iload_n 1), (1, .iconst 1), (2, .bipush 48), (4, .invokestatic 65), (7, .ifCond .ne 9), (10, .aload_n 0), (11, .iconst 1), (12, .invokevirtual 48), (15, .ireturn), (16, .aload_n 0), (17, .getfield 30), (20, .iload_n 1), (21, .invokevirtual 412), (24, .astore_n 2), (25, .aload_n 2), (26, .ifnonnull 11), (29, .aload_n 0), (30, .iconst 5), (31, .invokevirtual 48), (34, .goto 11), (37, .aload_n 0), (38, .aload_n 2), (39, .getfield 173), (42, .invokevirtual 52), (45, .ireturn)], ([], zp_8)))
def mc9_init : zv_M := ((RX9, (⟨RX9, "<init>", "()V"⟩, (prog_11_method_1_code, (1, none)))), ([(0, .aload_n 0), (1, .invokespecial 1), (4, .aload_n 0), (5, .sipush 4236), (8, .newarray .int), (10, .putfield 7), (13, .aload_n 0), (14, .sipush 4236), (17, .newarray .int), (19, .putfield 13), (22, .aload_n 0), (23, .sipush 4236), (26, .newarray .int), (28, .putfield 16), (31, .aload_n 0), (32, .bipush 49), (34, .newarray .int), (36, .putfield 19), (39, .aload_n 0), (40, .sipush 640), (43, .newarray .int), (45, .putfield 22), (48, .aload_n 0), (49, .sipush 640), (52, .newarray .int), (54, .putfield 25), (57, .aload_n 0), (58, .bipush 49), (60, .newarray .boolean), (62, .putfield 28), (65, .aload_n 0), (66, .sipush 640), (69, .newarray .boolean), (71, .putfield 32), (74, .aload_n 0), (75, .sipush 640), (78, .newarray .int), (80, .putfield 35), (83, .aload_n 0), (84, .sipush 640), (87, .newarray .int), (89, .putfield 38), (92, .aload_n 0), (93, .bipush 6), (95, .newarray .int), (97, .putfield 41), (100, .aload_n 0), (101, .sipush 400), (104, .newarray .boolean), (106, .putfield 44), (109, .aload_n 0), (110, .sipush 700), (113, .newarray .int), (115, .putfield 47), (118, .aload_n 0), (119, .bipush 12), (121, .newarray .int), (123, .putfield 50), (126, .aload_n 0), (127, .bipush 48), (129, .newarray .int), (131, .putfield 53), (134, .aload_n 0), (135, .bipush 49), (137, .newarray .int), (139, .putfield 56), (142, .aload_n 0), (143, .bipush 49), (145, .newarray .boolean), (147, .putfield 59), (150, .aload_n 0), (151, .bipush 49), (153, .newarray .boolean), (155, .putfield 62), (158, .aload_n 0), (159, .sipush 700), (162, .newarray .byte), (164, .putfield 65), (167, .aload_n 0), (168, .iconst (-1)), (169, .putfield 69), (172, .aload_n 0), (173, .iconst (-1)), (174, .putfield 73), (177, .aload_n 0), (178, .bipush 12), (180, .newarray .long), (182, .dup), (183, .iconst 0), (184, .ldc2_w 76), (187, .lastore), (188, .dup), (189, .iconst 1), (190, .ldc2_w 78), (193, .lastore), (194, .dup), (195, .iconst 2), (196, .ldc2_w 80), (199, .lastore), (200, .dup), (201, .iconst 3), (202, .ldc2_w 82), (205, .lastore), (206, .dup), (207, .iconst 4), (208, .ldc2_w 84), (211, .lastore), (212, .dup), (213, .iconst 5), (214, .ldc2_w 86), (217, .lastore), (218, .dup), (219, .bipush 6), (221, .ldc2_w 88), (224, .lastore), (225, .dup), (226, .bipush 7), (228, .ldc2_w 90), (231, .lastore), (232, .dup), (233, .bipush 8), (235, .ldc2_w 92), (238, .lastore), (239, .dup), (240, .bipush 9), (242, .ldc2_w 94), (245, .lastore), (246, .dup), (247, .bipush 10), (249, .ldc2_w 96), (252, .lastore), (253, .dup), (254, .bipush 11), (256, .ldc2_w 98), (259, .lastore), (260, .putfield 100), (263, .aload_n 0), (264, .iconst 5), (265, .newarray .long), (267, .dup), (268, .iconst 0), (269, .ldc2_w 104), (272, .lastore), (273, .dup), (274, .iconst 1), (275, .ldc2_w 106), (278, .lastore), (279, .dup), (280, .iconst 2), (281, .ldc2_w 108), (284, .lastore), (285, .dup), (286, .iconst 3), (287, .ldc2_w 110), (290, .lastore), (291, .dup), (292, .iconst 4), (293, .ldc2_w 112), (296, .lastore), (297, .putfield 114), (300, .aload_n 0), (301, .bipush 6), (303, .newarray .long), (305, .dup), (306, .iconst 0), (307, .ldc2_w 117), (310, .lastore), (311, .dup), (312, .iconst 1), (313, .ldc2_w 119), (316, .lastore), (317, .dup), (318, .iconst 2), (319, .ldc2_w 121), (322, .lastore), (323, .dup), (324, .iconst 3), (325, .ldc2_w 123), (328, .lastore), (329, .dup), (330, .iconst 4), (331, .ldc2_w 125), (334, .lastore), (335, .dup), (336, .iconst 5), (337, .ldc2_w 127), (340, .lastore), (341, .putfield 129), (344, .aload_n 0), (345, .sipush 640), (348, .newarray .int), (350, .putfield 132), (353, .aload_n 0), (354, .sipush 14641), (357, .newarray .int), (359, .putfield 135), (362, .aload_n 0), (363, .sipush 200), (366, .newarray .int), (368, .putfield 138), (371, .aload_n 0), (372, .invokevirtual 141), (375, .return_)], ([], zp_9)))
def mc9_status : zv_M := ((RX9, (⟨RX9, "status", "()I"⟩, (prog_11_method_3_code, (1, (some .int))))), ([(0, .aload_n 0), (1, .iconst 0), (2, .putfield 144), (5, .aload_n 0), (6, .getfield 147), (9, .ireturn)], ([], zp_9)))
def mc9_refuse : zv_M := ((RX9, (⟨RX9, "refuse", "(I)I"⟩, (prog_11_method_4_code, (2, (some .int))))), ([(0, .aload_n 0), (1, .iload_n 1), (2, .putfield 147), (5, .iconst (-1)), (6, .ireturn)], ([], zp_9)))
def mc9_is : zv_M := ((RX9, (⟨RX9, "is", "(I)Z"⟩, (prog_11_method_5_code, (2, (some .boolean))))), ([(0, .aload_n 0), (1, .iconst 0), (2, .putfield 144), (5, .aload_n 0), (6, .iload_n 1), (7, .putfield 147), (10, .iload_n 1), (11, .ifCond .ne 7), (14, .iconst 1), (15, .goto 4), (18, .iconst 0), (19, .ireturn)], ([], zp_9)))
def mc9_isIn : zv_M := ((RX9, (⟨RX9, "isIn", "(III)Z"⟩, (prog_11_method_6_code, (3, (some .boolean))))), ([(0, .iload_n 0), (1, .iload_n 1), (2, .if_icmp .lt 12), (5, .iload_n 0), (6, .iload_n 2), (7, .if_icmp .gt 7), (10, .iconst 1), (11, .goto 4), (14, .iconst 0), (15, .ireturn)], ([], zp_9)))
def mc9_clears : zv_M := ((RX9, (⟨RX9, "clears", "()V"⟩, (prog_11_method_7_code, (2, none)))), ([(0, .iconst 0), (1, .istore_n 1), (2, .iload_n 1), (3, .sipush 4236), (6, .if_icmp .ge 16), (9, .aload_n 0), (10, .getfield 7), (13, .iload_n 1), (14, .iconst 0), (15, .iastore), (16, .iinc 1 1), (19, .goto (-17)), (22, .aload_n 0), (23, .iconst 0), (24, .iconst 0), (25, .iconst 1), (26, .invokevirtual 150), (29, .aload_n 0), (30, .iconst 0), (31, .iconst 1), (32, .iconst (-1)), (33, .invokevirtual 150), (36, .aload_n 0), (37, .iconst 0), (38, .iconst 2), (39, .iconst (-1)), (40, .invokevirtual 150), (43, .aload_n 0), (44, .iconst 0), (45, .iconst 4), (46, .iconst (-1)), (47, .invokevirtual 150), (50, .return_)], ([(2, [true, true])], zp_9)))
def mc9_of : zv_M := ((RX9, (⟨RX9, "of", "(II)I"⟩, (prog_11_method_8_code, (3, (some .int))))), ([(0, .aload_n 0), (1, .getfield 7), (4, .sipush 432), (7, .bipush 76), (9, .iload_n 1), (10, .imul), (11, .iadd), (12, .iload_n 2), (13, .iadd), (14, .iaload), (15, .ireturn)], ([], zp_9)))
def mc9_sets : zv_M := ((RX9, (⟨RX9, "sets", "(III)V"⟩, (prog_11_method_9_code, (4, none)))), ([(0, .aload_n 0), (1, .getfield 7), (4, .sipush 432), (7, .bipush 76), (9, .iload_n 1), (10, .imul), (11, .iadd), (12, .iload_n 2), (13, .iadd), (14, .iload_n 3), (15, .iastore), (16, .return_)], ([], zp_9)))
def mc9_isState : zv_M := ((RX9, (⟨RX9, "isState", "(I)Z"⟩, (prog_11_method_10_code, (2, (some .boolean))))), ([(0, .iload_n 1), (1, .iconst 0), (2, .bipush 47), (4, .invokestatic 154), (7, .ifCond .eq 17), (10, .aload_n 0), (11, .iload_n 1), (12, .iconst 0), (13, .invokevirtual 158), (16, .iconst 1), (17, .if_icmp .ne 7), (20, .iconst 1), (21, .goto 4), (24, .iconst 0), (25, .ireturn)], ([], zp_9)))
def mc9_isEdit : zv_M := ((RX9, (⟨RX9, "isEdit", "(I)Z"⟩, (prog_11_method_11_code, (2, (some .boolean))))), ([(0, .aload_n 0), (1, .iload_n 1), (2, .iconst 2), (3, .invokevirtual 158), (6, .ifCond .eq 13), (9, .aload_n 0), (10, .iload_n 1), (11, .iconst 2), (12, .invokevirtual 158), (15, .iconst 1), (16, .if_icmp .ne 7), (19, .iconst 1), (20, .goto 4), (23, .iconst 0), (24, .ireturn)], ([], zp_9)))
def mc9_here : zv_M := ((RX9, (⟨RX9, "here", "()I"⟩, (prog_11_method_12_code, (1, (some .int))))), ([(0, .aload_n 0), (1, .getfield 7), (4, .iconst 0), (5, .iaload), (6, .ireturn)], ([], zp_9)))
def mc9_states : zv_M := ((RX9, (⟨RX9, "states", "()I"⟩, (prog_11_method_13_code, (3, (some .int))))), ([(0, .iconst 0), (1, .istore_n 1), (2, .iconst 0), (3, .istore_n 2), (4, .iload_n 2), (5, .bipush 48), (7, .if_icmp .ge 18), (10, .iload_n 1), (11, .aload_n 0), (12, .iload_n 2), (13, .iconst 0), (14, .invokevirtual 158), (17, .iadd), (18, .istore_n 1), (19, .iinc 2 1), (22, .goto (-18)), (25, .iload_n 1), (26, .ireturn)], ([(4, [true, true, true])], zp_9)))
def mc9_names : zv_M := ((RX9, (⟨RX9, "names", "(II)Z"⟩, (prog_11_method_14_code, (3, (some .boolean))))), ([(0, .aload_n 0), (1, .iload_n 1), (2, .iload_n 2), (3, .bipush 24), (5, .if_icmp .ge 8), (8, .bipush 10), (10, .goto 5), (13, .bipush 11), (15, .invokevirtual 158), (18, .iload_n 2), (19, .bipush 24), (21, .irem), (22, .ishr), (23, .iconst 1), (24, .iand), (25, .iconst 1), (26, .if_icmp .ne 7), (29, .iconst 1), (30, .goto 4), (33, .iconst 0), (34, .ireturn)], ([(15, [false, false, true])], zp_9)))
def mc9_namesToo : zv_M := ((RX9, (⟨RX9, "namesToo", "(II)V"⟩, (prog_11_method_15_code, (3, none)))), ([(0, .aload_n 0), (1, .iload_n 1), (2, .iload_n 2), (3, .bipush 24), (5, .if_icmp .ge 8), (8, .bipush 10), (10, .goto 5), (13, .bipush 11), (15, .aload_n 0), (16, .iload_n 1), (17, .iload_n 2), (18, .bipush 24), (20, .if_icmp .ge 8), (23, .bipush 10), (25, .goto 5), (28, .bipush 11), (30, .invokevirtual 158), (33, .iconst 1), (34, .iload_n 2), (35, .bipush 24), (37, .irem), (38, .ishl), (39, .ior), (40, .invokevirtual 150), (43, .return_)], ([(15, [true, true, true]), (30, [false, false, true])], zp_9)))
def mc9_isOfLine : zv_M := ((RX9, (⟨RX9, "isOfLine", "(II)Z"⟩, (prog_11_method_16_code, (4, (some .boolean))))), ([(0, .iload_n 2), (1, .istore_n 3), (2, .iload_n 3), (3, .ifCond .lt 20), (6, .iload_n 3), (7, .iload_n 1), (8, .if_icmp .ne 5), (11, .iconst 1), (12, .ireturn), (13, .aload_n 0), (14, .iload_n 3), (15, .iconst 1), (16, .invokevirtual 158), (19, .istore_n 3), (20, .goto (-18)), (23, .iconst 0), (24, .ireturn)], ([(2, [true, true, false, true])], zp_9)))
def mc9_depthOf : zv_M := ((RX9, (⟨RX9, "depthOf", "(I)I"⟩, (prog_11_method_17_code, (4, (some .int))))), ([(0, .iconst 0), (1, .istore_n 2), (2, .aload_n 0), (3, .iload_n 1), (4, .iconst 1), (5, .invokevirtual 158), (8, .istore_n 3), (9, .iload_n 3), (10, .ifCond .lt 16), (13, .iinc 2 1), (16, .aload_n 0), (17, .iload_n 3), (18, .iconst 1), (19, .invokevirtual 158), (22, .istore_n 3), (23, .goto (-14)), (26, .iload_n 2), (27, .ireturn)], ([(9, [true, false, true, true])], zp_9)))
def mc9_rowOf : zv_M := ((RX9, (⟨RX9, "rowOf", "(II)I"⟩, (prog_11_method_18_code, (4, (some .int))))), ([(0, .iconst 0), (1, .istore_n 3), (2, .iload_n 3), (3, .aload_n 0), (4, .getfield 162), (7, .if_icmp .ge 31), (10, .aload_n 0), (11, .getfield 22), (14, .iload_n 3), (15, .iaload), (16, .iload_n 1), (17, .if_icmp .ne 15), (20, .aload_n 0), (21, .getfield 25), (24, .iload_n 3), (25, .iaload), (26, .iload_n 2), (27, .if_icmp .ne 5), (30, .iload_n 3), (31, .ireturn), (32, .iinc 3 1), (35, .goto (-33)), (38, .iconst (-1)), (39, .ireturn)], ([(2, [true, true, true, true])], zp_9)))
def mc9_letsIn : zv_M := ((RX9, (⟨RX9, "letsIn", "(I)V"⟩, (prog_11_method_19_code, (5, none)))), ([(0, .aload_n 0), (1, .iload_n 1), (2, .bipush 8), (4, .invokevirtual 158), (7, .ifCond .ge 7), (10, .iconst 0), (11, .goto 23), (14, .aload_n 0), (15, .aload_n 0), (16, .iload_n 1), (17, .bipush 8), (19, .invokevirtual 158), (22, .aload_n 0), (23, .iload_n 1), (24, .bipush 9), (26, .invokevirtual 158), (29, .invokevirtual 165), (32, .iconst 1), (33, .iadd), (34, .istore_n 2), (35, .aload_n 0), (36, .iload_n 1), (37, .iconst 5), (38, .invokevirtual 158), (41, .istore_n 3), (42, .aload_n 0), (43, .getfield 162), (46, .iconst 1), (47, .isub), (48, .istore 4), (50, .iload 4), (52, .iload_n 2), (53, .if_icmp .lt 41), (56, .aload_n 0), (57, .getfield 22), (60, .iload 4), (62, .iload_n 3), (63, .iadd), (64, .aload_n 0), (65, .getfield 22), (68, .iload 4), (70, .iaload), (71, .iastore), (72, .aload_n 0), (73, .getfield 25), (76, .iload 4), (78, .iload_n 3), (79, .iadd), (80, .aload_n 0), (81, .getfield 25), (84, .iload 4), (86, .iaload), (87, .iastore), (88, .iinc 4 (-1)), (91, .goto (-41)), (94, .iconst 0), (95, .istore 4), (97, .iload 4), (99, .iload_n 3), (100, .if_icmp .ge 30), (103, .aload_n 0), (104, .getfield 22), (107, .iload_n 2), (108, .iload 4), (110, .iadd), (111, .iload_n 1), (112, .iastore), (113, .aload_n 0), (114, .getfield 25), (117, .iload_n 2), (118, .iload 4), (120, .iadd), (121, .iload 4), (123, .iastore), (124, .iinc 4 1), (127, .goto (-30)), (130, .aload_n 0), (131, .dup), (132, .getfield 162), (135, .iload_n 3), (136, .iadd), (137, .putfield 162), (140, .return_)], ([(34, [true, true, false, false, false]), (50, [true, true, true, true, true]), (97, [true, true, true, true, true])], zp_9)))
def mc9_turns : zv_M := ((RX9, (⟨RX9, "turns", "(I)V"⟩, (prog_11_method_20_code, (3, none)))), ([(0, .iconst 0), (1, .istore_n 2), (2, .iload_n 2), (3, .aload_n 0), (4, .getfield 168), (7, .if_icmp .ge 49), (10, .aload_n 0), (11, .iload_n 1), (12, .aload_n 0), (13, .getfield 19), (16, .iload_n 2), (17, .iaload), (18, .invokevirtual 171), (21, .ifCond .eq 29), (24, .aload_n 0), (25, .getfield 28), (28, .aload_n 0), (29, .getfield 19), (32, .iload_n 2), (33, .iaload), (34, .aload_n 0), (35, .iload_n 1), (36, .iconst 2), (37, .invokevirtual 158), (40, .iconst 3), (41, .if_icmp .ne 7), (44, .iconst 1), (45, .goto 4), (48, .iconst 0), (49, .bastore), (50, .iinc 2 1), (53, .goto (-51)), (56, .return_)], ([(2, [true, true, true])], zp_9)))
def mc9_sees : zv_M := ((RX9, (⟨RX9, "sees", "(I)V"⟩, (prog_11_method_21_code, (6, none)))), ([(0, .aload_n 0), (1, .aload_n 0), (2, .iload_n 1), (3, .invokevirtual 175), (6, .iconst 1), (7, .iadd), (8, .putfield 168), (11, .aload_n 0), (12, .getfield 168), (15, .iconst 1), (16, .isub), (17, .istore_n 2), (18, .iload_n 1), (19, .istore_n 3), (20, .iload_n 3), (21, .ifCond .lt 23), (24, .aload_n 0), (25, .getfield 19), (28, .iload_n 2), (29, .iload_n 3), (30, .iastore), (31, .iinc 2 (-1)), (34, .aload_n 0), (35, .iload_n 3), (36, .iconst 1), (37, .invokevirtual 158), (40, .istore_n 3), (41, .goto (-21)), (44, .aload_n 0), (45, .aload_n 0), (46, .iconst 0), (47, .iconst 5), (48, .invokevirtual 158), (51, .putfield 162), (54, .iconst 0), (55, .istore_n 3), (56, .iload_n 3), (57, .aload_n 0), (58, .getfield 162), (61, .if_icmp .ge 23), (64, .aload_n 0), (65, .getfield 22), (68, .iload_n 3), (69, .iconst 0), (70, .iastore), (71, .aload_n 0), (72, .getfield 25), (75, .iload_n 3), (76, .iload_n 3), (77, .iastore), (78, .iinc 3 1), (81, .goto (-25)), (84, .aload_n 0), (85, .getfield 28), (88, .iconst 0), (89, .iconst 1), (90, .bastore), (91, .iconst 1), (92, .istore_n 3), (93, .iload_n 3), (94, .aload_n 0), (95, .getfield 168), (98, .if_icmp .ge 61), (101, .aload_n 0), (102, .getfield 19), (105, .iload_n 3), (106, .iaload), (107, .istore 4), (109, .aload_n 0), (110, .getfield 28), (113, .iload 4), (115, .aload_n 0), (116, .iload 4), (118, .invokevirtual 179), (121, .bastore), (122, .aload_n 0), (123, .iload 4), (125, .iconst 2), (126, .invokevirtual 158), (129, .ifCond .ne 9), (132, .aload_n 0), (133, .iload 4), (135, .invokevirtual 183), (138, .aload_n 0), (139, .iload 4), (141, .invokevirtual 179), (144, .ifCond .ne 9), (147, .aload_n 0), (148, .iload 4), (150, .invokevirtual 187), (153, .iinc 3 1), (156, .goto (-63)), (159, .iconst 0), (160, .istore_n 3), (161, .iload_n 3), (162, .aload_n 0), (163, .getfield 162), (166, .if_icmp .ge 26), (169, .aload_n 0), (170, .getfield 32), (173, .iload_n 3), (174, .aload_n 0), (175, .getfield 28), (178, .aload_n 0), (179, .getfield 22), (182, .iload_n 3), (183, .iaload), (184, .baload), (185, .bastore), (186, .iinc 3 1), (189, .goto (-28)), (192, .iconst 1), (193, .istore_n 3), (194, .iload_n 3), (195, .aload_n 0), (196, .getfield 168), (199, .if_icmp .ge 97), (202, .aload_n 0), (203, .getfield 19), (206, .iload_n 3), (207, .iaload), (208, .istore 4), (210, .iconst 0), (211, .istore 5), (213, .aload_n 0), (214, .iload 4), (216, .iconst 2), (217, .invokevirtual 158), (220, .iconst 1), (221, .if_icmp .ne 69), (224, .aload_n 0), (225, .getfield 28), (228, .iload 4), (230, .baload), (231, .ifCond .eq 59), (234, .iload 5), (236, .aload_n 0), (237, .iload 4), (239, .iconst 5), (240, .invokevirtual 158), (243, .if_icmp .ge 47), (246, .aload_n 0), (247, .getfield 32), (250, .aload_n 0), (251, .aload_n 0), (252, .iload 4), (254, .bipush 52), (256, .iconst 2), (257, .iload 5), (259, .imul), (260, .iadd), (261, .invokevirtual 158), (264, .aload_n 0), (265, .iload 4), (267, .bipush 52), (269, .iconst 2), (270, .iload 5), (272, .imul), (273, .iadd), (274, .iconst 1), (275, .iadd), (276, .invokevirtual 158), (279, .invokevirtual 165), (282, .iconst 0), (283, .bastore), (284, .iinc 5 1), (287, .goto (-74)), (290, .iinc 3 1), (293, .goto (-99)), (296, .aload_n 0), (297, .iconst 0), (298, .putfield 190), (301, .iconst 0), (302, .istore_n 3), (303, .iload_n 3), (304, .aload_n 0), (305, .getfield 162), (308, .if_icmp .ge 32), (311, .aload_n 0), (312, .dup), (313, .getfield 190), (316, .aload_n 0), (317, .getfield 32), (320, .iload_n 3), (321, .baload), (322, .ifCond .eq 7), (325, .iconst 1), (326, .goto 4), (329, .iconst 0), (330, .iadd), (331, .putfield 190), (334, .iinc 3 1), (337, .goto (-34)), (340, .return_)], ([(20, [true, false, true, true, false, false]), (56, [true, false, false, true, false, false]), (93, [true, false, false, true, false, false]), (138, [true, false, false, true, true, false]), (161, [true, false, false, true, false, false]), (194, [true, false, false, true, false, false]), (213, [true, false, false, true, true, true]), (303, [true, false, false, true, false, false])], zp_9)))
def mc9_rowPlace : zv_M := ((RX9, (⟨RX9, "rowPlace", "(I)I"⟩, (prog_11_method_22_code, (4, (some .int))))), ([(0, .iload_n 1), (1, .istore_n 2), (2, .iconst 0), (3, .istore_n 3), (4, .iload_n 3), (5, .aload_n 0), (6, .getfield 162), (9, .if_icmp .ge 30), (12, .aload_n 0), (13, .getfield 32), (16, .iload_n 3), (17, .baload), (18, .ifCond .ne 6), (21, .goto 12), (24, .iload_n 2), (25, .ifCond .ne 5), (28, .iload_n 3), (29, .ireturn), (30, .iinc 2 (-1)), (33, .iinc 3 1), (36, .goto (-32)), (39, .iconst (-1)), (40, .ireturn)], ([(4, [true, false, true, true])], zp_9)))
def mc9_letterIn : zv_M := ((RX9, (⟨RX9, "letterIn", "(I)I"⟩, (prog_11_method_23_code, (2, (some .int))))), ([(0, .aload_n 0), (1, .aload_n 0), (2, .getfield 22), (5, .iload_n 1), (6, .iaload), (7, .bipush 12), (9, .aload_n 0), (10, .getfield 25), (13, .iload_n 1), (14, .iaload), (15, .iadd), (16, .invokevirtual 158), (19, .ireturn)], ([], zp_9)))
def mc9_lettersOf : zv_M := ((RX9, (⟨RX9, "lettersOf", "(I)I"⟩, (prog_11_method_24_code, (2, (some .int))))), ([(0, .aload_n 0), (1, .iload_n 1), (2, .invokevirtual 193), (5, .aload_n 0), (6, .getfield 190), (9, .ireturn)], ([], zp_9)))
def mc9_copies : zv_M := ((RX9, (⟨RX9, "copies", "(I[I)I"⟩, (prog_11_method_25_code, (5, (some .int))))), ([(0, .aload_n 0), (1, .iload_n 1), (2, .invokevirtual 193), (5, .iconst 0), (6, .istore_n 3), (7, .iconst 0), (8, .istore 4), (10, .iload 4), (12, .aload_n 0), (13, .getfield 162), (16, .if_icmp .ge 34), (19, .aload_n 0), (20, .getfield 32), (23, .iload 4), (25, .baload), (26, .ifCond .ne 6), (29, .goto 15), (32, .aload_n 2), (33, .iload_n 3), (34, .aload_n 0), (35, .iload 4), (37, .invokevirtual 196), (40, .iastore), (41, .iinc 3 1), (44, .iinc 4 1), (47, .goto (-37)), (50, .iload_n 3), (51, .ireturn)], ([(10, [true, false, true, true, true])], zp_9)))
def mc9_visits : zv_M := ((RX9, (⟨RX9, "visits", "(I)V"⟩, (prog_11_method_26_code, (3, none)))), ([(0, .iload_n 1), (1, .aload_n 0), (2, .invokevirtual 199), (5, .if_icmp .ne 4), (8, .return_), (9, .aload_n 0), (10, .getfield 7), (13, .iconst 0), (14, .iload_n 1), (15, .iastore), (16, .aload_n 0), (17, .getfield 7), (20, .iconst 2), (21, .dup2), (22, .iaload), (23, .iconst 1), (24, .iadd), (25, .iastore), (26, .aload_n 0), (27, .iload_n 1), (28, .bipush 7), (30, .aload_n 0), (31, .getfield 7), (34, .iconst 2), (35, .iaload), (36, .invokevirtual 150), (39, .bipush 79), (41, .istore_n 2), (42, .iload_n 2), (43, .iconst 1), (44, .if_icmp .le 31), (47, .aload_n 0), (48, .getfield 7), (51, .sipush 4156), (54, .iload_n 2), (55, .iadd), (56, .aload_n 0), (57, .getfield 7), (60, .sipush 4156), (63, .iload_n 2), (64, .iadd), (65, .iconst 2), (66, .isub), (67, .iaload), (68, .iastore), (69, .iinc 2 (-1)), (72, .goto (-30)), (75, .aload_n 0), (76, .getfield 7), (79, .sipush 4156), (82, .iload_n 1), (83, .iastore), (84, .aload_n 0), (85, .getfield 7), (88, .sipush 4157), (91, .aload_n 0), (92, .getfield 7), (95, .iconst 1), (96, .iaload), (97, .iastore), (98, .aload_n 0), (99, .getfield 7), (102, .iconst 5), (103, .aload_n 0), (104, .getfield 7), (107, .iconst 5), (108, .iaload), (109, .bipush 40), (111, .if_icmp .ge 14), (114, .aload_n 0), (115, .getfield 7), (118, .iconst 5), (119, .iaload), (120, .iconst 1), (121, .iadd), (122, .goto 5), (125, .bipush 40), (127, .iastore), (128, .return_)], ([(42, [true, true, true])], zp_9)))
def mc9_latestIn : zv_M := ((RX9, (⟨RX9, "latestIn", "(I)I"⟩, (prog_11_method_27_code, (4, (some .int))))), ([(0, .aload_n 0), (1, .iload_n 1), (2, .bipush 7), (4, .invokevirtual 158), (7, .istore_n 2), (8, .iconst 0), (9, .istore_n 3), (10, .iload_n 3), (11, .bipush 48), (13, .if_icmp .ge 45), (16, .aload_n 0), (17, .iload_n 3), (18, .invokevirtual 203), (21, .ifCond .eq 31), (24, .aload_n 0), (25, .iload_n 3), (26, .bipush 7), (28, .invokevirtual 158), (31, .iload_n 2), (32, .if_icmp .le 20), (35, .aload_n 0), (36, .iload_n 1), (37, .iload_n 3), (38, .invokevirtual 206), (41, .ifCond .eq 11), (44, .aload_n 0), (45, .iload_n 3), (46, .bipush 7), (48, .invokevirtual 158), (51, .istore_n 2), (52, .iinc 3 1), (55, .goto (-45)), (58, .iload_n 2), (59, .ireturn)], ([(10, [true, true, true, true])], zp_9)))
def mc9_childOf : zv_M := ((RX9, (⟨RX9, "childOf", "(II)I"⟩, (prog_11_method_28_code, (6, (some .int))))), ([(0, .iconst 0), (1, .istore_n 3), (2, .iload_n 3), (3, .bipush 48), (5, .if_icmp .ge 101), (8, .aload_n 0), (9, .iload_n 3), (10, .invokevirtual 203), (13, .ifCond .eq 87), (16, .aload_n 0), (17, .iload_n 3), (18, .iconst 1), (19, .invokevirtual 158), (22, .iload_n 1), (23, .if_icmp .eq 6), (26, .goto 74), (29, .iconst 0), (30, .istore 4), (32, .iconst 0), (33, .istore 5), (35, .iload 5), (37, .bipush 48), (39, .if_icmp .ge 53), (42, .iload 4), (44, .aload_n 0), (45, .iload 5), (47, .invokevirtual 203), (50, .ifCond .eq 32), (53, .aload_n 0), (54, .iload 5), (56, .iconst 1), (57, .invokevirtual 158), (60, .iload_n 1), (61, .if_icmp .ne 21), (64, .aload_n 0), (65, .iload 5), (67, .invokevirtual 209), (70, .aload_n 0), (71, .iload_n 3), (72, .invokevirtual 209), (75, .if_icmp .le 7), (78, .iconst 1), (79, .goto 4), (82, .iconst 0), (83, .iadd), (84, .istore 4), (86, .iinc 5 1), (89, .goto (-54)), (92, .iload 4), (94, .iload_n 2), (95, .if_icmp .ne 5), (98, .iload_n 3), (99, .ireturn), (100, .iinc 3 1), (103, .goto (-101)), (106, .iconst (-1)), (107, .ireturn)], ([(2, [true, true, true, true, false, false]), (35, [true, true, true, true, true, true])], zp_9)))
def mc9_childrenOf : zv_M := ((RX9, (⟨RX9, "childrenOf", "(I)I"⟩, (prog_11_method_29_code, (4, (some .int))))), ([(0, .iconst 0), (1, .istore_n 2), (2, .iconst 0), (3, .istore_n 3), (4, .iload_n 3), (5, .bipush 48), (7, .if_icmp .ge 35), (10, .iload_n 2), (11, .aload_n 0), (12, .iload_n 3), (13, .invokevirtual 203), (16, .ifCond .eq 17), (19, .aload_n 0), (20, .iload_n 3), (21, .iconst 1), (22, .invokevirtual 158), (25, .iload_n 1), (26, .if_icmp .ne 7), (29, .iconst 1), (30, .goto 4), (33, .iconst 0), (34, .iadd), (35, .istore_n 2), (36, .iinc 3 1), (39, .goto (-35)), (42, .iload_n 2), (43, .ireturn)], ([(4, [true, true, true, true])], zp_9)))
def mc9_freeState : zv_M := ((RX9, (⟨RX9, "freeState", "()I"⟩, (prog_11_method_30_code, (2, (some .int))))), ([(0, .iconst 0), (1, .istore_n 1), (2, .iload_n 1), (3, .bipush 48), (5, .if_icmp .ge 19), (8, .aload_n 0), (9, .iload_n 1), (10, .iconst 0), (11, .invokevirtual 158), (14, .iconst 1), (15, .if_icmp .ne 9), (18, .iinc 1 1), (21, .goto (-19)), (24, .iload_n 1), (25, .ireturn)], ([(2, [true, true])], zp_9)))
def mc9_isNear : zv_M := ((RX9, (⟨RX9, "isNear", "(IIII)Z"⟩, (prog_11_method_31_code, (8, (some .boolean))))), ([(0, .aload_n 0), (1, .iload 4), (3, .iconst 2), (4, .invokevirtual 158), (7, .ifCond .ne 7), (10, .iconst 1), (11, .goto 4), (14, .iconst 0), (15, .istore 5), (17, .aload_n 0), (18, .iload 4), (20, .iconst 4), (21, .invokevirtual 158), (24, .istore 6), (26, .iload 6), (28, .aload_n 0), (29, .iload 4), (31, .iconst 5), (32, .invokevirtual 158), (35, .iadd), (36, .istore 7), (38, .iload_n 1), (39, .ifCond .ne 34), (42, .iload 5), (44, .ifCond .eq 17), (47, .iload_n 2), (48, .iload 7), (50, .if_icmp .ne 7), (53, .iconst 1), (54, .goto 18), (57, .iconst 0), (58, .goto 14), (61, .iload_n 2), (62, .iload 6), (64, .if_icmp .ne 7), (67, .iconst 1), (68, .goto 4), (71, .iconst 0), (72, .ireturn), (73, .iload 5), (75, .ifCond .eq 19), (78, .iload_n 2), (79, .iload_n 3), (80, .iadd), (81, .iload 7), (83, .if_icmp .ne 7), (86, .iconst 1), (87, .goto 26), (90, .iconst 0), (91, .goto 22), (94, .iload_n 2), (95, .iload 6), (97, .if_icmp .eq 11), (100, .iload_n 2), (101, .iload_n 3), (102, .iadd), (103, .iload 6), (105, .if_icmp .ne 7), (108, .iconst 1), (109, .goto 4), (112, .iconst 0), (113, .ireturn)], ([(15, [true, true, true, true, true, false, false, false])], zp_9)))
def mc9_compares : zv_M := ((RX9, (⟨RX9, "compares", "(III)Z"⟩, (prog_11_method_32_code, (3, (some .boolean))))), ([(0, .iload_n 0), (1, .ifCond .ne 16), (4, .iload_n 1), (5, .iload_n 2), (6, .if_icmp .ge 7), (9, .iconst 1), (10, .goto 35), (13, .iconst 0), (14, .goto 31), (17, .iload_n 0), (18, .iconst 1), (19, .if_icmp .ne 16), (22, .iload_n 1), (23, .iload_n 2), (24, .if_icmp .ne 7), (27, .iconst 1), (28, .goto 17), (31, .iconst 0), (32, .goto 13), (35, .iload_n 1), (36, .iload_n 2), (37, .if_icmp .le 7), (40, .iconst 1), (41, .goto 4), (44, .iconst 0), (45, .ireturn)], ([], zp_9)))
def mc9_holds : zv_M := ((RX9, (⟨RX9, "holds", "()Z"⟩, (prog_11_method_33_code, (4, (some .boolean))))), ([(0, .aload_n 0), (1, .getfield 7), (4, .iconst 4), (5, .iaload), (6, .ifCond .ne 50), (9, .aload_n 0), (10, .getfield 41), (13, .iconst 0), (14, .iaload), (15, .iconst 3), (16, .if_icmp .ge 38), (19, .aload_n 0), (20, .getfield 41), (23, .iconst 3), (24, .iaload), (25, .iconst 1), (26, .if_icmp .ne 28), (29, .aload_n 0), (30, .getfield 41), (33, .iconst 4), (34, .iaload), (35, .iconst 1), (36, .if_icmp .ne 18), (39, .aload_n 0), (40, .getfield 41), (43, .iconst 1), (44, .iaload), (45, .bipush 8), (47, .if_icmp .ge 7), (50, .iconst 1), (51, .goto 4), (54, .iconst 0), (55, .ireturn), (56, .iconst 0), (57, .istore_n 1), (58, .iconst 0), (59, .istore_n 2), (60, .iload_n 2), (61, .aload_n 0), (62, .getfield 7), (65, .iconst 4), (66, .iaload), (67, .if_icmp .ge 159), (70, .aload_n 0), (71, .getfield 7), (74, .bipush 8), (76, .iload_n 2), (77, .iadd), (78, .iaload), (79, .istore_n 3), (80, .iload_n 3), (81, .ifCond .lt 37), (84, .aload_n 0), (85, .getfield 44), (88, .iload_n 1), (89, .iload_n 3), (90, .bipush 6), (92, .idiv), (93, .iconst 3), (94, .irem), (95, .aload_n 0), (96, .getfield 41), (99, .iload_n 3), (100, .bipush 6), (102, .irem), (103, .iaload), (104, .iload_n 3), (105, .bipush 18), (107, .idiv), (108, .invokestatic 212), (111, .bastore), (112, .iinc 1 1), (115, .goto 105), (118, .iload_n 3), (119, .iconst (-1)), (120, .if_icmp .ne 30), (123, .aload_n 0), (124, .getfield 44), (127, .iload_n 1), (128, .iconst 1), (129, .isub), (130, .aload_n 0), (131, .getfield 44), (134, .iload_n 1), (135, .iconst 1), (136, .isub), (137, .baload), (138, .ifCond .ne 7), (141, .iconst 1), (142, .goto 4), (145, .iconst 0), (146, .bastore), (147, .goto 73), (150, .iinc 1 (-1)), (153, .aload_n 0), (154, .getfield 44), (157, .iload_n 1), (158, .iconst 1), (159, .isub), (160, .iload_n 3), (161, .bipush (-2)), (163, .if_icmp .ne 31), (166, .aload_n 0), (167, .getfield 44), (170, .iload_n 1), (171, .iconst 1), (172, .isub), (173, .baload), (174, .ifCond .eq 16), (177, .aload_n 0), (178, .getfield 44), (181, .iload_n 1), (182, .baload), (183, .ifCond .eq 7), (186, .iconst 1), (187, .goto 32), (190, .iconst 0), (191, .goto 28), (194, .aload_n 0), (195, .getfield 44), (198, .iload_n 1), (199, .iconst 1), (200, .isub), (201, .baload), (202, .ifCond .ne 12), (205, .aload_n 0), (206, .getfield 44), (209, .iload_n 1), (210, .baload), (211, .ifCond .eq 7), (214, .iconst 1), (215, .goto 4), (218, .iconst 0), (219, .bastore), (220, .iinc 2 1), (223, .goto (-163)), (226, .aload_n 0), (227, .getfield 44), (230, .iconst 0), (231, .baload), (232, .ireturn)], ([(60, [true, true, true, false])], zp_9)))
def mc9_joins : zv_M := ((RX9, (⟨RX9, "joins", "(III)Z"⟩, (prog_11_method_34_code, (5, (some .boolean))))), ([(0, .aload_n 0), (1, .invokevirtual 199), (4, .istore 4), (6, .aload_n 0), (7, .iload 4), (9, .invokevirtual 179), (12, .ifCond .ne 5), (15, .iconst 0), (16, .ireturn), (17, .aload_n 0), (18, .getfield 41), (21, .iconst 0), (22, .aload_n 0), (23, .getfield 7), (26, .iconst 1), (27, .iaload), (28, .aload_n 0), (29, .iload 4), (31, .iconst 3), (32, .invokevirtual 158), (35, .isub), (36, .iastore), (37, .aload_n 0), (38, .getfield 41), (41, .iconst 1), (42, .aload_n 0), (43, .iload 4), (45, .invokevirtual 175), (48, .aload_n 0), (49, .aload_n 0), (50, .iload 4), (52, .bipush 6), (54, .invokevirtual 158), (57, .invokevirtual 175), (60, .isub), (61, .iconst 1), (62, .iadd), (63, .iastore), (64, .aload_n 0), (65, .getfield 41), (68, .iconst 2), (69, .iload_n 1), (70, .iastore), (71, .aload_n 0), (72, .getfield 41), (75, .iconst 3), (76, .aload_n 0), (77, .iload 4), (79, .iconst 2), (80, .invokevirtual 158), (83, .iload_n 1), (84, .if_icmp .ne 7), (87, .iconst 1), (88, .goto 4), (91, .iconst 0), (92, .iastore), (93, .aload_n 0), (94, .getfield 41), (97, .iconst 4), (98, .aload_n 0), (99, .iload_n 1), (100, .iload_n 2), (101, .iload_n 3), (102, .iload 4), (104, .invokevirtual 215), (107, .ifCond .eq 7), (110, .iconst 1), (111, .goto 4), (114, .iconst 0), (115, .iastore), (116, .aload_n 0), (117, .getfield 41), (120, .iconst 5), (121, .iload_n 3), (122, .iastore), (123, .aload_n 0), (124, .invokevirtual 219), (127, .ireturn)], ([(92, [true, true, true, true, true]), (115, [true, false, false, true, false])], zp_9)))
def mc9_begins : zv_M := ((RX9, (⟨RX9, "begins", "(IIIIZ)V"⟩, (prog_11_method_35_code, (7, none)))), ([(0, .iconst 0), (1, .istore 6), (3, .iload 6), (5, .bipush 76), (7, .if_icmp .ge 17), (10, .aload_n 0), (11, .iload_n 1), (12, .iload 6), (14, .iconst 0), (15, .invokevirtual 150), (18, .iinc 6 1), (21, .goto (-18)), (24, .aload_n 0), (25, .iload_n 1), (26, .iconst 0), (27, .iconst 1), (28, .invokevirtual 150), (31, .aload_n 0), (32, .iload_n 1), (33, .iconst 1), (34, .aload_n 0), (35, .invokevirtual 199), (38, .invokevirtual 150), (41, .aload_n 0), (42, .iload_n 1), (43, .iconst 2), (44, .iload_n 2), (45, .invokevirtual 150), (48, .aload_n 0), (49, .iload_n 1), (50, .iconst 3), (51, .aload_n 0), (52, .getfield 7), (55, .iconst 1), (56, .iaload), (57, .invokevirtual 150), (60, .aload_n 0), (61, .iload_n 1), (62, .iconst 4), (63, .iload_n 3), (64, .invokevirtual 150), (67, .aload_n 0), (68, .iload_n 1), (69, .iconst 5), (70, .iload 4), (72, .invokevirtual 150), (75, .aload_n 0), (76, .iload_n 1), (77, .bipush 6), (79, .iload 5), (81, .ifCond .eq 16), (84, .aload_n 0), (85, .aload_n 0), (86, .invokevirtual 199), (89, .bipush 6), (91, .invokevirtual 158), (94, .goto 4), (97, .iload_n 1), (98, .invokevirtual 150), (101, .aload_n 0), (102, .iload_n 1), (103, .bipush 8), (105, .iconst (-1)), (106, .invokevirtual 150), (109, .return_)], ([(3, [true, true, true, true, true, true, true]), (98, [true, true, false, false, false, false, false])], zp_9)))
def mc9_packed : zv_M := ((RX9, (⟨RX9, "packed", "([II)I"⟩, (prog_11_method_36_code, (4, (some .int))))), ([(0, .iconst 0), (1, .istore_n 2), (2, .iconst 0), (3, .istore_n 3), (4, .iload_n 3), (5, .iload_n 1), (6, .if_icmp .ge 20), (9, .bipush 32), (11, .iload_n 2), (12, .imul), (13, .aload_n 0), (14, .iload_n 3), (15, .iaload), (16, .iadd), (17, .iconst 1), (18, .iadd), (19, .istore_n 2), (20, .iinc 3 1), (23, .goto (-19)), (26, .iload_n 2), (27, .ireturn)], ([(4, [true, true, true, true])], zp_9)))
def mc9_nameAt : zv_M := ((RX9, (⟨RX9, "nameAt", "(I)I"⟩, (prog_11_method_37_code, (3, (some .int))))), ([(0, .iconst 0), (1, .istore_n 2), (2, .iload_n 2), (3, .aload_n 0), (4, .getfield 7), (7, .iconst 3), (8, .iaload), (9, .if_icmp .ge 27), (12, .aload_n 0), (13, .getfield 7), (16, .sipush 408), (19, .iconst 2), (20, .iload_n 2), (21, .imul), (22, .iadd), (23, .iaload), (24, .iload_n 1), (25, .if_icmp .ne 5), (28, .iload_n 2), (29, .ireturn), (30, .iinc 2 1), (33, .goto (-31)), (36, .iconst (-1)), (37, .ireturn)], ([(2, [true, true, true])], zp_9)))
def mc9_type : zv_M := ((RX9, (⟨RX9, "type", "(II)I"⟩, (prog_11_method_38_code, (7, (some .int))))), ([(0, .aload_n 0), (1, .iconst 0), (2, .putfield 144), (5, .iconst 0), (6, .istore_n 3), (7, .iconst 1), (8, .istore 4), (10, .iconst 0), (11, .istore 5), (13, .iload 5), (15, .bipush 12), (17, .if_icmp .ge 83), (20, .iload 4), (22, .ifCond .eq 78), (25, .iload 5), (27, .bipush 6), (29, .if_icmp .ge 7), (32, .iload_n 1), (33, .goto 4), (36, .iload_n 2), (37, .iconst 5), (38, .iload 5), (40, .bipush 6), (42, .irem), (43, .imul), (44, .iushr), (45, .bipush 31), (47, .iand), (48, .istore 6), (50, .iload 6), (52, .bipush 26), (54, .if_icmp .le 5), (57, .iconst (-1)), (58, .ireturn), (59, .iload 6), (61, .ifCond .le 7), (64, .iconst 1), (65, .goto 4), (68, .iconst 0), (69, .istore 4), (71, .aload_n 0), (72, .getfield 47), (75, .iload_n 3), (76, .iload 6), (78, .iconst 1), (79, .isub), (80, .iastore), (81, .iload_n 3), (82, .iload 4), (84, .ifCond .eq 7), (87, .iconst 1), (88, .goto 4), (91, .iconst 0), (92, .iadd), (93, .istore_n 3), (94, .iinc 5 1), (97, .goto (-84)), (100, .iconst 0), (101, .istore 5), (103, .iload 5), (105, .iload_n 3), (106, .if_icmp .ge 23), (109, .aload_n 0), (110, .getfield 50), (113, .iload 5), (115, .aload_n 0), (116, .getfield 47), (119, .iload 5), (121, .iaload), (122, .iastore), (123, .iinc 5 1), (126, .goto (-23)), (129, .aload_n 0), (130, .iload_n 3), (131, .putfield 223), (134, .iload_n 3), (135, .ireturn)], ([(13, [true, true, true, true, true, true, false]), (37, [true, true, true, true, false, true, false]), (69, [true, true, true, true, false, true, true]), (103, [true, false, false, true, false, true, false])], zp_9)))
def mc9_hand : zv_M := ((RX9, (⟨RX9, "hand", "()V"⟩, (prog_11_method_39_code, (2, none)))), ([(0, .iconst 0), (1, .istore_n 1), (2, .iload_n 1), (3, .aload_n 0), (4, .getfield 223), (7, .if_icmp .ge 21), (10, .aload_n 0), (11, .getfield 47), (14, .iload_n 1), (15, .aload_n 0), (16, .getfield 50), (19, .iload_n 1), (20, .iaload), (21, .iastore), (22, .iinc 1 1), (25, .goto (-23)), (28, .aload_n 0), (29, .aload_n 0), (30, .getfield 223), (33, .putfield 226), (36, .return_)], ([(2, [true, true])], zp_9)))
def mc9_putNow : zv_M := ((RX9, (⟨RX9, "putNow", "(I)I"⟩, (prog_11_method_40_code, (6, (some .int))))), ([(0, .aload_n 0), (1, .aload_n 0), (2, .invokevirtual 199), (5, .invokevirtual 229), (8, .istore_n 2), (9, .iload_n 1), (10, .iconst 0), (11, .iload_n 2), (12, .invokestatic 154), (15, .ifCond .eq 10), (18, .aload_n 0), (19, .getfield 226), (22, .ifCond .ne 9), (25, .aload_n 0), (26, .iconst 1), (27, .invokevirtual 232), (30, .ireturn), (31, .aload_n 0), (32, .invokevirtual 235), (35, .bipush 48), (37, .if_icmp .ne 9), (40, .aload_n 0), (41, .iconst 3), (42, .invokevirtual 232), (45, .ireturn), (46, .iload_n 2), (47, .aload_n 0), (48, .getfield 226), (51, .iadd), (52, .bipush 120), (54, .if_icmp .le 10), (57, .aload_n 0), (58, .bipush 6), (60, .invokevirtual 232), (63, .ireturn), (64, .aload_n 0), (65, .invokevirtual 238), (68, .istore_n 3), (69, .iload_n 1), (70, .ifCond .ne 7), (73, .iconst (-1)), (74, .goto 10), (77, .aload_n 0), (78, .iload_n 1), (79, .iconst 1), (80, .isub), (81, .invokevirtual 241), (84, .istore 4), (86, .aload_n 0), (87, .iload_n 3), (88, .iconst 0), (89, .iload_n 1), (90, .aload_n 0), (91, .getfield 226), (94, .aload_n 0), (95, .iconst 0), (96, .iload_n 1), (97, .aload_n 0), (98, .getfield 226), (101, .invokevirtual 244), (104, .invokevirtual 247), (107, .iconst 0), (108, .istore 5), (110, .iload 5), (112, .aload_n 0), (113, .getfield 226), (116, .if_icmp .ge 26), (119, .aload_n 0), (120, .iload_n 3), (121, .bipush 12), (123, .iload 5), (125, .iadd), (126, .aload_n 0), (127, .getfield 47), (130, .iload 5), (132, .iaload), (133, .invokevirtual 150), (136, .iinc 5 1), (139, .goto (-29)), (142, .iload 4), (144, .ifCond .lt 31), (147, .aload_n 0), (148, .iload_n 3), (149, .bipush 8), (151, .aload_n 0), (152, .getfield 22), (155, .iload 4), (157, .iaload), (158, .invokevirtual 150), (161, .aload_n 0), (162, .iload_n 3), (163, .bipush 9), (165, .aload_n 0), (166, .getfield 25), (169, .iload 4), (171, .iaload), (172, .invokevirtual 150), (175, .aload_n 0), (176, .iload_n 3), (177, .invokevirtual 251), (180, .iload_n 3), (181, .ireturn)], ([(25, [true, false, false, false, false, false]), (84, [true, true, false, true, false, false]), (110, [true, false, false, true, true, true]), (175, [true, false, false, true, false, false])], zp_9)))
def mc9_cutNow : zv_M := ((RX9, (⟨RX9, "cutNow", "(II)I"⟩, (prog_11_method_41_code, (6, (some .int))))), ([(0, .iload_n 2), (1, .iconst 1), (2, .bipush 12), (4, .invokestatic 154), (7, .ifCond .eq 7), (10, .iload_n 1), (11, .ifCond .ge 9), (14, .aload_n 0), (15, .iconst 1), (16, .invokevirtual 232), (19, .ireturn), (20, .iload_n 2), (21, .aload_n 0), (22, .aload_n 0), (23, .invokevirtual 199), (26, .invokevirtual 229), (29, .iload_n 1), (30, .isub), (31, .if_icmp .le 9), (34, .aload_n 0), (35, .iconst 5), (36, .invokevirtual 232), (39, .ireturn), (40, .aload_n 0), (41, .invokevirtual 235), (44, .bipush 48), (46, .if_icmp .ne 9), (49, .aload_n 0), (50, .iconst 3), (51, .invokevirtual 232), (54, .ireturn), (55, .aload_n 0), (56, .invokevirtual 238), (59, .istore_n 3), (60, .aload_n 0), (61, .iload_n 3), (62, .iconst 1), (63, .iload_n 1), (64, .iload_n 2), (65, .aload_n 0), (66, .iconst 1), (67, .iload_n 1), (68, .iload_n 2), (69, .invokevirtual 244), (72, .invokevirtual 247), (75, .iconst 0), (76, .istore 4), (78, .iload 4), (80, .iload_n 2), (81, .if_icmp .ge 59), (84, .aload_n 0), (85, .iload_n 1), (86, .iload 4), (88, .iadd), (89, .invokevirtual 241), (92, .istore 5), (94, .aload_n 0), (95, .iload_n 3), (96, .bipush 52), (98, .iconst 2), (99, .iload 4), (101, .imul), (102, .iadd), (103, .aload_n 0), (104, .getfield 22), (107, .iload 5), (109, .iaload), (110, .invokevirtual 150), (113, .aload_n 0), (114, .iload_n 3), (115, .bipush 52), (117, .iconst 2), (118, .iload 4), (120, .imul), (121, .iadd), (122, .iconst 1), (123, .iadd), (124, .aload_n 0), (125, .getfield 25), (128, .iload 5), (130, .iaload), (131, .invokevirtual 150), (134, .iinc 4 1), (137, .goto (-59)), (140, .aload_n 0), (141, .iload_n 3), (142, .invokevirtual 251), (145, .iload_n 3), (146, .ireturn)], ([(14, [true, false, false, false, false, false]), (78, [true, true, true, true, true, false])], zp_9)))
def mc9_plain : zv_M := ((RX9, (⟨RX9, "plain", "()V"⟩, (prog_11_method_42_code, (2, none)))), ([(0, .iconst 0), (1, .istore_n 1), (2, .iload_n 1), (3, .bipush 48), (5, .if_icmp .ge 16), (8, .aload_n 0), (9, .getfield 53), (12, .iload_n 1), (13, .iload_n 1), (14, .iastore), (15, .iinc 1 1), (18, .goto (-16)), (21, .return_)], ([(2, [true, true])], zp_9)))
def mc9_carries : zv_M := ((RX9, (⟨RX9, "carries", "(I)I"⟩, (prog_11_method_43_code, (5, (some .int))))), ([(0, .aload_n 0), (1, .iload_n 1), (2, .iconst 2), (3, .invokevirtual 158), (6, .iconst 1), (7, .if_icmp .ne 9), (10, .aload_n 0), (11, .iload_n 1), (12, .invokevirtual 254), (15, .ireturn), (16, .iconst 0), (17, .istore_n 2), (18, .aload_n 0), (19, .aload_n 0), (20, .invokevirtual 199), (23, .invokevirtual 193), (26, .aload_n 0), (27, .iload_n 1), (28, .bipush 8), (30, .invokevirtual 158), (33, .ifCond .lt 71), (36, .aload_n 0), (37, .aload_n 0), (38, .getfield 53), (41, .aload_n 0), (42, .iload_n 1), (43, .bipush 8), (45, .invokevirtual 158), (48, .iaload), (49, .aload_n 0), (50, .iload_n 1), (51, .bipush 9), (53, .invokevirtual 158), (56, .invokevirtual 165), (59, .istore_n 3), (60, .iload_n 3), (61, .ifCond .ge 10), (64, .aload_n 0), (65, .bipush 10), (67, .invokevirtual 232), (70, .ireturn), (71, .iconst 0), (72, .istore 4), (74, .iload 4), (76, .iload_n 3), (77, .if_icmp .gt 27), (80, .iload_n 2), (81, .aload_n 0), (82, .getfield 32), (85, .iload 4), (87, .baload), (88, .ifCond .eq 7), (91, .iconst 1), (92, .goto 4), (95, .iconst 0), (96, .iadd), (97, .istore_n 2), (98, .iinc 4 1), (101, .goto (-27)), (104, .aload_n 0), (105, .aload_n 0), (106, .iload_n 1), (107, .iconst 5), (108, .invokevirtual 158), (111, .putfield 226), (114, .iconst 0), (115, .istore_n 3), (116, .iload_n 3), (117, .aload_n 0), (118, .getfield 226), (121, .if_icmp .ge 24), (124, .aload_n 0), (125, .getfield 47), (128, .iload_n 3), (129, .aload_n 0), (130, .iload_n 1), (131, .bipush 12), (133, .iload_n 3), (134, .iadd), (135, .invokevirtual 158), (138, .iastore), (139, .iinc 3 1), (142, .goto (-26)), (145, .aload_n 0), (146, .iload_n 2), (147, .invokevirtual 257), (150, .ireturn)], ([(74, [true, true, true, true, true]), (104, [true, true, true, false, false]), (116, [true, true, true, true, false])], zp_9)))
def mc9_isTaken : zv_M := ((RX9, (⟨RX9, "isTaken", "(II)Z"⟩, (prog_11_method_44_code, (4, (some .boolean))))), ([(0, .iconst 0), (1, .istore_n 3), (2, .iload_n 3), (3, .aload_n 0), (4, .iload_n 1), (5, .iconst 5), (6, .invokevirtual 158), (9, .if_icmp .ge 58), (12, .aload_n 0), (13, .getfield 53), (16, .aload_n 0), (17, .iload_n 1), (18, .bipush 52), (20, .iconst 2), (21, .iload_n 3), (22, .imul), (23, .iadd), (24, .invokevirtual 158), (27, .iaload), (28, .aload_n 0), (29, .getfield 22), (32, .iload_n 2), (33, .iaload), (34, .if_icmp .ne 27), (37, .aload_n 0), (38, .iload_n 1), (39, .bipush 52), (41, .iconst 2), (42, .iload_n 3), (43, .imul), (44, .iadd), (45, .iconst 1), (46, .iadd), (47, .invokevirtual 158), (50, .aload_n 0), (51, .getfield 25), (54, .iload_n 2), (55, .iaload), (56, .if_icmp .ne 5), (59, .iconst 1), (60, .ireturn), (61, .iinc 3 1), (64, .goto (-62)), (67, .iconst 0), (68, .ireturn)], ([(2, [true, true, true, true])], zp_9)))
def mc9_carriesCut : zv_M := ((RX9, (⟨RX9, "carriesCut", "(I)I"⟩, (prog_11_method_45_code, (6, (some .int))))), ([(0, .aload_n 0), (1, .aload_n 0), (2, .invokevirtual 199), (5, .invokevirtual 193), (8, .iconst (-1)), (9, .istore_n 2), (10, .iconst 0), (11, .istore_n 3), (12, .iconst 0), (13, .istore 4), (15, .iconst 0), (16, .istore 5), (18, .iload 5), (20, .aload_n 0), (21, .getfield 162), (24, .if_icmp .ge 68), (27, .aload_n 0), (28, .getfield 32), (31, .iload 5), (33, .baload), (34, .ifCond .ne 6), (37, .goto 49), (40, .aload_n 0), (41, .iload_n 1), (42, .iload 5), (44, .invokevirtual 260), (47, .ifCond .eq 36), (50, .iload_n 2), (51, .ifCond .lt 18), (54, .iload 4), (56, .iload_n 2), (57, .iload_n 3), (58, .iadd), (59, .if_icmp .eq 10), (62, .aload_n 0), (63, .bipush 10), (65, .invokevirtual 232), (68, .ireturn), (69, .iload_n 2), (70, .ifCond .ge 8), (73, .iload 4), (75, .goto 4), (78, .iload_n 2), (79, .istore_n 2), (80, .iinc 3 1), (83, .iinc 4 1), (86, .iinc 5 1), (89, .goto (-71)), (92, .iload_n 3), (93, .ifCond .ne 12), (96, .aload_n 0), (97, .bipush 10), (99, .invokevirtual 232), (102, .goto 9), (105, .aload_n 0), (106, .iload_n 2), (107, .iload_n 3), (108, .invokevirtual 263), (111, .ireturn)], ([(18, [true, true, true, true, true, true]), (69, [true, true, true, true, true, true])], zp_9)))
def mc9_carryNow : zv_M := ((RX9, (⟨RX9, "carryNow", "(I)I"⟩, (prog_11_method_46_code, (2, (some .int))))), ([(0, .aload_n 0), (1, .iload_n 1), (2, .invokevirtual 203), (5, .ifCond .ne 9), (8, .aload_n 0), (9, .iconst 2), (10, .invokevirtual 232), (13, .ireturn), (14, .aload_n 0), (15, .iload_n 1), (16, .aload_n 0), (17, .invokevirtual 199), (20, .invokevirtual 206), (23, .ifCond .ne 11), (26, .aload_n 0), (27, .iload_n 1), (28, .invokevirtual 179), (31, .ifCond .ne 10), (34, .aload_n 0), (35, .bipush 7), (37, .invokevirtual 232), (40, .ireturn), (41, .aload_n 0), (42, .invokevirtual 266), (45, .aload_n 0), (46, .iload_n 1), (47, .invokevirtual 269), (50, .ireturn)], ([(34, [true, false])], zp_9)))
def mc9_mergeNow : zv_M := ((RX9, (⟨RX9, "mergeNow", "(I)I"⟩, (prog_11_method_47_code, (6, (some .int))))), ([(0, .aload_n 0), (1, .iload_n 1), (2, .invokevirtual 203), (5, .ifCond .ne 9), (8, .aload_n 0), (9, .iconst 2), (10, .invokevirtual 232), (13, .ireturn), (14, .aload_n 0), (15, .iload_n 1), (16, .aload_n 0), (17, .invokevirtual 199), (20, .invokevirtual 206), (23, .ifCond .eq 9), (26, .aload_n 0), (27, .iconst 4), (28, .invokevirtual 232), (31, .ireturn), (32, .aload_n 0), (33, .iload_n 1), (34, .invokevirtual 193), (37, .aload_n 0), (38, .getfield 168), (41, .istore_n 2), (42, .iconst 0), (43, .istore_n 3), (44, .iload_n 3), (45, .iload_n 2), (46, .if_icmp .ge 76), (49, .aload_n 0), (50, .getfield 56), (53, .iload_n 3), (54, .aload_n 0), (55, .getfield 19), (58, .iload_n 3), (59, .iaload), (60, .iastore), (61, .aload_n 0), (62, .getfield 59), (65, .iload_n 3), (66, .aload_n 0), (67, .aload_n 0), (68, .getfield 19), (71, .iload_n 3), (72, .iaload), (73, .invokevirtual 179), (76, .ifCond .eq 38), (79, .aload_n 0), (80, .getfield 28), (83, .aload_n 0), (84, .getfield 19), (87, .iload_n 3), (88, .iaload), (89, .baload), (90, .ifCond .eq 24), (93, .aload_n 0), (94, .aload_n 0), (95, .getfield 19), (98, .iload_n 3), (99, .iaload), (100, .aload_n 0), (101, .invokevirtual 199), (104, .invokevirtual 206), (107, .ifCond .ne 7), (110, .iconst 1), (111, .goto 4), (114, .iconst 0), (115, .bastore), (116, .iinc 3 1), (119, .goto (-75)), (122, .aload_n 0), (123, .invokevirtual 266), (126, .iconst 0), (127, .istore_n 3), (128, .aload_n 0), (129, .iconst 0), (130, .putfield 272), (133, .iconst 1), (134, .istore 4), (136, .iload 4), (138, .iload_n 2), (139, .if_icmp .ge 86), (142, .aload_n 0), (143, .getfield 59), (146, .iload 4), (148, .baload), (149, .ifCond .ne 6), (152, .goto 67), (155, .aload_n 0), (156, .aload_n 0), (157, .getfield 56), (160, .iload 4), (162, .iaload), (163, .invokevirtual 269), (166, .istore 5), (168, .iload 5), (170, .ifCond .lt 17), (173, .aload_n 0), (174, .getfield 53), (177, .aload_n 0), (178, .getfield 56), (181, .iload 4), (183, .iaload), (184, .iload 5), (186, .iastore), (187, .iload_n 3), (188, .iload 5), (190, .ifCond .lt 7), (193, .iconst 1), (194, .goto 4), (197, .iconst 0), (198, .iadd), (199, .istore_n 3), (200, .aload_n 0), (201, .dup), (202, .getfield 272), (205, .iload 5), (207, .ifCond .lt 7), (210, .iconst 0), (211, .goto 4), (214, .iconst 1), (215, .iadd), (216, .putfield 272), (219, .iinc 4 1), (222, .goto (-86)), (225, .aload_n 0), (226, .iconst 0), (227, .putfield 147), (230, .iload_n 3), (231, .ireturn)], ([(44, [true, false, true, true, false, false]), (136, [true, false, true, true, true, false]), (187, [true, false, true, true, true, true]), (198, [true, false, true, false, true, true])], zp_9)))
def mc9_undoNow : zv_M := ((RX9, (⟨RX9, "undoNow", "()I"⟩, (prog_11_method_48_code, (1, (some .int))))), ([(0, .aload_n 0), (1, .invokevirtual 199), (4, .ifCond .ne 9), (7, .aload_n 0), (8, .iconst 5), (9, .invokevirtual 232), (12, .ireturn), (13, .aload_n 0), (14, .aload_n 0), (15, .aload_n 0), (16, .aload_n 0), (17, .invokevirtual 199), (20, .bipush 6), (22, .invokevirtual 158), (25, .iconst 1), (26, .invokevirtual 158), (29, .invokevirtual 251), (32, .aload_n 0), (33, .invokevirtual 199), (36, .ireturn)], ([], zp_9)))
def mc9_redoNow : zv_M := ((RX9, (⟨RX9, "redoNow", "()I"⟩, (prog_11_method_49_code, (4, (some .int))))), ([(0, .aload_n 0), (1, .aload_n 0), (2, .invokevirtual 199), (5, .iconst 0), (6, .invokevirtual 275), (9, .istore_n 1), (10, .iload_n 1), (11, .ifCond .ge 9), (14, .aload_n 0), (15, .iconst 5), (16, .invokevirtual 232), (19, .ireturn), (20, .aload_n 0), (21, .iload_n 1), (22, .bipush 6), (24, .invokevirtual 158), (27, .istore_n 2), (28, .aload_n 0), (29, .iload_n 1), (30, .iconst 0), (31, .invokevirtual 275), (34, .istore_n 3), (35, .iload_n 3), (36, .ifCond .lt 26), (39, .aload_n 0), (40, .iload_n 3), (41, .bipush 6), (43, .invokevirtual 158), (46, .iload_n 2), (47, .if_icmp .ne 15), (50, .iload_n 3), (51, .istore_n 1), (52, .aload_n 0), (53, .iload_n 1), (54, .iconst 0), (55, .invokevirtual 275), (58, .istore_n 3), (59, .goto (-24)), (62, .aload_n 0), (63, .iload_n 1), (64, .invokevirtual 251), (67, .iload_n 1), (68, .ireturn)], ([(35, [true, true, true, true]), (62, [true, true, false, false])], zp_9)))
def mc9_commonOf : zv_M := ((RX9, (⟨RX9, "commonOf", "(II)I"⟩, (prog_11_method_50_code, (4, (some .int))))), ([(0, .iload_n 1), (1, .istore_n 3), (2, .aload_n 0), (3, .iload_n 3), (4, .iload_n 2), (5, .invokevirtual 206), (8, .ifCond .ne 13), (11, .aload_n 0), (12, .iload_n 3), (13, .iconst 1), (14, .invokevirtual 158), (17, .istore_n 3), (18, .goto (-16)), (21, .iload_n 3), (22, .ireturn)], ([(2, [true, false, true, true])], zp_9)))
def mc9_wayMany : zv_M := ((RX9, (⟨RX9, "wayMany", "(II)I"⟩, (prog_11_method_51_code, (3, (some .int))))), ([(0, .aload_n 0), (1, .iload_n 1), (2, .invokevirtual 175), (5, .aload_n 0), (6, .iload_n 2), (7, .invokevirtual 175), (10, .iadd), (11, .iconst 2), (12, .aload_n 0), (13, .aload_n 0), (14, .iload_n 1), (15, .iload_n 2), (16, .invokevirtual 278), (19, .invokevirtual 175), (22, .imul), (23, .isub), (24, .ireturn)], ([], zp_9)))
def mc9_goNow : zv_M := ((RX9, (⟨RX9, "goNow", "(I)I"⟩, (prog_11_method_52_code, (3, (some .int))))), ([(0, .aload_n 0), (1, .iload_n 1), (2, .invokevirtual 203), (5, .ifCond .ne 9), (8, .aload_n 0), (9, .iconst 2), (10, .invokevirtual 232), (13, .ireturn), (14, .iload_n 1), (15, .aload_n 0), (16, .invokevirtual 199), (19, .if_icmp .ne 9), (22, .aload_n 0), (23, .iconst 4), (24, .invokevirtual 232), (27, .ireturn), (28, .aload_n 0), (29, .aload_n 0), (30, .invokevirtual 199), (33, .iload_n 1), (34, .invokevirtual 281), (37, .istore_n 2), (38, .aload_n 0), (39, .iload_n 1), (40, .invokevirtual 251), (43, .iload_n 2), (44, .ireturn)], ([], zp_9)))
def mc9_nameNow : zv_M := ((RX9, (⟨RX9, "nameNow", "()I"⟩, (prog_11_method_53_code, (3, (some .int))))), ([(0, .aload_n 0), (1, .getfield 226), (4, .iconst 1), (5, .bipush 6), (7, .invokestatic 154), (10, .ifCond .ne 9), (13, .aload_n 0), (14, .iconst 1), (15, .invokevirtual 232), (18, .ireturn), (19, .aload_n 0), (20, .getfield 47), (23, .aload_n 0), (24, .getfield 226), (27, .invokestatic 284), (30, .istore_n 1), (31, .aload_n 0), (32, .iload_n 1), (33, .invokevirtual 288), (36, .istore_n 2), (37, .iload_n 2), (38, .ifCond .ge 20), (41, .aload_n 0), (42, .getfield 7), (45, .iconst 3), (46, .iaload), (47, .bipush 12), (49, .if_icmp .ne 9), (52, .aload_n 0), (53, .iconst 3), (54, .invokevirtual 232), (57, .ireturn), (58, .iload_n 2), (59, .ifCond .lt 30), (62, .aload_n 0), (63, .getfield 7), (66, .sipush 408), (69, .iconst 2), (70, .iload_n 2), (71, .imul), (72, .iadd), (73, .iconst 1), (74, .iadd), (75, .iaload), (76, .aload_n 0), (77, .invokevirtual 199), (80, .if_icmp .ne 9), (83, .aload_n 0), (84, .iconst 4), (85, .invokevirtual 232), (88, .ireturn), (89, .iload_n 2), (90, .ifCond .ge 20), (93, .aload_n 0), (94, .getfield 7), (97, .iconst 3), (98, .iaload), (99, .istore_n 2), (100, .aload_n 0), (101, .getfield 7), (104, .iconst 3), (105, .dup2), (106, .iaload), (107, .iconst 1), (108, .iadd), (109, .iastore), (110, .aload_n 0), (111, .getfield 7), (114, .sipush 408), (117, .iconst 2), (118, .iload_n 2), (119, .imul), (120, .iadd), (121, .iload_n 1), (122, .iastore), (123, .aload_n 0), (124, .getfield 7), (127, .sipush 408), (130, .iconst 2), (131, .iload_n 2), (132, .imul), (133, .iadd), (134, .iconst 1), (135, .iadd), (136, .aload_n 0), (137, .invokevirtual 199), (140, .iastore), (141, .aload_n 0), (142, .getfield 7), (145, .iconst 3), (146, .iaload), (147, .ireturn)], ([(58, [true, true, true]), (89, [true, true, true]), (110, [true, true, true])], zp_9)))
def mc9_leansOn : zv_M := ((RX9, (⟨RX9, "leansOn", "(II)Z"⟩, (prog_11_method_54_code, (4, (some .boolean))))), ([(0, .aload_n 0), (1, .iload_n 1), (2, .iconst 2), (3, .invokevirtual 158), (6, .ifCond .ne 20), (9, .aload_n 0), (10, .iload_n 1), (11, .bipush 8), (13, .invokevirtual 158), (16, .iload_n 2), (17, .if_icmp .ne 7), (20, .iconst 1), (21, .goto 4), (24, .iconst 0), (25, .ireturn), (26, .iconst 0), (27, .istore_n 3), (28, .iload_n 3), (29, .aload_n 0), (30, .iload_n 1), (31, .iconst 5), (32, .invokevirtual 158), (35, .if_icmp .ge 26), (38, .aload_n 0), (39, .iload_n 1), (40, .bipush 52), (42, .iconst 2), (43, .iload_n 3), (44, .imul), (45, .iadd), (46, .invokevirtual 158), (49, .iload_n 2), (50, .if_icmp .ne 5), (53, .iconst 1), (54, .ireturn), (55, .iinc 3 1), (58, .goto (-30)), (61, .iconst 0), (62, .ireturn)], ([(28, [true, true, true, true])], zp_9)))
def mc9_marks : zv_M := ((RX9, (⟨RX9, "marks", "(IZ)V"⟩, (prog_11_method_55_code, (7, none)))), ([(0, .aload_n 0), (1, .aload_n 0), (2, .invokevirtual 199), (5, .invokevirtual 193), (8, .iconst 0), (9, .istore_n 3), (10, .iload_n 3), (11, .bipush 48), (13, .if_icmp .ge 25), (16, .aload_n 0), (17, .getfield 62), (20, .iload_n 3), (21, .iload_n 3), (22, .iload_n 1), (23, .if_icmp .ne 7), (26, .iconst 1), (27, .goto 4), (30, .iconst 0), (31, .bastore), (32, .iinc 3 1), (35, .goto (-25)), (38, .iconst 1), (39, .istore_n 3), (40, .iload_n 3), (41, .aload_n 0), (42, .getfield 168), (45, .if_icmp .ge 154), (48, .aload_n 0), (49, .getfield 19), (52, .iload_n 2), (53, .ifCond .eq 12), (56, .aload_n 0), (57, .getfield 168), (60, .iload_n 3), (61, .isub), (62, .goto 4), (65, .iload_n 3), (66, .iaload), (67, .istore 4), (69, .iconst 1), (70, .istore 5), (72, .iload 5), (74, .aload_n 0), (75, .getfield 168), (78, .if_icmp .ge 115), (81, .aload_n 0), (82, .iload 4), (84, .invokevirtual 179), (87, .ifCond .eq 106), (90, .aload_n 0), (91, .getfield 62), (94, .iload 4), (96, .baload), (97, .ifCond .ne 96), (100, .aload_n 0), (101, .getfield 19), (104, .iload 5), (106, .iaload), (107, .istore 6), (109, .aload_n 0), (110, .getfield 62), (113, .iload 6), (115, .baload), (116, .ifCond .eq 71), (119, .aload_n 0), (120, .iload 6), (122, .invokevirtual 179), (125, .ifCond .eq 62), (128, .iload_n 2), (129, .ifCond .eq 28), (132, .aload_n 0), (133, .iload 4), (135, .iload 6), (137, .invokevirtual 206), (140, .ifCond .eq 47), (143, .aload_n 0), (144, .iload 6), (146, .iload 4), (148, .invokevirtual 291), (151, .ifCond .eq 36), (154, .goto 25), (157, .aload_n 0), (158, .iload 6), (160, .iload 4), (162, .invokevirtual 206), (165, .ifCond .eq 22), (168, .aload_n 0), (169, .iload 4), (171, .iload 6), (173, .invokevirtual 291), (176, .ifCond .eq 11), (179, .aload_n 0), (180, .getfield 62), (183, .iload 4), (185, .iconst 1), (186, .bastore), (187, .iinc 5 1), (190, .goto (-118)), (193, .iinc 3 1), (196, .goto (-156)), (199, .return_)], ([(10, [true, true, true, true, false, false, false]), (40, [true, false, true, true, false, false, false]), (72, [true, false, true, true, true, true, false])], zp_9)))
def mc9_triesNames : zv_M := ((RX9, (⟨RX9, "triesNames", "(I)I"⟩, (prog_11_method_56_code, (4, (some .int))))), ([(0, .aload_n 0), (1, .aload_n 0), (2, .invokevirtual 199), (5, .invokevirtual 193), (8, .aload_n 0), (9, .bipush 48), (11, .iload_n 1), (12, .iconst (-1)), (13, .iconst 0), (14, .iconst 0), (15, .invokevirtual 247), (18, .iconst 0), (19, .istore_n 2), (20, .iconst 1), (21, .istore_n 3), (22, .iload_n 3), (23, .aload_n 0), (24, .getfield 168), (27, .if_icmp .ge 65), (30, .aload_n 0), (31, .getfield 62), (34, .aload_n 0), (35, .getfield 19), (38, .iload_n 3), (39, .iaload), (40, .baload), (41, .ifCond .eq 45), (44, .aload_n 0), (45, .getfield 28), (48, .aload_n 0), (49, .getfield 19), (52, .iload_n 3), (53, .iaload), (54, .baload), (55, .iload_n 1), (56, .iconst 2), (57, .if_icmp .ne 7), (60, .iconst 1), (61, .goto 4), (64, .iconst 0), (65, .if_icmp .eq 6), (68, .goto 18), (71, .aload_n 0), (72, .bipush 48), (74, .aload_n 0), (75, .getfield 19), (78, .iload_n 3), (79, .iaload), (80, .invokevirtual 294), (83, .iinc 2 1), (86, .iinc 3 1), (89, .goto (-67)), (92, .iload_n 2), (93, .ireturn)], ([(22, [true, true, true, true]), (65, [true, true, true, true])], zp_9)))
def mc9_turnNow : zv_M := ((RX9, (⟨RX9, "turnNow", "(II)I"⟩, (prog_11_method_57_code, (5, (some .int))))), ([(0, .aload_n 0), (1, .iload_n 1), (2, .invokevirtual 203), (5, .ifCond .ne 9), (8, .aload_n 0), (9, .iconst 2), (10, .invokevirtual 232), (13, .ireturn), (14, .aload_n 0), (15, .iload_n 1), (16, .aload_n 0), (17, .invokevirtual 199), (20, .invokevirtual 206), (23, .ifCond .eq 11), (26, .aload_n 0), (27, .iload_n 1), (28, .invokevirtual 179), (31, .ifCond .ne 10), (34, .aload_n 0), (35, .bipush 7), (37, .invokevirtual 232), (40, .ireturn), (41, .aload_n 0), (42, .aload_n 0), (43, .invokevirtual 199), (46, .invokevirtual 193), (49, .aload_n 0), (50, .getfield 28), (53, .iload_n 1), (54, .baload), (55, .iload_n 2), (56, .iconst 2), (57, .if_icmp .ne 7), (60, .iconst 1), (61, .goto 4), (64, .iconst 0), (65, .if_icmp .eq 9), (68, .aload_n 0), (69, .iconst 4), (70, .invokevirtual 232), (73, .ireturn), (74, .aload_n 0), (75, .invokevirtual 235), (78, .bipush 48), (80, .if_icmp .ne 9), (83, .aload_n 0), (84, .iconst 3), (85, .invokevirtual 232), (88, .ireturn), (89, .aload_n 0), (90, .iload_n 1), (91, .iload_n 2), (92, .iconst 3), (93, .if_icmp .ne 7), (96, .iconst 1), (97, .goto 4), (100, .iconst 0), (101, .invokevirtual 298), (104, .aload_n 0), (105, .iload_n 2), (106, .invokevirtual 302), (109, .istore_n 3), (110, .aload_n 0), (111, .bipush 48), (113, .invokevirtual 229), (116, .bipush 120), (118, .if_icmp .le 10), (121, .aload_n 0), (122, .bipush 6), (124, .invokevirtual 232), (127, .ireturn), (128, .aload_n 0), (129, .invokevirtual 238), (132, .istore 4), (134, .aload_n 0), (135, .iload 4), (137, .iload_n 2), (138, .iconst (-1)), (139, .iload_n 3), (140, .iconst 0), (141, .invokevirtual 247), (144, .aload_n 0), (145, .iload 4), (147, .bipush 10), (149, .aload_n 0), (150, .bipush 48), (152, .bipush 10), (154, .invokevirtual 158), (157, .invokevirtual 150), (160, .aload_n 0), (161, .iload 4), (163, .bipush 11), (165, .aload_n 0), (166, .bipush 48), (168, .bipush 11), (170, .invokevirtual 158), (173, .invokevirtual 150), (176, .aload_n 0), (177, .iload 4), (179, .invokevirtual 251), (182, .iload 4), (184, .ireturn)], ([(34, [true, false, false, false, false]), (65, [true, true, true, false, false]), (101, [true, false, true, false, false])], zp_9)))
def mc9_lays : zv_M := ((RX9, (⟨RX9, "lays", "(I)V"⟩, (prog_11_method_58_code, (3, none)))), ([(0, .bipush 24), (2, .istore_n 2), (3, .iload_n 2), (4, .ifCond .lt 32), (7, .aload_n 0), (8, .getfield 65), (11, .aload_n 0), (12, .getfield 305), (15, .iload_n 1), (16, .iload_n 2), (17, .ishr), (18, .i2b), (19, .bastore), (20, .aload_n 0), (21, .dup), (22, .getfield 305), (25, .iconst 1), (26, .iadd), (27, .putfield 305), (30, .iinc 2 (-8)), (33, .goto (-30)), (36, .return_)], ([(3, [true, true, true])], zp_9)))
def mc9_feed : zv_M := ((RX9, (⟨RX9, "feed", "(IIIII)I"⟩, (prog_11_method_59_code, (6, (some .int))))), ([(0, .aload_n 0), (1, .iconst 0), (2, .putfield 144), (5, .aload_n 0), (6, .getfield 305), (9, .bipush 20), (11, .iadd), (12, .sipush 700), (15, .if_icmp .le 5), (18, .iconst (-1)), (19, .ireturn), (20, .aload_n 0), (21, .iload_n 1), (22, .invokevirtual 308), (25, .aload_n 0), (26, .iload_n 2), (27, .invokevirtual 308), (30, .aload_n 0), (31, .iload_n 3), (32, .invokevirtual 308), (35, .aload_n 0), (36, .iload 4), (38, .invokevirtual 308), (41, .aload_n 0), (42, .iload 5), (44, .invokevirtual 308), (47, .aload_n 0), (48, .getfield 305), (51, .ireturn)], ([], zp_9)))
def mc9_isOf : zv_M := ((RX9, (⟨RX9, "isOf", "(III)Z"⟩, (prog_11_method_60_code, (4, (some .boolean))))), ([(0, .iload_n 1), (1, .aload_n 0), (2, .getfield 311), (5, .if_icmp .ge 21), (8, .aload_n 0), (9, .getfield 65), (12, .iload_n 1), (13, .baload), (14, .iload_n 2), (15, .iload_n 3), (16, .invokestatic 154), (19, .ifCond .eq 7), (22, .iconst 1), (23, .goto 4), (26, .iconst 0), (27, .ireturn)], ([], zp_9)))
def mc9_reads : zv_M := ((RX9, (⟨RX9, "reads", "()V"⟩, (prog_11_method_61_code, (1, none)))), ([(0, .aload_n 0), (1, .aload_n 0), (2, .getfield 314), (5, .putfield 317), (8, .aload_n 0), (9, .getfield 317), (12, .aload_n 0), (13, .getfield 311), (16, .if_icmp .ge 44), (19, .aload_n 0), (20, .getfield 65), (23, .aload_n 0), (24, .getfield 317), (27, .baload), (28, .bipush 10), (30, .if_icmp .eq 17), (33, .aload_n 0), (34, .getfield 65), (37, .aload_n 0), (38, .getfield 317), (41, .baload), (42, .bipush 32), (44, .if_icmp .ne 16), (47, .aload_n 0), (48, .dup), (49, .getfield 317), (52, .iconst 1), (53, .iadd), (54, .putfield 317), (57, .goto (-49)), (60, .aload_n 0), (61, .aload_n 0), (62, .getfield 317), (65, .iconst 1), (66, .iadd), (67, .putfield 314), (70, .aload_n 0), (71, .aload_n 0), (72, .getfield 317), (75, .aload_n 0), (76, .getfield 311), (79, .if_icmp .lt 7), (82, .iconst 0), (83, .goto 27), (86, .ldc_w 320), (89, .aload_n 0), (90, .getfield 65), (93, .aload_n 0), (94, .getfield 317), (97, .baload), (98, .i2c), (99, .invokevirtual 322), (102, .ifCond .lt 7), (105, .iconst 3), (106, .goto 4), (109, .iconst 4), (110, .putfield 327), (113, .aload_n 0), (114, .aload_n 0), (115, .getfield 317), (118, .bipush 97), (120, .bipush 122), (122, .invokevirtual 330), (125, .ifCond .eq 97), (128, .aload_n 0), (129, .iconst 1), (130, .putfield 327), (133, .aload_n 0), (134, .lconst 0), (135, .putfield 333), (138, .aload_n 0), (139, .aload_n 0), (140, .getfield 317), (143, .putfield 314), (146, .aload_n 0), (147, .aload_n 0), (148, .getfield 314), (151, .bipush 97), (153, .bipush 122), (155, .invokevirtual 330), (158, .ifCond .eq 186), (161, .aload_n 0), (162, .aload_n 0), (163, .getfield 314), (166, .aload_n 0), (167, .getfield 317), (170, .isub), (171, .bipush 9), (173, .if_icmp .ge 29), (176, .ldc2_w 337), (179, .aload_n 0), (180, .getfield 333), (183, .lmul), (184, .aload_n 0), (185, .getfield 65), (188, .aload_n 0), (189, .getfield 314), (192, .baload), (193, .i2l), (194, .ladd), (195, .ldc2_w 339), (198, .lsub), (199, .goto 7), (202, .aload_n 0), (203, .getfield 333), (206, .putfield 333), (209, .aload_n 0), (210, .dup), (211, .getfield 314), (214, .iconst 1), (215, .iadd), (216, .putfield 314), (219, .goto (-73)), (222, .aload_n 0), (223, .aload_n 0), (224, .getfield 317), (227, .bipush 48), (229, .bipush 57), (231, .invokevirtual 330), (234, .ifCond .eq 110), (237, .aload_n 0), (238, .iconst 0), (239, .putfield 341), (242, .aload_n 0), (243, .aload_n 0), (244, .getfield 317), (247, .putfield 314), (250, .aload_n 0), (251, .aload_n 0), (252, .getfield 314), (255, .bipush 48), (257, .bipush 57), (259, .invokevirtual 330), (262, .ifCond .eq 60), (265, .aload_n 0), (266, .aload_n 0), (267, .getfield 314), (270, .aload_n 0), (271, .getfield 317), (274, .isub), (275, .iconst 3), (276, .if_icmp .ge 26), (279, .bipush 10), (281, .aload_n 0), (282, .getfield 341), (285, .imul), (286, .aload_n 0), (287, .getfield 65), (290, .aload_n 0), (291, .getfield 314), (294, .baload), (295, .iadd), (296, .bipush 48), (298, .isub), (299, .goto 7), (302, .aload_n 0), (303, .getfield 341), (306, .putfield 341), (309, .aload_n 0), (310, .dup), (311, .getfield 314), (314, .iconst 1), (315, .iadd), (316, .putfield 314), (319, .goto (-69)), (322, .aload_n 0), (323, .aload_n 0), (324, .getfield 314), (327, .aload_n 0), (328, .getfield 317), (331, .isub), (332, .iconst 3), (333, .if_icmp .le 7), (336, .iconst 4), (337, .goto 4), (340, .iconst 2), (341, .putfield 327), (344, .return_)], ([(8, [true]), (60, [true]), (110, [true]), (146, [true]), (250, [true])], zp_9)))
def mc9_must : zv_M := ((RX9, (⟨RX9, "must", "(ZI)V"⟩, (prog_11_method_62_code, (3, none)))), ([(0, .iload_n 1), (1, .ifCond .ne 10), (4, .aload_n 0), (5, .getfield 344), (8, .ifCond .le 4), (11, .return_), (12, .aload_n 0), (13, .iload_n 2), (14, .iconst 2), (15, .if_icmp .ne 15), (18, .aload_n 0), (19, .getfield 327), (22, .iconst 4), (23, .if_icmp .ne 7), (26, .iconst 1), (27, .goto 4), (30, .iload_n 2), (31, .putfield 344), (34, .aload_n 0), (35, .aload_n 0), (36, .getfield 317), (39, .putfield 347), (42, .return_)], ([], zp_9)))
def mc9_which : zv_M := ((RX9, (⟨RX9, "which", "([J)I"⟩, (prog_11_method_63_code, (3, (some .int))))), ([(0, .iconst 0), (1, .istore_n 2), (2, .iload_n 2), (3, .aload_n 1), (4, .arraylength), (5, .if_icmp .ge 51), (8, .aload_n 0), (9, .getfield 327), (12, .iconst 1), (13, .if_icmp .ne 43), (16, .aload_n 0), (17, .getfield 344), (20, .ifCond .ne 36), (23, .aload_n 1), (24, .iload_n 2), (25, .laload), (26, .aload_n 0), (27, .getfield 333), (30, .lcmp), (31, .ifCond .ne 19), (34, .aload_n 0), (35, .getfield 314), (38, .aload_n 0), (39, .getfield 317), (42, .isub), (43, .bipush 8), (45, .if_icmp .gt 5), (48, .iload_n 2), (49, .ireturn), (50, .iinc 2 1), (53, .goto (-51)), (56, .iconst (-1)), (57, .ireturn)], ([(2, [true, true, true])], zp_9)))
def mc9_isSign : zv_M := ((RX9, (⟨RX9, "isSign", "(C)Z"⟩, (prog_11_method_64_code, (2, (some .boolean))))), ([(0, .aload_n 0), (1, .getfield 344), (4, .ifCond .ne 28), (7, .aload_n 0), (8, .getfield 327), (11, .iconst 3), (12, .if_icmp .ne 20), (15, .aload_n 0), (16, .getfield 65), (19, .aload_n 0), (20, .getfield 317), (23, .baload), (24, .iload_n 1), (25, .if_icmp .ne 7), (28, .iconst 1), (29, .goto 4), (32, .iconst 0), (33, .ireturn)], ([], zp_9)))
def mc9_takes : zv_M := ((RX9, (⟨RX9, "takes", "(C)V"⟩, (prog_11_method_65_code, (2, none)))), ([(0, .aload_n 0), (1, .aload_n 0), (2, .iload_n 1), (3, .invokevirtual 350), (6, .iconst 2), (7, .invokevirtual 354), (10, .aload_n 0), (11, .getfield 344), (14, .ifCond .ne 7), (17, .aload_n 0), (18, .invokevirtual 358), (21, .return_)], ([], zp_9)))
def mc9_takesNumber : zv_M := ((RX9, (⟨RX9, "takesNumber", "()I"⟩, (prog_11_method_66_code, (2, (some .int))))), ([(0, .aload_n 0), (1, .aload_n 0), (2, .getfield 327), (5, .iconst 2), (6, .if_icmp .ne 7), (9, .iconst 1), (10, .goto 4), (13, .iconst 0), (14, .iconst 2), (15, .invokevirtual 354), (18, .aload_n 0), (19, .getfield 341), (22, .istore_n 1), (23, .aload_n 0), (24, .getfield 344), (27, .ifCond .ne 7), (30, .aload_n 0), (31, .invokevirtual 358), (34, .iload_n 1), (35, .ireturn)], ([(14, [true, false])], zp_9)))
def mc9_takesWord : zv_M := ((RX9, (⟨RX9, "takesWord", "(I)V"⟩, (prog_11_method_67_code, (3, none)))), ([(0, .aload_n 0), (1, .aload_n 0), (2, .getfield 327), (5, .iconst 1), (6, .if_icmp .ne 7), (9, .iconst 1), (10, .goto 4), (13, .iconst 0), (14, .iconst 2), (15, .invokevirtual 354), (18, .aload_n 0), (19, .aload_n 0), (20, .getfield 314), (23, .aload_n 0), (24, .getfield 317), (27, .isub), (28, .iload_n 1), (29, .if_icmp .gt 7), (32, .iconst 1), (33, .goto 4), (36, .iconst 0), (37, .iconst 4), (38, .invokevirtual 354), (41, .aload_n 0), (42, .getfield 344), (45, .ifCond .le 4), (48, .return_), (49, .aload_n 0), (50, .aload_n 0), (51, .getfield 314), (54, .aload_n 0), (55, .getfield 317), (58, .isub), (59, .putfield 226), (62, .iconst 0), (63, .istore_n 2), (64, .iload_n 2), (65, .aload_n 0), (66, .getfield 226), (69, .if_icmp .ge 29), (72, .aload_n 0), (73, .getfield 47), (76, .iload_n 2), (77, .aload_n 0), (78, .getfield 65), (81, .aload_n 0), (82, .getfield 317), (85, .iload_n 2), (86, .iadd), (87, .baload), (88, .bipush 97), (90, .isub), (91, .iastore), (92, .iinc 2 1), (95, .goto (-31)), (98, .aload_n 0), (99, .invokevirtual 358), (102, .return_)], ([(14, [true, true, false]), (37, [true, false, false]), (64, [true, false, true])], zp_9)))
def mc9_emits : zv_M := ((RX9, (⟨RX9, "emits", "(I)V"⟩, (prog_11_method_68_code, (2, none)))), ([(0, .aload_n 0), (1, .getfield 344), (4, .ifCond .le 4), (7, .return_), (8, .aload_n 0), (9, .getfield 7), (12, .bipush 8), (14, .aload_n 0), (15, .getfield 7), (18, .iconst 4), (19, .iaload), (20, .iadd), (21, .iload_n 1), (22, .iastore), (23, .aload_n 0), (24, .getfield 7), (27, .iconst 4), (28, .dup2), (29, .iaload), (30, .iconst 1), (31, .iadd), (32, .iastore), (33, .return_)], ([], zp_9)))
def mc9_test : zv_M := ((RX9, (⟨RX9, "test", "()V"⟩, (prog_11_method_69_code, (1, none)))), ([(0, .aload_n 0), (1, .invokevirtual 361), (4, .aload_n 0), (5, .aload_n 0), (6, .getfield 114), (9, .invokevirtual 364), (12, .iconst 2), (13, .if_icmp .ne 20), (16, .aload_n 0), (17, .invokevirtual 358), (20, .aload_n 0), (21, .invokevirtual 361), (24, .aload_n 0), (25, .bipush (-3)), (27, .invokevirtual 368), (30, .goto (-26)), (33, .return_)], ([(4, [true])], zp_9)))
def mc9_side : zv_M := ((RX9, (⟨RX9, "side", "()V"⟩, (prog_11_method_70_code, (1, none)))), ([(0, .aload_n 0), (1, .invokevirtual 371), (4, .aload_n 0), (5, .aload_n 0), (6, .getfield 114), (9, .invokevirtual 364), (12, .iconst 3), (13, .if_icmp .ne 20), (16, .aload_n 0), (17, .invokevirtual 358), (20, .aload_n 0), (21, .invokevirtual 371), (24, .aload_n 0), (25, .bipush (-2)), (27, .invokevirtual 368), (30, .goto (-26)), (33, .return_)], ([(4, [true])], zp_9)))
def mc9_fact : zv_M := ((RX9, (⟨RX9, "fact", "()V"⟩, (prog_11_method_71_code, (5, none)))), ([(0, .aload_n 0), (1, .aload_n 0), (2, .getfield 114), (5, .invokevirtual 364), (8, .iconst 4), (9, .if_icmp .ne 7), (12, .iconst 1), (13, .goto 4), (16, .iconst 0), (17, .istore_n 1), (18, .aload_n 0), (19, .getfield 344), (22, .ifCond .ne 95), (25, .iload_n 1), (26, .ifCond .ne 12), (29, .aload_n 0), (30, .bipush 91), (32, .invokevirtual 350), (35, .ifCond .eq 82), (38, .aload_n 0), (39, .aload_n 0), (40, .getfield 374), (43, .bipush 6), (45, .if_icmp .ge 7), (48, .iconst 1), (49, .goto 4), (52, .iconst 0), (53, .bipush 6), (55, .invokevirtual 354), (58, .aload_n 0), (59, .getfield 344), (62, .ifCond .le 4), (65, .return_), (66, .aload_n 0), (67, .dup), (68, .getfield 374), (71, .iconst 1), (72, .iadd), (73, .putfield 374), (76, .aload_n 0), (77, .invokevirtual 358), (80, .iload_n 1), (81, .ifCond .eq 15), (84, .aload_n 0), (85, .invokevirtual 371), (88, .aload_n 0), (89, .iconst (-1)), (90, .invokevirtual 368), (93, .goto 13), (96, .aload_n 0), (97, .invokevirtual 377), (100, .aload_n 0), (101, .bipush 93), (103, .invokevirtual 380), (106, .aload_n 0), (107, .dup), (108, .getfield 374), (111, .iconst 1), (112, .isub), (113, .putfield 374), (116, .return_), (117, .aload_n 0), (118, .aload_n 0), (119, .getfield 129), (122, .invokevirtual 364), (125, .istore_n 2), (126, .aload_n 0), (127, .iload_n 2), (128, .ifCond .lt 7), (131, .iconst 1), (132, .goto 4), (135, .iconst 0), (136, .iconst 2), (137, .invokevirtual 354), (140, .aload_n 0), (141, .getfield 344), (144, .ifCond .le 4), (147, .return_), (148, .aload_n 0), (149, .invokevirtual 358), (152, .aload_n 0), (153, .bipush 60), (155, .invokevirtual 350), (158, .ifCond .eq 7), (161, .iconst 0), (162, .goto 30), (165, .aload_n 0), (166, .bipush 61), (168, .invokevirtual 350), (171, .ifCond .eq 7), (174, .iconst 1), (175, .goto 17), (178, .aload_n 0), (179, .bipush 62), (181, .invokevirtual 350), (184, .ifCond .eq 7), (187, .iconst 2), (188, .goto 4), (191, .iconst (-1)), (192, .istore_n 3), (193, .aload_n 0), (194, .iload_n 3), (195, .ifCond .lt 7), (198, .iconst 1), (199, .goto 4), (202, .iconst 0), (203, .iconst 2), (204, .invokevirtual 354), (207, .aload_n 0), (208, .getfield 344), (211, .ifCond .ne 7), (214, .aload_n 0), (215, .invokevirtual 358), (218, .aload_n 0), (219, .invokevirtual 384), (222, .istore 4), (224, .aload_n 0), (225, .iload_n 2), (226, .bipush 6), (228, .iload_n 3), (229, .imul), (230, .iadd), (231, .bipush 18), (233, .iload 4), (235, .imul), (236, .iadd), (237, .invokevirtual 368), (240, .return_)], ([(17, [true, false, false, false, false]), (38, [true, true, false, false, false]), (53, [true, true, false, false, false]), (117, [true, false, false, false, false]), (136, [true, false, true, false, false]), (192, [true, false, true, false, false]), (203, [true, false, true, true, false]), (218, [true, false, true, true, false])], zp_9)))
def mc9_readsLine : zv_M := ((RX9, (⟨RX9, "readsLine", "()V"⟩, (prog_11_method_72_code, (2, none)))), ([(0, .aload_n 0), (1, .aload_n 0), (2, .getfield 100), (5, .invokevirtual 364), (8, .istore_n 1), (9, .aload_n 0), (10, .iload_n 1), (11, .ifCond .lt 7), (14, .iconst 1), (15, .goto 4), (18, .iconst 0), (19, .iconst 2), (20, .invokevirtual 354), (23, .aload_n 0), (24, .getfield 344), (27, .ifCond .le 4), (30, .return_), (31, .aload_n 0), (32, .invokevirtual 358), (35, .aload_n 0), (36, .iconst 0), (37, .putfield 387), (40, .aload_n 0), (41, .iconst 0), (42, .putfield 390), (45, .iload_n 1), (46, .iconst 3), (47, .if_icmp .lt 14), (50, .iload_n 1), (51, .iconst 5), (52, .if_icmp .eq 9), (55, .iload_n 1), (56, .bipush 6), (58, .if_icmp .le 11), (61, .aload_n 0), (62, .aload_n 0), (63, .invokevirtual 384), (66, .putfield 387), (69, .iload_n 1), (70, .iconst 1), (71, .if_icmp .ne 11), (74, .aload_n 0), (75, .aload_n 0), (76, .invokevirtual 384), (79, .putfield 390), (82, .iload_n 1), (83, .ifCond .ne 9), (86, .aload_n 0), (87, .bipush 12), (89, .invokevirtual 393), (92, .iload_n 1), (93, .bipush 6), (95, .if_icmp .ne 9), (98, .aload_n 0), (99, .bipush 6), (101, .invokevirtual 393), (104, .aload_n 0), (105, .aload_n 0), (106, .getfield 327), (109, .iconst 3), (110, .if_icmp .ne 21), (113, .aload_n 0), (114, .getfield 65), (117, .aload_n 0), (118, .getfield 317), (121, .baload), (122, .bipush 59), (124, .if_icmp .ne 7), (127, .iconst 1), (128, .goto 4), (131, .iconst 0), (132, .iconst 2), (133, .invokevirtual 354), (136, .aload_n 0), (137, .getfield 344), (140, .ifCond .le 4), (143, .return_), (144, .aload_n 0), (145, .aload_n 0), (146, .iload_n 1), (147, .invokevirtual 396), (150, .ifCond .lt 7), (153, .iconst 1), (154, .goto 4), (157, .iconst 0), (158, .bipush 7), (160, .invokevirtual 354), (163, .aload_n 0), (164, .getfield 344), (167, .ifCond .ne 7), (170, .aload_n 0), (171, .invokevirtual 358), (174, .return_)], ([(19, [true, true]), (61, [true, true]), (69, [true, true]), (82, [true, true]), (92, [true, true]), (104, [true, true]), (131, [true, true]), (132, [true, true]), (158, [true, false])], zp_9)))
def mc9_does : zv_M := ((RX9, (⟨RX9, "does", "(I)I"⟩, (prog_11_method_73_code, (2, (some .int))))), ([(0, .iload_n 1), (1, .tableswitch 158 0 10 #[59, 68, 81, 96, 101, 106, 115, 120, 130, 140, 149]), (60, .aload_n 0), (61, .aload_n 0), (62, .getfield 387), (65, .invokevirtual 257), (68, .ireturn), (69, .aload_n 0), (70, .aload_n 0), (71, .getfield 387), (74, .aload_n 0), (75, .getfield 390), (78, .invokevirtual 263), (81, .ireturn), (82, .aload_n 0), (83, .getfield 7), (86, .iconst 1), (87, .dup2), (88, .iaload), (89, .aload_n 0), (90, .getfield 387), (93, .iadd), (94, .iastore), (95, .iconst 0), (96, .ireturn), (97, .aload_n 0), (98, .invokevirtual 399), (101, .ireturn), (102, .aload_n 0), (103, .invokevirtual 402), (106, .ireturn), (107, .aload_n 0), (108, .aload_n 0), (109, .getfield 387), (112, .invokevirtual 405), (115, .ireturn), (116, .aload_n 0), (117, .invokevirtual 408), (120, .ireturn), (121, .aload_n 0), (122, .aload_n 0), (123, .getfield 387), (126, .iconst 2), (127, .invokevirtual 411), (130, .ireturn), (131, .aload_n 0), (132, .aload_n 0), (133, .getfield 387), (136, .iconst 3), (137, .invokevirtual 411), (140, .ireturn), (141, .aload_n 0), (142, .aload_n 0), (143, .getfield 387), (146, .invokevirtual 414), (149, .ireturn), (150, .aload_n 0), (151, .aload_n 0), (152, .getfield 387), (155, .invokevirtual 417), (158, .ireturn), (159, .aload_n 0), (160, .aload_n 0), (161, .getfield 387), (164, .invokevirtual 420), (167, .ireturn)], ([], zp_9)))
def mc9_load : zv_M := ((RX9, (⟨RX9, "load", "(I)I"⟩, (prog_11_method_74_code, (3, (some .int))))), ([(0, .aload_n 0), (1, .iload_n 1), (2, .iconst 0), (3, .aload_n 0), (4, .getfield 305), (7, .invokestatic 154), (10, .ifCond .eq 7), (13, .iconst 0), (14, .goto 4), (17, .iconst 1), (18, .invokevirtual 423), (21, .ifCond .ne 5), (24, .iconst (-1)), (25, .ireturn), (26, .aload_n 0), (27, .iload_n 1), (28, .putfield 311), (31, .aload_n 0), (32, .iconst 0), (33, .putfield 314), (36, .aload_n 0), (37, .iconst 0), (38, .putfield 344), (41, .aload_n 0), (42, .iconst 0), (43, .putfield 374), (46, .iconst 0), (47, .istore_n 2), (48, .iload_n 2), (49, .sipush 4236), (52, .if_icmp .ge 21), (55, .aload_n 0), (56, .getfield 13), (59, .iload_n 2), (60, .aload_n 0), (61, .getfield 7), (64, .iload_n 2), (65, .iaload), (66, .iastore), (67, .iinc 2 1), (70, .goto (-22)), (73, .aload_n 0), (74, .invokevirtual 141), (77, .aload_n 0), (78, .invokevirtual 358), (81, .aload_n 0), (82, .aload_n 0), (83, .getfield 114), (86, .invokevirtual 364), (89, .ifCond .ne 67), (92, .aload_n 0), (93, .invokevirtual 358), (96, .aload_n 0), (97, .bipush 40), (99, .invokevirtual 393), (102, .iconst 0), (103, .istore_n 2), (104, .iload_n 2), (105, .aload_n 0), (106, .getfield 226), (109, .if_icmp .ge 31), (112, .aload_n 0), (113, .getfield 344), (116, .ifCond .ne 24), (119, .aload_n 0), (120, .iconst 0), (121, .bipush 12), (123, .iload_n 2), (124, .iadd), (125, .aload_n 0), (126, .getfield 47), (129, .iload_n 2), (130, .iaload), (131, .invokevirtual 150), (134, .iinc 2 1), (137, .goto (-33)), (140, .aload_n 0), (141, .iconst 0), (142, .iconst 5), (143, .aload_n 0), (144, .getfield 226), (147, .invokevirtual 150), (150, .aload_n 0), (151, .bipush 59), (153, .invokevirtual 380), (156, .aload_n 0), (157, .aload_n 0), (158, .getfield 114), (161, .invokevirtual 364), (164, .iconst 1), (165, .if_icmp .ne 17), (168, .aload_n 0), (169, .invokevirtual 358), (172, .aload_n 0), (173, .invokevirtual 377), (176, .aload_n 0), (177, .bipush 59), (179, .invokevirtual 380), (182, .aload_n 0), (183, .getfield 344), (186, .ifCond .ne 17), (189, .aload_n 0), (190, .getfield 327), (193, .ifCond .eq 10), (196, .aload_n 0), (197, .invokevirtual 426), (200, .goto (-18)), (203, .aload_n 0), (204, .iconst 0), (205, .putfield 305), (208, .aload_n 0), (209, .aload_n 0), (210, .getfield 344), (213, .putfield 69), (216, .aload_n 0), (217, .aload_n 0), (218, .getfield 344), (221, .ifCond .le 10), (224, .aload_n 0), (225, .getfield 347), (228, .goto 4), (231, .iconst (-1)), (232, .putfield 73), (235, .aload_n 0), (236, .iconst 0), (237, .putfield 147), (240, .aload_n 0), (241, .getfield 344), (244, .ifCond .ne 8), (247, .aload_n 0), (248, .invokevirtual 235), (251, .ireturn), (252, .iconst 0), (253, .istore_n 2), (254, .iload_n 2), (255, .sipush 4236), (258, .if_icmp .ge 21), (261, .aload_n 0), (262, .getfield 7), (265, .iload_n 2), (266, .aload_n 0), (267, .getfield 13), (270, .iload_n 2), (271, .iaload), (272, .iastore), (273, .iinc 2 1), (276, .goto (-22)), (279, .aload_n 0), (280, .bipush 9), (282, .invokevirtual 232), (285, .ireturn)], ([(18, [true, true, false]), (48, [true, false, true]), (104, [true, false, true]), (140, [true, false, false]), (156, [true, false, false]), (182, [true, false, false]), (203, [true, false, false]), (232, [true, false, false]), (254, [true, false, true])], zp_9)))
def mc9_fault : zv_M := ((RX9, (⟨RX9, "fault", "(I)I"⟩, (prog_11_method_75_code, (2, (some .int))))), ([(0, .aload_n 0), (1, .iconst 0), (2, .putfield 144), (5, .iload_n 1), (6, .ifCond .ne 10), (9, .aload_n 0), (10, .getfield 69), (13, .goto 16), (16, .iload_n 1), (17, .iconst 1), (18, .if_icmp .ne 10), (21, .aload_n 0), (22, .getfield 73), (25, .goto 4), (28, .iconst (-1)), (29, .ireturn)], ([], zp_9)))
def mc9_leaves : zv_M := ((RX9, (⟨RX9, "leaves", "()I"⟩, (prog_11_method_76_code, (3, (some .int))))), ([(0, .iconst 0), (1, .istore_n 1), (2, .iconst 0), (3, .istore_n 2), (4, .iload_n 2), (5, .bipush 48), (7, .if_icmp .ge 33), (10, .iload_n 1), (11, .aload_n 0), (12, .iload_n 2), (13, .invokevirtual 203), (16, .ifCond .eq 15), (19, .aload_n 0), (20, .iload_n 2), (21, .invokevirtual 429), (24, .ifCond .ne 7), (27, .iconst 1), (28, .goto 4), (31, .iconst 0), (32, .iadd), (33, .istore_n 1), (34, .iinc 2 1), (37, .goto (-33)), (40, .iload_n 1), (41, .ireturn)], ([(4, [true, true, true])], zp_9)))
def mc9_groups : zv_M := ((RX9, (⟨RX9, "groups", "()I"⟩, (prog_11_method_77_code, (3, (some .int))))), ([(0, .iconst 0), (1, .istore_n 1), (2, .aload_n 0), (3, .invokevirtual 199), (6, .istore_n 2), (7, .iload_n 2), (8, .ifCond .le 32), (11, .iload_n 1), (12, .aload_n 0), (13, .iload_n 2), (14, .bipush 6), (16, .invokevirtual 158), (19, .iload_n 2), (20, .if_icmp .ne 7), (23, .iconst 1), (24, .goto 4), (27, .iconst 0), (28, .iadd), (29, .istore_n 1), (30, .aload_n 0), (31, .iload_n 2), (32, .iconst 1), (33, .invokevirtual 158), (36, .istore_n 2), (37, .goto (-30)), (40, .iload_n 1), (41, .ireturn)], ([(7, [true, true, true]), (28, [true, false, true])], zp_9)))
def mc9_gone : zv_M := ((RX9, (⟨RX9, "gone", "()I"⟩, (prog_11_method_78_code, (3, (some .int))))), ([(0, .aload_n 0), (1, .aload_n 0), (2, .invokevirtual 199), (5, .invokevirtual 193), (8, .iconst 0), (9, .istore_n 1), (10, .iconst 1), (11, .istore_n 2), (12, .iload_n 2), (13, .aload_n 0), (14, .getfield 168), (17, .if_icmp .ge 44), (20, .iload_n 1), (21, .aload_n 0), (22, .aload_n 0), (23, .getfield 19), (26, .iload_n 2), (27, .iaload), (28, .invokevirtual 179), (31, .ifCond .eq 21), (34, .aload_n 0), (35, .getfield 28), (38, .aload_n 0), (39, .getfield 19), (42, .iload_n 2), (43, .iaload), (44, .baload), (45, .ifCond .ne 7), (48, .iconst 1), (49, .goto 4), (52, .iconst 0), (53, .iadd), (54, .istore_n 1), (55, .iinc 2 1), (58, .goto (-46)), (61, .iload_n 1), (62, .ireturn)], ([(12, [true, true, true])], zp_9)))
def mc9_many : zv_M := ((RX9, (⟨RX9, "many", "(I)I"⟩, (prog_11_method_79_code, (2, (some .int))))), ([(0, .aload_n 0), (1, .iload_n 1), (2, .iconst 0), (3, .bipush 9), (5, .invokestatic 154), (8, .ifCond .eq 7), (11, .iconst 0), (12, .goto 4), (15, .iconst 1), (16, .invokevirtual 423), (19, .ifCond .ne 5), (22, .iconst (-1)), (23, .ireturn), (24, .aload_n 0), (25, .aload_n 0), (26, .invokevirtual 199), (29, .invokevirtual 193), (32, .iload_n 1), (33, .tableswitch 100 0 8 #[51, 56, 61, 68, 73, 78, 85, 90, 95]), (84, .aload_n 0), (85, .invokevirtual 235), (88, .ireturn), (89, .aload_n 0), (90, .invokevirtual 199), (93, .ireturn), (94, .aload_n 0), (95, .getfield 7), (98, .iconst 1), (99, .iaload), (100, .ireturn), (101, .aload_n 0), (102, .getfield 190), (105, .ireturn), (106, .aload_n 0), (107, .getfield 162), (110, .ireturn), (111, .aload_n 0), (112, .getfield 7), (115, .iconst 3), (116, .iaload), (117, .ireturn), (118, .aload_n 0), (119, .invokevirtual 432), (122, .ireturn), (123, .aload_n 0), (124, .invokevirtual 435), (127, .ireturn), (128, .aload_n 0), (129, .invokevirtual 438), (132, .ireturn), (133, .aload_n 0), (134, .getfield 7), (137, .iconst 2), (138, .iaload), (139, .ireturn)], ([(16, [true, true])], zp_9)))
def mc9_letter : zv_M := ((RX9, (⟨RX9, "letter", "(II)I"⟩, (prog_11_method_80_code, (3, (some .int))))), ([(0, .aload_n 0), (1, .iload_n 2), (2, .ifCond .ge 7), (5, .iconst 1), (6, .goto 16), (9, .aload_n 0), (10, .iload_n 1), (11, .invokevirtual 203), (14, .ifCond .ne 7), (17, .iconst 2), (18, .goto 4), (21, .iconst 0), (22, .invokevirtual 423), (25, .ifCond .ne 5), (28, .iconst (-1)), (29, .ireturn), (30, .aload_n 0), (31, .iload_n 1), (32, .invokevirtual 193), (35, .iload_n 2), (36, .aload_n 0), (37, .getfield 190), (40, .if_icmp .ge 15), (43, .aload_n 0), (44, .aload_n 0), (45, .iload_n 2), (46, .invokevirtual 241), (49, .invokevirtual 196), (52, .goto 8), (55, .aload_n 0), (56, .iconst 5), (57, .invokevirtual 232), (60, .ireturn)], ([(22, [true, true, true])], zp_9)))
def mc9_namesOf : zv_M := ((RX9, (⟨RX9, "namesOf", "(I)I"⟩, (prog_11_method_81_code, (4, (some .int))))), ([(0, .iconst 0), (1, .istore_n 2), (2, .iconst 0), (3, .istore_n 3), (4, .iload_n 3), (5, .aload_n 0), (6, .getfield 7), (9, .iconst 3), (10, .iaload), (11, .if_icmp .ge 35), (14, .iload_n 2), (15, .aload_n 0), (16, .getfield 7), (19, .sipush 408), (22, .iconst 2), (23, .iload_n 3), (24, .imul), (25, .iadd), (26, .iconst 1), (27, .iadd), (28, .iaload), (29, .iload_n 1), (30, .if_icmp .ne 7), (33, .iconst 1), (34, .goto 4), (37, .iconst 0), (38, .iadd), (39, .istore_n 2), (40, .iinc 3 1), (43, .goto (-39)), (46, .iload_n 2), (47, .ireturn)], ([(4, [true, true, true, true])], zp_9)))
def mc9_state : zv_M := ((RX9, (⟨RX9, "state", "(II)I"⟩, (prog_11_method_82_code, (3, (some .int))))), ([(0, .aload_n 0), (1, .iload_n 2), (2, .iconst 0), (3, .bipush 9), (5, .invokestatic 154), (8, .ifCond .ne 7), (11, .iconst 1), (12, .goto 16), (15, .aload_n 0), (16, .iload_n 1), (17, .invokevirtual 203), (20, .ifCond .ne 7), (23, .iconst 2), (24, .goto 4), (27, .iconst 0), (28, .invokevirtual 423), (31, .ifCond .ne 5), (34, .iconst (-1)), (35, .ireturn), (36, .iload_n 2), (37, .bipush 6), (39, .if_icmp .ge 12), (42, .aload_n 0), (43, .iload_n 1), (44, .iconst 1), (45, .iload_n 2), (46, .iadd), (47, .invokevirtual 158), (50, .ireturn), (51, .iload_n 2), (52, .bipush 6), (54, .if_icmp .ne 11), (57, .aload_n 0), (58, .iload_n 1), (59, .invokevirtual 429), (62, .goto 36), (65, .iload_n 2), (66, .bipush 7), (68, .if_icmp .ne 11), (71, .aload_n 0), (72, .iload_n 1), (73, .invokevirtual 175), (76, .goto 22), (79, .iload_n 2), (80, .bipush 8), (82, .if_icmp .ne 11), (85, .aload_n 0), (86, .iload_n 1), (87, .invokevirtual 229), (90, .goto 8), (93, .aload_n 0), (94, .iload_n 1), (95, .invokevirtual 441), (98, .ireturn)], ([(28, [true, true, true])], zp_9)))
def mc9_child : zv_M := ((RX9, (⟨RX9, "child", "(II)I"⟩, (prog_11_method_83_code, (4, (some .int))))), ([(0, .aload_n 0), (1, .iload_n 2), (2, .ifCond .ge 7), (5, .iconst 1), (6, .goto 16), (9, .aload_n 0), (10, .iload_n 1), (11, .invokevirtual 203), (14, .ifCond .ne 7), (17, .iconst 2), (18, .goto 4), (21, .iconst 0), (22, .invokevirtual 423), (25, .ifCond .ne 5), (28, .iconst (-1)), (29, .ireturn), (30, .iload_n 2), (31, .bipush 48), (33, .if_icmp .ge 12), (36, .aload_n 0), (37, .iload_n 1), (38, .iload_n 2), (39, .invokevirtual 275), (42, .goto 4), (45, .iconst (-1)), (46, .istore_n 3), (47, .iload_n 3), (48, .ifCond .ge 11), (51, .aload_n 0), (52, .iconst 5), (53, .invokevirtual 232), (56, .goto 4), (59, .iload_n 3), (60, .ireturn)], ([(22, [true, true, true, false]), (46, [true, false, false, false])], zp_9)))
def mc9_force : zv_M := ((RX9, (⟨RX9, "force", "(II)I"⟩, (prog_11_method_84_code, (3, (some .int))))), ([(0, .aload_n 0), (1, .aload_n 0), (2, .iload_n 1), (3, .invokevirtual 203), (6, .ifCond .eq 11), (9, .aload_n 0), (10, .iload_n 2), (11, .invokevirtual 203), (14, .ifCond .ne 7), (17, .iconst 2), (18, .goto 25), (21, .aload_n 0), (22, .iload_n 1), (23, .invokevirtual 179), (26, .ifCond .eq 12), (29, .aload_n 0), (30, .iload_n 1), (31, .iload_n 2), (32, .invokevirtual 206), (35, .ifCond .ne 7), (38, .iconst 5), (39, .goto 4), (42, .iconst 0), (43, .invokevirtual 423), (46, .ifCond .ne 5), (49, .iconst (-1)), (50, .ireturn), (51, .aload_n 0), (52, .iload_n 2), (53, .invokevirtual 193), (56, .aload_n 0), (57, .getfield 28), (60, .iload_n 1), (61, .baload), (62, .ifCond .eq 7), (65, .iconst 1), (66, .goto 4), (69, .iconst 0), (70, .ireturn)], ([(17, [true, true, true]), (38, [true, true, true]), (43, [true, true, true])], zp_9)))
def mc9_blame : zv_M := ((RX9, (⟨RX9, "blame", "(II)I"⟩, (prog_11_method_85_code, (4, (some .int))))), ([(0, .aload_n 0), (1, .iload_n 1), (2, .ifCond .lt 16), (5, .iload_n 2), (6, .iconst 0), (7, .iconst 2), (8, .invokestatic 154), (11, .ifCond .eq 7), (14, .iconst 0), (15, .goto 4), (18, .iconst 1), (19, .invokevirtual 423), (22, .ifCond .ne 5), (25, .iconst (-1)), (26, .ireturn), (27, .aload_n 0), (28, .aload_n 0), (29, .invokevirtual 199), (32, .invokevirtual 193), (35, .iload_n 1), (36, .aload_n 0), (37, .getfield 190), (40, .if_icmp .lt 9), (43, .aload_n 0), (44, .iconst 5), (45, .invokevirtual 232), (48, .ireturn), (49, .aload_n 0), (50, .iload_n 1), (51, .invokevirtual 241), (54, .istore_n 3), (55, .iload_n 2), (56, .ifCond .ne 12), (59, .aload_n 0), (60, .getfield 22), (63, .iload_n 3), (64, .iaload), (65, .goto 18), (68, .iload_n 2), (69, .iconst 1), (70, .if_icmp .ne 12), (73, .aload_n 0), (74, .getfield 25), (77, .iload_n 3), (78, .iaload), (79, .goto 4), (82, .iload_n 3), (83, .ireturn)], ([(18, [true, true, true, false]), (19, [true, true, true, false])], zp_9)))
def mc9_cutsOf : zv_M := ((RX9, (⟨RX9, "cutsOf", "(IIZ)I"⟩, (prog_11_method_86_code, (8, (some .int))))), ([(0, .iload_n 3), (1, .ifCond .eq 7), (4, .iconst (-1)), (5, .goto 4), (8, .iconst 0), (9, .istore 4), (11, .iconst 1), (12, .istore 5), (14, .iload 5), (16, .aload_n 0), (17, .getfield 168), (20, .if_icmp .ge 122), (23, .aload_n 0), (24, .getfield 19), (27, .iload 5), (29, .iaload), (30, .istore 6), (32, .aload_n 0), (33, .iload 6), (35, .iconst 2), (36, .invokevirtual 158), (39, .iconst 1), (40, .if_icmp .eq 6), (43, .goto 93), (46, .iconst 0), (47, .istore 7), (49, .iload 7), (51, .aload_n 0), (52, .iload 6), (54, .iconst 5), (55, .invokevirtual 158), (58, .if_icmp .ge 78), (61, .aload_n 0), (62, .iload 6), (64, .bipush 52), (66, .iconst 2), (67, .iload 7), (69, .imul), (70, .iadd), (71, .invokevirtual 158), (74, .iload_n 1), (75, .if_icmp .ne 55), (78, .aload_n 0), (79, .iload 6), (81, .bipush 52), (83, .iconst 2), (84, .iload 7), (86, .imul), (87, .iadd), (88, .iconst 1), (89, .iadd), (90, .invokevirtual 158), (93, .iload_n 2), (94, .if_icmp .eq 6), (97, .goto 33), (100, .iload_n 3), (101, .ifCond .eq 8), (104, .iload 6), (106, .goto 22), (109, .aload_n 0), (110, .getfield 28), (113, .iload 6), (115, .baload), (116, .ifCond .eq 10), (119, .iload 4), (121, .iconst 1), (122, .iadd), (123, .goto 5), (126, .iload 4), (128, .istore 4), (130, .iinc 7 1), (133, .goto (-84)), (136, .iinc 5 1), (139, .goto (-125)), (142, .iload 4), (144, .ireturn)], ([(14, [true, true, true, true, true, true, false, false]), (49, [true, true, true, true, true, true, true, true])], zp_9)))
def mc9_row : zv_M := ((RX9, (⟨RX9, "row", "(II)I"⟩, (prog_11_method_87_code, (3, (some .int))))), ([(0, .aload_n 0), (1, .iload_n 1), (2, .ifCond .lt 16), (5, .iload_n 2), (6, .iconst 0), (7, .iconst 4), (8, .invokestatic 154), (11, .ifCond .eq 7), (14, .iconst 0), (15, .goto 4), (18, .iconst 1), (19, .invokevirtual 423), (22, .ifCond .ne 5), (25, .iconst (-1)), (26, .ireturn), (27, .aload_n 0), (28, .aload_n 0), (29, .invokevirtual 199), (32, .invokevirtual 193), (35, .iload_n 1), (36, .aload_n 0), (37, .getfield 162), (40, .if_icmp .lt 9), (43, .aload_n 0), (44, .iconst 5), (45, .invokevirtual 232), (48, .ireturn), (49, .iload_n 2), (50, .ifCond .ne 11), (53, .aload_n 0), (54, .iload_n 1), (55, .invokevirtual 196), (58, .goto 65), (61, .iload_n 2), (62, .iconst 1), (63, .if_icmp .ne 12), (66, .aload_n 0), (67, .getfield 22), (70, .iload_n 1), (71, .iaload), (72, .goto 51), (75, .iload_n 2), (76, .iconst 2), (77, .if_icmp .ne 20), (80, .aload_n 0), (81, .getfield 32), (84, .iload_n 1), (85, .baload), (86, .ifCond .eq 7), (89, .iconst 1), (90, .goto 33), (93, .iconst 0), (94, .goto 29), (97, .aload_n 0), (98, .aload_n 0), (99, .getfield 22), (102, .iload_n 1), (103, .iaload), (104, .aload_n 0), (105, .getfield 25), (108, .iload_n 1), (109, .iaload), (110, .iload_n 2), (111, .iconst 4), (112, .if_icmp .ne 7), (115, .iconst 1), (116, .goto 4), (119, .iconst 0), (120, .invokevirtual 444), (123, .ireturn)], ([(18, [true, true, true]), (19, [true, true, true]), (120, [false, false, false])], zp_9)))
def mc9_visit : zv_M := ((RX9, (⟨RX9, "visit", "(II)I"⟩, (prog_11_method_88_code, (3, (some .int))))), ([(0, .aload_n 0), (1, .iload_n 1), (2, .iconst 0), (3, .bipush 39), (5, .invokestatic 154), (8, .ifCond .eq 12), (11, .iload_n 2), (12, .iconst 0), (13, .iconst 1), (14, .invokestatic 154), (17, .ifCond .ne 7), (20, .iconst 1), (21, .goto 18), (24, .iload_n 1), (25, .aload_n 0), (26, .getfield 7), (29, .iconst 5), (30, .iaload), (31, .if_icmp .lt 7), (34, .iconst 5), (35, .goto 4), (38, .iconst 0), (39, .invokevirtual 423), (42, .ifCond .ne 5), (45, .iconst (-1)), (46, .ireturn), (47, .aload_n 0), (48, .getfield 7), (51, .sipush 4156), (54, .iconst 2), (55, .iload_n 1), (56, .imul), (57, .iadd), (58, .iload_n 2), (59, .iadd), (60, .iaload), (61, .ireturn)], ([(20, [true, true, true]), (39, [true, true, true])], zp_9)))
def mc9_named : zv_M := ((RX9, (⟨RX9, "named", "()I"⟩, (prog_11_method_89_code, (2, (some .int))))), ([(0, .aload_n 0), (1, .aload_n 0), (2, .getfield 223), (5, .iconst 1), (6, .bipush 6), (8, .invokestatic 154), (11, .ifCond .eq 7), (14, .iconst 0), (15, .goto 4), (18, .iconst 1), (19, .invokevirtual 423), (22, .ifCond .ne 5), (25, .iconst (-1)), (26, .ireturn), (27, .aload_n 0), (28, .aload_n 0), (29, .getfield 50), (32, .aload_n 0), (33, .getfield 223), (36, .invokestatic 284), (39, .invokevirtual 288), (42, .istore_n 1), (43, .iload_n 1), (44, .ifCond .ge 11), (47, .aload_n 0), (48, .iconst 5), (49, .invokevirtual 232), (52, .goto 17), (55, .aload_n 0), (56, .getfield 7), (59, .sipush 408), (62, .iconst 2), (63, .iload_n 1), (64, .imul), (65, .iadd), (66, .iconst 1), (67, .iadd), (68, .iaload), (69, .ireturn)], ([(19, [true, false])], zp_9)))
def mc9_leans : zv_M := ((RX9, (⟨RX9, "leans", "(II)I"⟩, (prog_11_method_90_code, (3, (some .int))))), ([(0, .aload_n 0), (1, .aload_n 0), (2, .iload_n 1), (3, .invokevirtual 203), (6, .ifCond .eq 11), (9, .aload_n 0), (10, .iload_n 2), (11, .invokevirtual 203), (14, .ifCond .ne 7), (17, .iconst 2), (18, .goto 29), (21, .iload_n 1), (22, .iload_n 2), (23, .if_icmp .eq 19), (26, .aload_n 0), (27, .iload_n 1), (28, .invokevirtual 179), (31, .ifCond .eq 11), (34, .aload_n 0), (35, .iload_n 2), (36, .invokevirtual 179), (39, .ifCond .ne 7), (42, .iconst 5), (43, .goto 4), (46, .iconst 0), (47, .invokevirtual 423), (50, .ifCond .ne 5), (53, .iconst (-1)), (54, .ireturn), (55, .aload_n 0), (56, .iload_n 1), (57, .iload_n 2), (58, .invokevirtual 206), (61, .ifCond .eq 18), (64, .aload_n 0), (65, .iload_n 2), (66, .iload_n 1), (67, .invokevirtual 291), (70, .ifCond .eq 7), (73, .iconst 1), (74, .goto 4), (77, .iconst 0), (78, .ireturn), (79, .aload_n 0), (80, .iload_n 2), (81, .iload_n 1), (82, .invokevirtual 206), (85, .ifCond .eq 20), (88, .aload_n 0), (89, .iload_n 1), (90, .iload_n 2), (91, .invokevirtual 291), (94, .ifCond .eq 7), (97, .iconst 1), (98, .goto 12), (101, .iconst 0), (102, .goto 8), (105, .aload_n 0), (106, .iconst 5), (107, .invokevirtual 232), (110, .ireturn)], ([(17, [true, true, true]), (42, [true, true, true]), (47, [true, true, true])], zp_9)))
def mc9_put : zv_M := ((RX9, (⟨RX9, "put", "(I)I"⟩, (prog_11_method_91_code, (2, (some .int))))), ([(0, .aload_n 0), (1, .iconst 0), (2, .invokevirtual 423), (5, .pop), (6, .aload_n 0), (7, .invokevirtual 448), (10, .aload_n 0), (11, .iload_n 1), (12, .invokevirtual 257), (15, .ireturn)], ([], zp_9)))
def mc9_cut : zv_M := ((RX9, (⟨RX9, "cut", "(II)I"⟩, (prog_11_method_92_code, (3, (some .int))))), ([(0, .aload_n 0), (1, .iconst 0), (2, .invokevirtual 423), (5, .pop), (6, .aload_n 0), (7, .iload_n 1), (8, .iload_n 2), (9, .invokevirtual 263), (12, .ireturn)], ([], zp_9)))
def mc9_wait : zv_M := ((RX9, (⟨RX9, "wait", "(I)I"⟩, (prog_11_method_93_code, (2, (some .int))))), ([(0, .aload_n 0), (1, .iload_n 1), (2, .iconst 0), (3, .sipush 999), (6, .invokestatic 154), (9, .ifCond .eq 7), (12, .iconst 0), (13, .goto 4), (16, .iconst 1), (17, .invokevirtual 423), (20, .ifCond .ne 5), (23, .iconst (-1)), (24, .ireturn), (25, .aload_n 0), (26, .getfield 7), (29, .iconst 1), (30, .dup2), (31, .iaload), (32, .iload_n 1), (33, .iadd), (34, .iastore), (35, .aload_n 0), (36, .getfield 7), (39, .iconst 1), (40, .iaload), (41, .ireturn)], ([(17, [true, true])], zp_9)))
def mc9_undo : zv_M := ((RX9, (⟨RX9, "undo", "()I"⟩, (prog_11_method_94_code, (1, (some .int))))), ([(0, .aload_n 0), (1, .iconst 0), (2, .invokevirtual 423), (5, .pop), (6, .aload_n 0), (7, .invokevirtual 399), (10, .ireturn)], ([], zp_9)))
def mc9_redo : zv_M := ((RX9, (⟨RX9, "redo", "()I"⟩, (prog_11_method_95_code, (1, (some .int))))), ([(0, .aload_n 0), (1, .iconst 0), (2, .invokevirtual 423), (5, .pop), (6, .aload_n 0), (7, .invokevirtual 402), (10, .ireturn)], ([], zp_9)))
def mc9_go : zv_M := ((RX9, (⟨RX9, "go", "(I)I"⟩, (prog_11_method_96_code, (2, (some .int))))), ([(0, .aload_n 0), (1, .iconst 0), (2, .invokevirtual 423), (5, .pop), (6, .aload_n 0), (7, .iload_n 1), (8, .invokevirtual 405), (11, .ireturn)], ([], zp_9)))
def mc9_name : zv_M := ((RX9, (⟨RX9, "name", "()I"⟩, (prog_11_method_97_code, (1, (some .int))))), ([(0, .aload_n 0), (1, .iconst 0), (2, .invokevirtual 423), (5, .pop), (6, .aload_n 0), (7, .invokevirtual 448), (10, .aload_n 0), (11, .invokevirtual 408), (14, .ireturn)], ([], zp_9)))
def mc9_unname : zv_M := ((RX9, (⟨RX9, "unname", "()I"⟩, (prog_11_method_98_code, (3, (some .int))))), ([(0, .aload_n 0), (1, .aload_n 0), (2, .getfield 223), (5, .iconst 1), (6, .bipush 6), (8, .invokestatic 154), (11, .ifCond .eq 7), (14, .iconst 0), (15, .goto 4), (18, .iconst 1), (19, .invokevirtual 423), (22, .ifCond .ne 5), (25, .iconst (-1)), (26, .ireturn), (27, .aload_n 0), (28, .aload_n 0), (29, .getfield 50), (32, .aload_n 0), (33, .getfield 223), (36, .invokestatic 284), (39, .invokevirtual 288), (42, .istore_n 1), (43, .iload_n 1), (44, .ifCond .ge 9), (47, .aload_n 0), (48, .iconst 5), (49, .invokevirtual 232), (52, .ireturn), (53, .aload_n 0), (54, .getfield 7), (57, .iconst 3), (58, .dup2), (59, .iaload), (60, .iconst 1), (61, .isub), (62, .iastore), (63, .iconst 2), (64, .iload_n 1), (65, .imul), (66, .istore_n 2), (67, .iload_n 2), (68, .iconst 2), (69, .aload_n 0), (70, .getfield 7), (73, .iconst 3), (74, .iaload), (75, .imul), (76, .if_icmp .ge 31), (79, .aload_n 0), (80, .getfield 7), (83, .sipush 408), (86, .iload_n 2), (87, .iadd), (88, .aload_n 0), (89, .getfield 7), (92, .sipush 408), (95, .iload_n 2), (96, .iadd), (97, .iconst 2), (98, .iadd), (99, .iaload), (100, .iastore), (101, .iinc 2 1), (104, .goto (-37)), (107, .aload_n 0), (108, .getfield 7), (111, .iconst 3), (112, .iaload), (113, .ireturn)], ([(19, [true, false, false]), (67, [true, false, true])], zp_9)))
def mc9_withdraw : zv_M := ((RX9, (⟨RX9, "withdraw", "(I)I"⟩, (prog_11_method_99_code, (2, (some .int))))), ([(0, .aload_n 0), (1, .iconst 0), (2, .invokevirtual 423), (5, .pop), (6, .aload_n 0), (7, .iload_n 1), (8, .iconst 2), (9, .invokevirtual 411), (12, .ireturn)], ([], zp_9)))
def mc9_restore : zv_M := ((RX9, (⟨RX9, "restore", "(I)I"⟩, (prog_11_method_100_code, (2, (some .int))))), ([(0, .aload_n 0), (1, .iconst 0), (2, .invokevirtual 423), (5, .pop), (6, .aload_n 0), (7, .iload_n 1), (8, .iconst 3), (9, .invokevirtual 411), (12, .ireturn)], ([], zp_9)))
def mc9_firstOut : zv_M := ((RX9, (⟨RX9, "firstOut", "()I"⟩, (prog_11_method_101_code, (3, (some .int))))), ([(0, .iconst (-1)), (1, .istore_n 1), (2, .iconst 1), (3, .istore_n 2), (4, .iload_n 2), (5, .bipush 48), (7, .if_icmp .ge 71), (10, .aload_n 0), (11, .iload_n 2), (12, .invokevirtual 203), (15, .ifCond .eq 57), (18, .iload_n 2), (19, .aload_n 0), (20, .invokevirtual 199), (23, .if_icmp .eq 49), (26, .aload_n 0), (27, .iload_n 2), (28, .invokevirtual 429), (31, .ifCond .gt 41), (34, .aload_n 0), (35, .iload_n 2), (36, .invokevirtual 441), (39, .ifCond .le 6), (42, .goto 30), (45, .iload_n 1), (46, .ifCond .lt 20), (49, .aload_n 0), (50, .iload_n 2), (51, .bipush 7), (53, .invokevirtual 158), (56, .aload_n 0), (57, .iload_n 1), (58, .bipush 7), (60, .invokevirtual 158), (63, .if_icmp .ge 7), (66, .iload_n 2), (67, .goto 4), (70, .iload_n 1), (71, .istore_n 1), (72, .iinc 2 1), (75, .goto (-71)), (78, .iload_n 1), (79, .ireturn)], ([(4, [true, true, true])], zp_9)))
def mc9_carry : zv_M := ((RX9, (⟨RX9, "carry", "(I)I"⟩, (prog_11_method_102_code, (2, (some .int))))), ([(0, .aload_n 0), (1, .iconst 0), (2, .invokevirtual 423), (5, .pop), (6, .aload_n 0), (7, .iload_n 1), (8, .invokevirtual 414), (11, .ireturn)], ([], zp_9)))
def mc9_merge : zv_M := ((RX9, (⟨RX9, "merge", "(I)I"⟩, (prog_11_method_103_code, (2, (some .int))))), ([(0, .aload_n 0), (1, .iconst 0), (2, .invokevirtual 423), (5, .pop), (6, .aload_n 0), (7, .iload_n 1), (8, .invokevirtual 417), (11, .ireturn)], ([], zp_9)))
def mc9_prune : zv_M := ((RX9, (⟨RX9, "prune", "(I)I"⟩, (prog_11_method_104_code, (2, (some .int))))), ([(0, .aload_n 0), (1, .iconst 0), (2, .invokevirtual 423), (5, .pop), (6, .aload_n 0), (7, .iload_n 1), (8, .invokevirtual 420), (11, .ireturn)], ([], zp_9)))
def mc9_pruneNow : zv_M := ((RX9, (⟨RX9, "pruneNow", "(I)I"⟩, (prog_11_method_105_code, (5, (some .int))))), ([(0, .iload_n 1), (1, .iconst 1), (2, .bipush 48), (4, .invokestatic 154), (7, .ifCond .ne 9), (10, .aload_n 0), (11, .iconst 1), (12, .invokevirtual 232), (15, .ireturn), (16, .iconst 0), (17, .istore_n 2), (18, .aload_n 0), (19, .invokevirtual 451), (22, .istore_n 3), (23, .iload_n 3), (24, .ifCond .lt 80), (27, .aload_n 0), (28, .invokevirtual 235), (31, .iload_n 1), (32, .if_icmp .le 72), (35, .aload_n 0), (36, .iload_n 3), (37, .iconst 0), (38, .iconst 0), (39, .invokevirtual 150), (42, .iconst 0), (43, .istore 4), (45, .iload 4), (47, .aload_n 0), (48, .getfield 7), (51, .iconst 5), (52, .iaload), (53, .if_icmp .ge 40), (56, .aload_n 0), (57, .getfield 7), (60, .sipush 4156), (63, .iconst 2), (64, .iload 4), (66, .imul), (67, .iadd), (68, .iaload), (69, .iload_n 3), (70, .if_icmp .ne 17), (73, .aload_n 0), (74, .getfield 7), (77, .sipush 4156), (80, .iconst 2), (81, .iload 4), (83, .imul), (84, .iadd), (85, .iconst (-1)), (86, .iastore), (87, .iinc 4 1), (90, .goto (-45)), (93, .iinc 2 1), (96, .aload_n 0), (97, .invokevirtual 451), (100, .istore_n 3), (101, .goto (-78)), (104, .iload_n 2), (105, .ireturn)], ([(23, [true, true, true, true, false]), (45, [true, true, true, true, true])], zp_9)))
def mc9_common : zv_M := ((RX9, (⟨RX9, "common", "(II)I"⟩, (prog_11_method_106_code, (3, (some .int))))), ([(0, .aload_n 0), (1, .aload_n 0), (2, .iload_n 1), (3, .invokevirtual 203), (6, .ifCond .eq 15), (9, .aload_n 0), (10, .iload_n 2), (11, .invokevirtual 203), (14, .ifCond .eq 7), (17, .iconst 0), (18, .goto 4), (21, .iconst 2), (22, .invokevirtual 423), (25, .ifCond .eq 12), (28, .aload_n 0), (29, .iload_n 1), (30, .iload_n 2), (31, .invokevirtual 278), (34, .goto 4), (37, .iconst (-1)), (38, .ireturn)], ([(21, [true, true, true]), (22, [true, true, true])], zp_9)))
def mc9_way : zv_M := ((RX9, (⟨RX9, "way", "(III)I"⟩, (prog_11_method_107_code, (8, (some .int))))), ([(0, .aload_n 0), (1, .iload_n 3), (2, .ifCond .ge 7), (5, .iconst 1), (6, .goto 24), (9, .aload_n 0), (10, .iload_n 1), (11, .invokevirtual 203), (14, .ifCond .eq 11), (17, .aload_n 0), (18, .iload_n 2), (19, .invokevirtual 203), (22, .ifCond .ne 7), (25, .iconst 2), (26, .goto 4), (29, .iconst 0), (30, .invokevirtual 423), (33, .ifCond .ne 5), (36, .iconst (-1)), (37, .ireturn), (38, .aload_n 0), (39, .iload_n 1), (40, .invokevirtual 175), (43, .aload_n 0), (44, .aload_n 0), (45, .iload_n 1), (46, .iload_n 2), (47, .invokevirtual 278), (50, .invokevirtual 175), (53, .isub), (54, .istore 4), (56, .aload_n 0), (57, .iload_n 1), (58, .iload_n 2), (59, .invokevirtual 281), (62, .istore 5), (64, .iload_n 3), (65, .iload 5), (67, .if_icmp .le 9), (70, .aload_n 0), (71, .iconst 5), (72, .invokevirtual 232), (75, .ireturn), (76, .iload_n 3), (77, .iload 4), (79, .if_icmp .gt 7), (82, .iload_n 1), (83, .goto 4), (86, .iload_n 2), (87, .istore 6), (89, .iload_n 3), (90, .iload 4), (92, .if_icmp .gt 7), (95, .iload_n 3), (96, .goto 7), (99, .iload 5), (101, .iload_n 3), (102, .isub), (103, .istore 7), (105, .iload 7), (107, .ifCond .le 18), (110, .aload_n 0), (111, .iload 6), (113, .iconst 1), (114, .invokevirtual 158), (117, .istore 6), (119, .iinc 7 (-1)), (122, .goto (-17)), (125, .iload 6), (127, .ireturn)], ([(25, [true, true, true, true, false, false, false, false]), (30, [true, true, true, true, false, false, false, false]), (87, [true, false, false, true, true, true, false, false]), (105, [true, false, false, false, false, false, true, true])], zp_9)))
def mc9_keysOf : zv_M := ((RX9, (⟨RX9, "keysOf", "(I)I"⟩, (prog_11_method_108_code, (4, (some .int))))), ([(0, .aload_n 0), (1, .iload_n 1), (2, .invokevirtual 193), (5, .iconst 0), (6, .istore_n 2), (7, .iconst 0), (8, .istore_n 3), (9, .iload_n 3), (10, .aload_n 0), (11, .getfield 162), (14, .if_icmp .ge 46), (17, .aload_n 0), (18, .getfield 32), (21, .iload_n 3), (22, .baload), (23, .ifCond .ne 6), (26, .goto 28), (29, .aload_n 0), (30, .getfield 132), (33, .iload_n 2), (34, .bipush 64), (36, .aload_n 0), (37, .getfield 22), (40, .iload_n 3), (41, .iaload), (42, .imul), (43, .aload_n 0), (44, .getfield 25), (47, .iload_n 3), (48, .iaload), (49, .iadd), (50, .iastore), (51, .iinc 2 1), (54, .iinc 3 1), (57, .goto (-48)), (60, .iload_n 2), (61, .ireturn)], ([(9, [true, false, true, true])], zp_9)))
def mc9_keptOf : zv_M := ((RX9, (⟨RX9, "keptOf", "(II)I"⟩, (prog_11_method_109_code, (7, (some .int))))), ([(0, .aload_n 0), (1, .iload_n 1), (2, .invokevirtual 454), (5, .istore_n 3), (6, .aload_n 0), (7, .iload_n 2), (8, .invokevirtual 193), (11, .iconst 0), (12, .istore 4), (14, .iconst 0), (15, .istore 5), (17, .iload 5), (19, .aload_n 0), (20, .getfield 162), (23, .if_icmp .ge 75), (26, .aload_n 0), (27, .getfield 32), (30, .iload 5), (32, .baload), (33, .ifCond .ne 6), (36, .goto 56), (39, .iconst 0), (40, .istore 6), (42, .iload 6), (44, .iload_n 3), (45, .if_icmp .ge 47), (48, .iload 4), (50, .aload_n 0), (51, .getfield 132), (54, .iload 6), (56, .iaload), (57, .bipush 64), (59, .aload_n 0), (60, .getfield 22), (63, .iload 5), (65, .iaload), (66, .imul), (67, .aload_n 0), (68, .getfield 25), (71, .iload 5), (73, .iaload), (74, .iadd), (75, .if_icmp .ne 7), (78, .iconst 1), (79, .goto 4), (82, .iconst 0), (83, .iadd), (84, .istore 4), (86, .iinc 6 1), (89, .goto (-47)), (92, .iinc 5 1), (95, .goto (-78)), (98, .iload 4), (100, .ireturn)], ([(17, [true, false, false, true, true, true, false]), (42, [true, false, false, true, true, true, true])], zp_9)))
def mc9_differ : zv_M := ((RX9, (⟨RX9, "differ", "(II)I"⟩, (prog_11_method_110_code, (6, (some .int))))), ([(0, .aload_n 0), (1, .iload_n 1), (2, .aload_n 0), (3, .getfield 35), (6, .invokevirtual 457), (9, .istore_n 3), (10, .aload_n 0), (11, .iload_n 2), (12, .aload_n 0), (13, .getfield 38), (16, .invokevirtual 457), (19, .istore 4), (21, .iconst 0), (22, .istore 5), (24, .iload 5), (26, .iload_n 3), (27, .if_icmp .ge 33), (30, .iload 5), (32, .iload 4), (34, .if_icmp .ge 26), (37, .aload_n 0), (38, .getfield 35), (41, .iload 5), (43, .iaload), (44, .aload_n 0), (45, .getfield 38), (48, .iload 5), (50, .iaload), (51, .if_icmp .ne 9), (54, .iinc 5 1), (57, .goto (-33)), (60, .iload 5), (62, .iload_n 3), (63, .if_icmp .ne 14), (66, .iload 5), (68, .iload 4), (70, .if_icmp .ne 7), (73, .iconst (-1)), (74, .goto 5), (77, .iload 5), (79, .ireturn)], ([(24, [true, false, false, true, true, true]), (60, [false, false, false, true, true, true])], zp_9)))
def mc9_between : zv_M := ((RX9, (⟨RX9, "between", "(III)I"⟩, (prog_11_method_111_code, (5, (some .int))))), ([(0, .aload_n 0), (1, .iload_n 3), (2, .iconst 0), (3, .iconst 3), (4, .invokestatic 154), (7, .ifCond .ne 7), (10, .iconst 1), (11, .goto 24), (14, .aload_n 0), (15, .iload_n 1), (16, .invokevirtual 203), (19, .ifCond .eq 11), (22, .aload_n 0), (23, .iload_n 2), (24, .invokevirtual 203), (27, .ifCond .ne 7), (30, .iconst 2), (31, .goto 4), (34, .iconst 0), (35, .invokevirtual 423), (38, .ifCond .ne 5), (41, .iconst (-1)), (42, .ireturn), (43, .iload_n 3), (44, .iconst 3), (45, .if_icmp .ne 10), (48, .aload_n 0), (49, .iload_n 1), (50, .iload_n 2), (51, .invokevirtual 461), (54, .ireturn), (55, .aload_n 0), (56, .iload_n 1), (57, .iload_n 2), (58, .invokevirtual 464), (61, .istore 4), (63, .iload_n 3), (64, .ifCond .ne 8), (67, .iload 4), (69, .goto 27), (72, .iload_n 3), (73, .iconst 1), (74, .if_icmp .ne 14), (77, .aload_n 0), (78, .iload_n 1), (79, .invokevirtual 229), (82, .iload 4), (84, .isub), (85, .goto 11), (88, .aload_n 0), (89, .iload_n 2), (90, .invokevirtual 229), (93, .iload 4), (95, .isub), (96, .ireturn)], ([(30, [true, true, true, true, false]), (35, [true, true, true, true, false])], zp_9)))
def mc9_least : zv_M := ((RX9, (⟨RX9, "least", "(II)I"⟩, (prog_11_method_112_code, (11, (some .int))))), ([(0, .aload_n 0), (1, .aload_n 0), (2, .iload_n 1), (3, .invokevirtual 203), (6, .ifCond .eq 15), (9, .aload_n 0), (10, .iload_n 2), (11, .invokevirtual 203), (14, .ifCond .eq 7), (17, .iconst 0), (18, .goto 4), (21, .iconst 2), (22, .invokevirtual 423), (25, .ifCond .ne 5), (28, .iconst (-1)), (29, .ireturn), (30, .aload_n 0), (31, .iload_n 1), (32, .aload_n 0), (33, .getfield 35), (36, .invokevirtual 457), (39, .istore_n 3), (40, .aload_n 0), (41, .iload_n 2), (42, .aload_n 0), (43, .getfield 38), (46, .invokevirtual 457), (49, .istore 4), (51, .bipush 121), (53, .istore 5), (55, .iconst 0), (56, .istore 6), (58, .iload 6), (60, .iload_n 3), (61, .if_icmp .gt 146), (64, .iconst 0), (65, .istore 7), (67, .iload 7), (69, .iload 4), (71, .if_icmp .gt 130), (74, .iconst 0), (75, .istore 8), (77, .iload 6), (79, .ifCond .le 101), (82, .iload 7), (84, .ifCond .le 96), (87, .aload_n 0), (88, .getfield 135), (91, .iload 5), (93, .iload 6), (95, .iconst 1), (96, .isub), (97, .imul), (98, .iload 7), (100, .iadd), (101, .iaload), (102, .istore 9), (104, .aload_n 0), (105, .getfield 135), (108, .iload 5), (110, .iload 6), (112, .imul), (113, .iload 7), (115, .iadd), (116, .iconst 1), (117, .isub), (118, .iaload), (119, .istore 10), (121, .aload_n 0), (122, .getfield 35), (125, .iload 6), (127, .iconst 1), (128, .isub), (129, .iaload), (130, .aload_n 0), (131, .getfield 38), (134, .iload 7), (136, .iconst 1), (137, .isub), (138, .iaload), (139, .if_icmp .ne 25), (142, .aload_n 0), (143, .getfield 135), (146, .iload 5), (148, .iload 6), (150, .iconst 1), (151, .isub), (152, .imul), (153, .iload 7), (155, .iadd), (156, .iconst 1), (157, .isub), (158, .iaload), (159, .iconst 1), (160, .iadd), (161, .goto 17), (164, .iload 9), (166, .iload 10), (168, .if_icmp .le 8), (171, .iload 9), (173, .goto 5), (176, .iload 10), (178, .istore 8), (180, .aload_n 0), (181, .getfield 135), (184, .iload 5), (186, .iload 6), (188, .imul), (189, .iload 7), (191, .iadd), (192, .iload 8), (194, .iastore), (195, .iinc 7 1), (198, .goto (-131)), (201, .iinc 6 1), (204, .goto (-146)), (207, .iload_n 3), (208, .iload 4), (210, .iadd), (211, .iconst 2), (212, .aload_n 0), (213, .getfield 135), (216, .iload 5), (218, .iload_n 3), (219, .imul), (220, .iload 4), (222, .iadd), (223, .iaload), (224, .imul), (225, .isub), (226, .ireturn)], ([(21, [true, true, true, false, false, false, false, false, false, false, false]), (22, [true, true, true, false, false, false, false, false, false, false, false]), (58, [true, false, false, true, true, true, true, false, false, false, false]), (67, [true, false, false, true, true, true, true, true, false, false, false])], zp_9)))
def mc9_merges : zv_M := ((RX9, (⟨RX9, "merges", "(II)I"⟩, (prog_11_method_113_code, (5, (some .int))))), ([(0, .aload_n 0), (1, .iload_n 2), (2, .iconst 0), (3, .iconst 2), (4, .invokestatic 154), (7, .ifCond .eq 7), (10, .iconst 0), (11, .goto 4), (14, .iconst 1), (15, .invokevirtual 423), (18, .ifCond .ne 5), (21, .iconst (-1)), (22, .ireturn), (23, .iconst 0), (24, .istore_n 3), (25, .iload_n 3), (26, .sipush 4236), (29, .if_icmp .ge 21), (32, .aload_n 0), (33, .getfield 16), (36, .iload_n 3), (37, .aload_n 0), (38, .getfield 7), (41, .iload_n 3), (42, .iaload), (43, .iastore), (44, .iinc 3 1), (47, .goto (-22)), (50, .aload_n 0), (51, .iload_n 1), (52, .invokevirtual 417), (55, .istore_n 3), (56, .iload_n 3), (57, .ifCond .ge 5), (60, .iconst (-1)), (61, .ireturn), (62, .iload_n 2), (63, .ifCond .ne 7), (66, .iload_n 3), (67, .goto 23), (70, .iload_n 2), (71, .iconst 1), (72, .if_icmp .ne 10), (75, .aload_n 0), (76, .getfield 272), (79, .goto 11), (82, .aload_n 0), (83, .aload_n 0), (84, .invokevirtual 199), (87, .invokevirtual 229), (90, .istore_n 3), (91, .iconst 0), (92, .istore 4), (94, .iload 4), (96, .sipush 4236), (99, .if_icmp .ge 23), (102, .aload_n 0), (103, .getfield 7), (106, .iload 4), (108, .aload_n 0), (109, .getfield 16), (112, .iload 4), (114, .iaload), (115, .iastore), (116, .iinc 4 1), (119, .goto (-25)), (122, .iload_n 3), (123, .ireturn)], ([(15, [true, true, true, false, false]), (25, [true, true, true, true, false]), (94, [true, false, false, true, true])], zp_9)))
def mc9_tells : zv_M := ((RX9, (⟨RX9, "tells", "(I)V"⟩, (prog_11_method_114_code, (2, none)))), ([(0, .aload_n 0), (1, .getfield 138), (4, .aload_n 0), (5, .getfield 467), (8, .iload_n 1), (9, .iastore), (10, .aload_n 0), (11, .dup), (12, .getfield 467), (15, .iconst 1), (16, .iadd), (17, .putfield 467), (20, .return_)], ([], zp_9)))
def mc9_tellsNumber : zv_M := ((RX9, (⟨RX9, "tellsNumber", "(I)V"⟩, (prog_11_method_115_code, (2, none)))), ([(0, .iload_n 1), (1, .bipush 9), (3, .if_icmp .le 14), (6, .aload_n 0), (7, .bipush 48), (9, .iload_n 1), (10, .bipush 10), (12, .idiv), (13, .iadd), (14, .invokevirtual 470), (17, .aload_n 0), (18, .bipush 48), (20, .iload_n 1), (21, .bipush 10), (23, .irem), (24, .iadd), (25, .invokevirtual 470), (28, .return_)], ([(17, [true, true])], zp_9)))
def mc9_tellsNames : zv_M := ((RX9, (⟨RX9, "tellsNames", "()V"⟩, (prog_11_method_116_code, (4, none)))), ([(0, .iconst 0), (1, .istore_n 1), (2, .iload_n 1), (3, .aload_n 0), (4, .getfield 7), (7, .iconst 3), (8, .iaload), (9, .if_icmp .ge 88), (12, .iload_n 1), (13, .ifCond .le 9), (16, .aload_n 0), (17, .bipush 32), (19, .invokevirtual 470), (22, .aload_n 0), (23, .getfield 7), (26, .sipush 408), (29, .iconst 2), (30, .iload_n 1), (31, .imul), (32, .iadd), (33, .iaload), (34, .istore_n 2), (35, .bipush 25), (37, .istore_n 3), (38, .iload_n 3), (39, .ifCond .lt 28), (42, .iload_n 2), (43, .iload_n 3), (44, .ishr), (45, .ifCond .le 16), (48, .aload_n 0), (49, .bipush 96), (51, .iload_n 2), (52, .iload_n 3), (53, .ishr), (54, .bipush 31), (56, .iand), (57, .iadd), (58, .invokevirtual 470), (61, .iinc 3 (-5)), (64, .goto (-26)), (67, .aload_n 0), (68, .bipush 61), (70, .invokevirtual 470), (73, .aload_n 0), (74, .aload_n 0), (75, .getfield 7), (78, .sipush 408), (81, .iconst 2), (82, .iload_n 1), (83, .imul), (84, .iadd), (85, .iconst 1), (86, .iadd), (87, .iaload), (88, .invokevirtual 473), (91, .iinc 1 1), (94, .goto (-92)), (97, .return_)], ([(2, [true, true, false, false]), (38, [true, true, true, true])], zp_9)))
def mc9_tell : zv_M := ((RX9, (⟨RX9, "tell", "(I)I"⟩, (prog_11_method_117_code, (3, (some .int))))), ([(0, .aload_n 0), (1, .iload_n 1), (2, .iconst 0), (3, .iconst 2), (4, .invokestatic 154), (7, .ifCond .eq 7), (10, .iconst 0), (11, .goto 4), (14, .iconst 1), (15, .invokevirtual 423), (18, .ifCond .ne 5), (21, .iconst (-1)), (22, .ireturn), (23, .aload_n 0), (24, .iconst 0), (25, .putfield 467), (28, .aload_n 0), (29, .aload_n 0), (30, .invokevirtual 199), (33, .invokevirtual 193), (36, .iconst 0), (37, .istore_n 2), (38, .iload_n 2), (39, .aload_n 0), (40, .getfield 162), (43, .if_icmp .ge 34), (46, .iload_n 1), (47, .ifCond .ne 30), (50, .aload_n 0), (51, .getfield 32), (54, .iload_n 2), (55, .baload), (56, .ifCond .eq 15), (59, .aload_n 0), (60, .bipush 97), (62, .aload_n 0), (63, .iload_n 2), (64, .invokevirtual 196), (67, .iadd), (68, .invokevirtual 470), (71, .iinc 2 1), (74, .goto (-36)), (77, .iconst 0), (78, .istore_n 2), (79, .iload_n 2), (80, .aload_n 0), (81, .getfield 168), (84, .if_icmp .ge 34), (87, .iload_n 1), (88, .iconst 1), (89, .if_icmp .ne 29), (92, .iload_n 2), (93, .ifCond .le 9), (96, .aload_n 0), (97, .bipush 60), (99, .invokevirtual 470), (102, .aload_n 0), (103, .aload_n 0), (104, .getfield 19), (107, .iload_n 2), (108, .iaload), (109, .invokevirtual 473), (112, .iinc 2 1), (115, .goto (-36)), (118, .iload_n 1), (119, .iconst 2), (120, .if_icmp .ne 7), (123, .aload_n 0), (124, .invokevirtual 476), (127, .aload_n 0), (128, .getfield 467), (131, .ireturn)], ([(15, [true, true, false]), (38, [true, true, true]), (79, [true, true, true]), (102, [true, true, true]), (118, [true, true, false])], zp_9)))
def mc9_out : zv_M := ((RX9, (⟨RX9, "out", "(I)I"⟩, (prog_11_method_118_code, (2, (some .int))))), ([(0, .aload_n 0), (1, .iload_n 1), (2, .ifCond .ge 7), (5, .iconst 1), (6, .goto 16), (9, .iload_n 1), (10, .aload_n 0), (11, .getfield 467), (14, .if_icmp .lt 7), (17, .iconst 5), (18, .goto 4), (21, .iconst 0), (22, .invokevirtual 423), (25, .ifCond .eq 12), (28, .aload_n 0), (29, .getfield 138), (32, .iload_n 1), (33, .iaload), (34, .goto 4), (37, .iconst (-1)), (38, .ireturn)], ([(22, [true, true])], zp_9)))
def mc9_leaning : zv_M := ((RX9, (⟨RX9, "leaning", "(II)I"⟩, (prog_11_method_119_code, (5, (some .int))))), ([(0, .aload_n 0), (1, .iload_n 2), (2, .iconst 0), (3, .iconst 3), (4, .invokestatic 154), (7, .ifCond .ne 7), (10, .iconst 1), (11, .goto 41), (14, .aload_n 0), (15, .iload_n 1), (16, .invokevirtual 203), (19, .ifCond .ne 7), (22, .iconst 2), (23, .goto 29), (26, .aload_n 0), (27, .iload_n 1), (28, .aload_n 0), (29, .invokevirtual 199), (32, .invokevirtual 206), (35, .ifCond .eq 11), (38, .aload_n 0), (39, .iload_n 1), (40, .invokevirtual 179), (43, .ifCond .ne 8), (46, .bipush 7), (48, .goto 4), (51, .iconst 0), (52, .invokevirtual 423), (55, .ifCond .ne 5), (58, .iconst (-1)), (59, .ireturn), (60, .aload_n 0), (61, .iload_n 1), (62, .iconst 0), (63, .invokevirtual 298), (66, .iload_n 2), (67, .iconst 3), (68, .if_icmp .ne 16), (71, .aload_n 0), (72, .iconst 2), (73, .invokevirtual 302), (76, .pop), (77, .aload_n 0), (78, .bipush 48), (80, .invokevirtual 229), (83, .ireturn), (84, .iconst 0), (85, .istore_n 3), (86, .iconst 1), (87, .istore 4), (89, .iload 4), (91, .aload_n 0), (92, .getfield 168), (95, .if_icmp .ge 56), (98, .iload_n 2), (99, .iconst 2), (100, .if_icmp .ge 51), (103, .iload_n 3), (104, .aload_n 0), (105, .getfield 62), (108, .aload_n 0), (109, .getfield 19), (112, .iload 4), (114, .iaload), (115, .baload), (116, .ifCond .eq 26), (119, .iload_n 2), (120, .ifCond .eq 18), (123, .aload_n 0), (124, .getfield 28), (127, .aload_n 0), (128, .getfield 19), (131, .iload 4), (133, .iaload), (134, .baload), (135, .ifCond .eq 7), (138, .iconst 1), (139, .goto 4), (142, .iconst 0), (143, .iadd), (144, .istore_n 3), (145, .iinc 4 1), (148, .goto (-59)), (151, .iconst 0), (152, .istore 4), (154, .iload 4), (156, .aload_n 0), (157, .getfield 162), (160, .if_icmp .ge 47), (163, .iload_n 2), (164, .iconst 2), (165, .if_icmp .ne 42), (168, .iload_n 3), (169, .aload_n 0), (170, .getfield 32), (173, .iload 4), (175, .baload), (176, .ifCond .eq 22), (179, .aload_n 0), (180, .getfield 62), (183, .aload_n 0), (184, .getfield 22), (187, .iload 4), (189, .iaload), (190, .baload), (191, .ifCond .eq 7), (194, .iconst 1), (195, .goto 4), (198, .iconst 0), (199, .iadd), (200, .istore_n 3), (201, .iinc 4 1), (204, .goto (-50)), (207, .iload_n 3), (208, .ireturn)], ([(46, [true, true, true, false, false]), (52, [true, true, true, false, false]), (89, [true, false, true, true, true]), (154, [true, false, true, true, true])], zp_9)))
def mc9_placeIn : zv_M := ((RX9, (⟨RX9, "placeIn", "(I)I"⟩, (prog_11_method_120_code, (6, (some .int))))), ([(0, .aload_n 0), (1, .iload_n 1), (2, .aload_n 0), (3, .getfield 35), (6, .invokevirtual 457), (9, .istore_n 2), (10, .iconst 0), (11, .istore_n 3), (12, .iload_n 3), (13, .aload_n 0), (14, .getfield 223), (17, .iadd), (18, .iload_n 2), (19, .if_icmp .gt 68), (22, .iconst 1), (23, .istore 4), (25, .iconst 0), (26, .istore 5), (28, .iload 5), (30, .aload_n 0), (31, .getfield 223), (34, .if_icmp .ge 40), (37, .iload 4), (39, .ifCond .eq 35), (42, .aload_n 0), (43, .getfield 35), (46, .iload_n 3), (47, .iload 5), (49, .iadd), (50, .iaload), (51, .aload_n 0), (52, .getfield 50), (55, .iload 5), (57, .iaload), (58, .if_icmp .ne 7), (61, .iconst 1), (62, .goto 4), (65, .iconst 0), (66, .istore 4), (68, .iinc 5 1), (71, .goto (-43)), (74, .iload 4), (76, .ifCond .eq 5), (79, .iload_n 3), (80, .ireturn), (81, .iinc 3 1), (84, .goto (-72)), (87, .iconst (-1)), (88, .ireturn)], ([(12, [true, false, true, true, false, false]), (28, [true, false, true, true, true, true]), (74, [true, false, true, true, true, false])], zp_9)))
def mc9_find : zv_M := ((RX9, (⟨RX9, "find", "(I)I"⟩, (prog_11_method_121_code, (5, (some .int))))), ([(0, .aload_n 0), (1, .iload_n 1), (2, .iconst 0), (3, .iconst 2), (4, .invokestatic 154), (7, .ifCond .eq 14), (10, .aload_n 0), (11, .getfield 223), (14, .ifCond .le 7), (17, .iconst 0), (18, .goto 4), (21, .iconst 1), (22, .invokevirtual 423), (25, .ifCond .ne 5), (28, .iconst (-1)), (29, .ireturn), (30, .iconst 0), (31, .istore_n 2), (32, .iconst (-1)), (33, .istore_n 3), (34, .bipush 47), (36, .istore 4), (38, .iload 4), (40, .ifCond .lt 41), (43, .iload_n 1), (44, .iconst 2), (45, .if_icmp .ge 36), (48, .aload_n 0), (49, .iload 4), (51, .invokevirtual 203), (54, .ifCond .eq 21), (57, .aload_n 0), (58, .iload 4), (60, .invokevirtual 479), (63, .ifCond .ge 6), (66, .goto 9), (69, .iinc 2 1), (72, .iload 4), (74, .istore_n 3), (75, .iinc 4 (-1)), (78, .goto (-40)), (81, .iload_n 1), (82, .iconst 2), (83, .if_icmp .ne 14), (86, .aload_n 0), (87, .aload_n 0), (88, .invokevirtual 199), (91, .invokevirtual 479), (94, .goto 13), (97, .iload_n 1), (98, .iconst 1), (99, .if_icmp .ne 7), (102, .iload_n 2), (103, .goto 4), (106, .iload_n 3), (107, .istore 4), (109, .iload 4), (111, .ifCond .ge 11), (114, .aload_n 0), (115, .iconst 5), (116, .invokevirtual 232), (119, .goto 5), (122, .iload 4), (124, .ireturn)], ([(21, [true, true, false, false, false]), (22, [true, true, false, false, false]), (38, [true, true, true, true, true]), (81, [true, true, true, true, false]), (107, [true, false, false, false, false])], zp_9)))
def mc9_first : zv_M := ((RX9, (⟨RX9, "first", "()I"⟩, (prog_11_method_122_code, (2, (some .int))))), ([(0, .aload_n 0), (1, .iconst 0), (2, .invokevirtual 423), (5, .pop), (6, .aload_n 0), (7, .invokevirtual 451), (10, .istore_n 1), (11, .iload_n 1), (12, .ifCond .ge 11), (15, .aload_n 0), (16, .iconst 5), (17, .invokevirtual 232), (20, .goto 4), (23, .iload_n 1), (24, .ireturn)], ([], zp_9)))
def mc9_twin : zv_M := ((RX9, (⟨RX9, "twin", "(I)I"⟩, (prog_11_method_123_code, (3, (some .int))))), ([(0, .aload_n 0), (1, .aload_n 0), (2, .iload_n 1), (3, .invokevirtual 203), (6, .ifCond .eq 7), (9, .iconst 0), (10, .goto 4), (13, .iconst 2), (14, .invokevirtual 423), (17, .ifCond .ne 5), (20, .iconst (-1)), (21, .ireturn), (22, .iconst 0), (23, .istore_n 2), (24, .iload_n 2), (25, .bipush 48), (27, .if_icmp .ge 33), (30, .aload_n 0), (31, .iload_n 2), (32, .invokevirtual 203), (35, .ifCond .eq 19), (38, .iload_n 2), (39, .iload_n 1), (40, .if_icmp .eq 14), (43, .aload_n 0), (44, .iload_n 2), (45, .iload_n 1), (46, .invokevirtual 461), (49, .ifCond .ge 5), (52, .iload_n 2), (53, .ireturn), (54, .iinc 2 1), (57, .goto (-33)), (60, .aload_n 0), (61, .iconst 5), (62, .invokevirtual 232), (65, .ireturn)], ([(14, [true, true, false]), (24, [true, true, true])], zp_9)))
def mc9_back : zv_M := ((RX9, (⟨RX9, "back", "(I)I"⟩, (prog_11_method_124_code, (4, (some .int))))), ([(0, .aload_n 0), (1, .iload_n 1), (2, .iconst 1), (3, .bipush 48), (5, .invokestatic 154), (8, .ifCond .eq 7), (11, .iconst 0), (12, .goto 4), (15, .iconst 1), (16, .invokevirtual 423), (19, .ifCond .ne 5), (22, .iconst (-1)), (23, .ireturn), (24, .aload_n 0), (25, .invokevirtual 199), (28, .istore_n 2), (29, .iconst 0), (30, .istore_n 3), (31, .iload_n 3), (32, .iload_n 1), (33, .if_icmp .ge 32), (36, .iload_n 2), (37, .ifCond .ne 9), (40, .aload_n 0), (41, .iconst 5), (42, .invokevirtual 232), (45, .ireturn), (46, .aload_n 0), (47, .aload_n 0), (48, .iload_n 2), (49, .bipush 6), (51, .invokevirtual 158), (54, .iconst 1), (55, .invokevirtual 158), (58, .istore_n 2), (59, .iinc 3 1), (62, .goto (-31)), (65, .iload_n 2), (66, .ireturn)], ([(16, [true, true, false, false]), (31, [true, true, true, true])], zp_9)))
def mcL_law : zv_M := ((R_law, (x, (code, (4, (some .boolean))))), ([(0, .new 7), (3, .dup), (4, .invokespecial 9), (7, .astore_n 1), (8, .new 10), (11, .dup), (12, .invokespecial 12), (15, .astore_n 2), (16, .iconst 0), (17, .istore_n 3), (18, .iload_n 3), (19, .aload_n 0), (20, .arraylength), (21, .bipush 6), (23, .isub), (24, .if_icmp .gt 1260), (27, .aload_n 0), (28, .iload_n 3), (29, .iaload), (30, .bipush 63), (32, .iand), (33, .tableswitch 1245 0 39 #[175, 188, 251, 274, 297, 330, 353, 386, 419, 452, 485, 518, 551, 584, 597, 630, 653, 686, 709, 722, 735, 758, 771, 784, 807, 830, 853, 876, 899, 932, 975, 1018, 1051, 1084, 1107, 1130, 1163, 1186, 1199, 1222]), (208, .aload_n 1), (209, .invokevirtual 13), (212, .pop), (213, .aload_n 2), (214, .invokevirtual 17), (217, .pop), (218, .goto 1060), (221, .aload_n 1), (222, .aload_n 0), (223, .iload_n 3), (224, .iconst 1), (225, .iadd), (226, .iaload), (227, .aload_n 0), (228, .iload_n 3), (229, .iconst 2), (230, .iadd), (231, .iaload), (232, .aload_n 0), (233, .iload_n 3), (234, .iconst 3), (235, .iadd), (236, .iaload), (237, .aload_n 0), (238, .iload_n 3), (239, .iconst 4), (240, .iadd), (241, .iaload), (242, .aload_n 0), (243, .iload_n 3), (244, .iconst 5), (245, .iadd), (246, .iaload), (247, .invokevirtual 18), (250, .aload_n 2), (251, .aload_n 0), (252, .iload_n 3), (253, .iconst 1), (254, .iadd), (255, .iaload), (256, .aload_n 0), (257, .iload_n 3), (258, .iconst 2), (259, .iadd), (260, .iaload), (261, .aload_n 0), (262, .iload_n 3), (263, .iconst 3), (264, .iadd), (265, .iaload), (266, .aload_n 0), (267, .iload_n 3), (268, .iconst 4), (269, .iadd), (270, .iaload), (271, .aload_n 0), (272, .iload_n 3), (273, .iconst 5), (274, .iadd), (275, .iaload), (276, .invokevirtual 22), (279, .if_icmp .eq 999), (282, .iconst 0), (283, .ireturn), (284, .aload_n 1), (285, .aload_n 0), (286, .iload_n 3), (287, .iconst 1), (288, .iadd), (289, .iaload), (290, .invokevirtual 23), (293, .pop), (294, .aload_n 2), (295, .aload_n 0), (296, .iload_n 3), (297, .iconst 1), (298, .iadd), (299, .iaload), (300, .invokevirtual 27), (303, .pop), (304, .goto 974), (307, .aload_n 1), (308, .aload_n 0), (309, .iload_n 3), (310, .iconst 1), (311, .iadd), (312, .iaload), (313, .invokevirtual 28), (316, .pop), (317, .aload_n 2), (318, .aload_n 0), (319, .iload_n 3), (320, .iconst 1), (321, .iadd), (322, .iaload), (323, .invokevirtual 31), (326, .pop), (327, .goto 951), (330, .aload_n 1), (331, .aload_n 0), (332, .iload_n 3), (333, .iconst 1), (334, .iadd), (335, .iaload), (336, .aload_n 0), (337, .iload_n 3), (338, .iconst 2), (339, .iadd), (340, .iaload), (341, .invokevirtual 32), (344, .pop), (345, .aload_n 2), (346, .aload_n 0), (347, .iload_n 3), (348, .iconst 1), (349, .iadd), (350, .iaload), (351, .aload_n 0), (352, .iload_n 3), (353, .iconst 2), (354, .iadd), (355, .iaload), (356, .invokevirtual 36), (359, .pop), (360, .goto 918), (363, .aload_n 1), (364, .aload_n 0), (365, .iload_n 3), (366, .iconst 1), (367, .iadd), (368, .iaload), (369, .invokevirtual 37), (372, .pop), (373, .aload_n 2), (374, .aload_n 0), (375, .iload_n 3), (376, .iconst 1), (377, .iadd), (378, .iaload), (379, .invokevirtual 40), (382, .pop), (383, .goto 895), (386, .aload_n 1), (387, .aload_n 0), (388, .iload_n 3), (389, .iconst 1), (390, .iadd), (391, .iaload), (392, .aload_n 0), (393, .iload_n 3), (394, .iconst 2), (395, .iadd), (396, .iaload), (397, .invokevirtual 41), (400, .pop), (401, .aload_n 2), (402, .aload_n 0), (403, .iload_n 3), (404, .iconst 1), (405, .iadd), (406, .iaload), (407, .aload_n 0), (408, .iload_n 3), (409, .iconst 2), (410, .iadd), (411, .iaload), (412, .invokevirtual 44), (415, .pop), (416, .goto 862), (419, .aload_n 1), (420, .aload_n 0), (421, .iload_n 3), (422, .iconst 1), (423, .iadd), (424, .iaload), (425, .aload_n 0), (426, .iload_n 3), (427, .iconst 2), (428, .iadd), (429, .iaload), (430, .invokevirtual 45), (433, .pop), (434, .aload_n 2), (435, .aload_n 0), (436, .iload_n 3), (437, .iconst 1), (438, .iadd), (439, .iaload), (440, .aload_n 0), (441, .iload_n 3), (442, .iconst 2), (443, .iadd), (444, .iaload), (445, .invokevirtual 48), (448, .pop), (449, .goto 829), (452, .aload_n 1), (453, .aload_n 0), (454, .iload_n 3), (455, .iconst 1), (456, .iadd), (457, .iaload), (458, .aload_n 0), (459, .iload_n 3), (460, .iconst 2), (461, .iadd), (462, .iaload), (463, .invokevirtual 49), (466, .pop), (467, .aload_n 2), (468, .aload_n 0), (469, .iload_n 3), (470, .iconst 1), (471, .iadd), (472, .iaload), (473, .aload_n 0), (474, .iload_n 3), (475, .iconst 2), (476, .iadd), (477, .iaload), (478, .invokevirtual 52), (481, .pop), (482, .goto 796), (485, .aload_n 1), (486, .aload_n 0), (487, .iload_n 3), (488, .iconst 1), (489, .iadd), (490, .iaload), (491, .aload_n 0), (492, .iload_n 3), (493, .iconst 2), (494, .iadd), (495, .iaload), (496, .invokevirtual 53), (499, .pop), (500, .aload_n 2), (501, .aload_n 0), (502, .iload_n 3), (503, .iconst 1), (504, .iadd), (505, .iaload), (506, .aload_n 0), (507, .iload_n 3), (508, .iconst 2), (509, .iadd), (510, .iaload), (511, .invokevirtual 56), (514, .pop), (515, .goto 763), (518, .aload_n 1), (519, .aload_n 0), (520, .iload_n 3), (521, .iconst 1), (522, .iadd), (523, .iaload), (524, .aload_n 0), (525, .iload_n 3), (526, .iconst 2), (527, .iadd), (528, .iaload), (529, .invokevirtual 57), (532, .pop), (533, .aload_n 2), (534, .aload_n 0), (535, .iload_n 3), (536, .iconst 1), (537, .iadd), (538, .iaload), (539, .aload_n 0), (540, .iload_n 3), (541, .iconst 2), (542, .iadd), (543, .iaload), (544, .invokevirtual 60), (547, .pop), (548, .goto 730), (551, .aload_n 1), (552, .aload_n 0), (553, .iload_n 3), (554, .iconst 1), (555, .iadd), (556, .iaload), (557, .aload_n 0), (558, .iload_n 3), (559, .iconst 2), (560, .iadd), (561, .iaload), (562, .invokevirtual 61), (565, .pop), (566, .aload_n 2), (567, .aload_n 0), (568, .iload_n 3), (569, .iconst 1), (570, .iadd), (571, .iaload), (572, .aload_n 0), (573, .iload_n 3), (574, .iconst 2), (575, .iadd), (576, .iaload), (577, .invokevirtual 64), (580, .pop), (581, .goto 697), (584, .aload_n 1), (585, .aload_n 0), (586, .iload_n 3), (587, .iconst 1), (588, .iadd), (589, .iaload), (590, .aload_n 0), (591, .iload_n 3), (592, .iconst 2), (593, .iadd), (594, .iaload), (595, .invokevirtual 65), (598, .pop), (599, .aload_n 2), (600, .aload_n 0), (601, .iload_n 3), (602, .iconst 1), (603, .iadd), (604, .iaload), (605, .aload_n 0), (606, .iload_n 3), (607, .iconst 2), (608, .iadd), (609, .iaload), (610, .invokevirtual 68), (613, .pop), (614, .goto 664), (617, .aload_n 1), (618, .invokevirtual 69), (621, .pop), (622, .aload_n 2), (623, .invokevirtual 72), (626, .pop), (627, .goto 651), (630, .aload_n 1), (631, .aload_n 0), (632, .iload_n 3), (633, .iconst 1), (634, .iadd), (635, .iaload), (636, .aload_n 0), (637, .iload_n 3), (638, .iconst 2), (639, .iadd), (640, .iaload), (641, .invokevirtual 73), (644, .pop), (645, .aload_n 2), (646, .aload_n 0), (647, .iload_n 3), (648, .iconst 1), (649, .iadd), (650, .iaload), (651, .aload_n 0), (652, .iload_n 3), (653, .iconst 2), (654, .iadd), (655, .iaload), (656, .invokevirtual 76), (659, .pop), (660, .goto 618), (663, .aload_n 1), (664, .aload_n 0), (665, .iload_n 3), (666, .iconst 1), (667, .iadd), (668, .iaload), (669, .invokevirtual 77), (672, .pop), (673, .aload_n 2), (674, .aload_n 0), (675, .iload_n 3), (676, .iconst 1), (677, .iadd), (678, .iaload), (679, .invokevirtual 80), (682, .pop), (683, .goto 595), (686, .aload_n 1), (687, .aload_n 0), (688, .iload_n 3), (689, .iconst 1), (690, .iadd), (691, .iaload), (692, .aload_n 0), (693, .iload_n 3), (694, .iconst 2), (695, .iadd), (696, .iaload), (697, .invokevirtual 81), (700, .pop), (701, .aload_n 2), (702, .aload_n 0), (703, .iload_n 3), (704, .iconst 1), (705, .iadd), (706, .iaload), (707, .aload_n 0), (708, .iload_n 3), (709, .iconst 2), (710, .iadd), (711, .iaload), (712, .invokevirtual 84), (715, .pop), (716, .goto 562), (719, .aload_n 1), (720, .aload_n 0), (721, .iload_n 3), (722, .iconst 1), (723, .iadd), (724, .iaload), (725, .invokevirtual 85), (728, .pop), (729, .aload_n 2), (730, .aload_n 0), (731, .iload_n 3), (732, .iconst 1), (733, .iadd), (734, .iaload), (735, .invokevirtual 88), (738, .pop), (739, .goto 539), (742, .aload_n 1), (743, .invokevirtual 89), (746, .pop), (747, .aload_n 2), (748, .invokevirtual 92), (751, .pop), (752, .goto 526), (755, .aload_n 1), (756, .invokevirtual 93), (759, .pop), (760, .aload_n 2), (761, .invokevirtual 96), (764, .pop), (765, .goto 513), (768, .aload_n 1), (769, .aload_n 0), (770, .iload_n 3), (771, .iconst 1), (772, .iadd), (773, .iaload), (774, .invokevirtual 97), (777, .pop), (778, .aload_n 2), (779, .aload_n 0), (780, .iload_n 3), (781, .iconst 1), (782, .iadd), (783, .iaload), (784, .invokevirtual 100), (787, .pop), (788, .goto 490), (791, .aload_n 1), (792, .invokevirtual 101), (795, .pop), (796, .aload_n 2), (797, .invokevirtual 104), (800, .pop), (801, .goto 477), (804, .aload_n 1), (805, .invokevirtual 105), (808, .pop), (809, .aload_n 2), (810, .invokevirtual 108), (813, .pop), (814, .goto 464), (817, .aload_n 1), (818, .aload_n 0), (819, .iload_n 3), (820, .iconst 1), (821, .iadd), (822, .iaload), (823, .invokevirtual 109), (826, .pop), (827, .aload_n 2), (828, .aload_n 0), (829, .iload_n 3), (830, .iconst 1), (831, .iadd), (832, .iaload), (833, .invokevirtual 112), (836, .pop), (837, .goto 441), (840, .aload_n 1), (841, .aload_n 0), (842, .iload_n 3), (843, .iconst 1), (844, .iadd), (845, .iaload), (846, .invokevirtual 113), (849, .pop), (850, .aload_n 2), (851, .aload_n 0), (852, .iload_n 3), (853, .iconst 1), (854, .iadd), (855, .iaload), (856, .invokevirtual 116), (859, .pop), (860, .goto 418), (863, .aload_n 1), (864, .aload_n 0), (865, .iload_n 3), (866, .iconst 1), (867, .iadd), (868, .iaload), (869, .invokevirtual 117), (872, .pop), (873, .aload_n 2), (874, .aload_n 0), (875, .iload_n 3), (876, .iconst 1), (877, .iadd), (878, .iaload), (879, .invokevirtual 120), (882, .pop), (883, .goto 395), (886, .aload_n 1), (887, .aload_n 0), (888, .iload_n 3), (889, .iconst 1), (890, .iadd), (891, .iaload), (892, .invokevirtual 121), (895, .pop), (896, .aload_n 2), (897, .aload_n 0), (898, .iload_n 3), (899, .iconst 1), (900, .iadd), (901, .iaload), (902, .invokevirtual 124), (905, .pop), (906, .goto 372), (909, .aload_n 1), (910, .aload_n 0), (911, .iload_n 3), (912, .iconst 1), (913, .iadd), (914, .iaload), (915, .invokevirtual 125), (918, .pop), (919, .aload_n 2), (920, .aload_n 0), (921, .iload_n 3), (922, .iconst 1), (923, .iadd), (924, .iaload), (925, .invokevirtual 128), (928, .pop), (929, .goto 349), (932, .aload_n 1), (933, .aload_n 0), (934, .iload_n 3), (935, .iconst 1), (936, .iadd), (937, .iaload), (938, .aload_n 0), (939, .iload_n 3), (940, .iconst 2), (941, .iadd), (942, .iaload), (943, .invokevirtual 129), (946, .pop), (947, .aload_n 2), (948, .aload_n 0), (949, .iload_n 3), (950, .iconst 1), (951, .iadd), (952, .iaload), (953, .aload_n 0), (954, .iload_n 3), (955, .iconst 2), (956, .iadd), (957, .iaload), (958, .invokevirtual 132), (961, .pop), (962, .goto 316), (965, .aload_n 1), (966, .aload_n 0), (967, .iload_n 3), (968, .iconst 1), (969, .iadd), (970, .iaload), (971, .aload_n 0), (972, .iload_n 3), (973, .iconst 2), (974, .iadd), (975, .iaload), (976, .aload_n 0), (977, .iload_n 3), (978, .iconst 3), (979, .iadd), (980, .iaload), (981, .invokevirtual 133), (984, .pop), (985, .aload_n 2), (986, .aload_n 0), (987, .iload_n 3), (988, .iconst 1), (989, .iadd), (990, .iaload), (991, .aload_n 0), (992, .iload_n 3), (993, .iconst 2), (994, .iadd), (995, .iaload), (996, .aload_n 0), (997, .iload_n 3), (998, .iconst 3), (999, .iadd), (1000, .iaload), (1001, .invokevirtual 137), (1004, .pop), (1005, .goto 273), (1008, .aload_n 1), (1009, .aload_n 0), (1010, .iload_n 3), (1011, .iconst 1), (1012, .iadd), (1013, .iaload), (1014, .aload_n 0), (1015, .iload_n 3), (1016, .iconst 2), (1017, .iadd), (1018, .iaload), (1019, .aload_n 0), (1020, .iload_n 3), (1021, .iconst 3), (1022, .iadd), (1023, .iaload), (1024, .invokevirtual 138), (1027, .pop), (1028, .aload_n 2), (1029, .aload_n 0), (1030, .iload_n 3), (1031, .iconst 1), (1032, .iadd), (1033, .iaload), (1034, .aload_n 0), (1035, .iload_n 3), (1036, .iconst 2), (1037, .iadd), (1038, .iaload), (1039, .aload_n 0), (1040, .iload_n 3), (1041, .iconst 3), (1042, .iadd), (1043, .iaload), (1044, .invokevirtual 141), (1047, .pop), (1048, .goto 230), (1051, .aload_n 1), (1052, .aload_n 0), (1053, .iload_n 3), (1054, .iconst 1), (1055, .iadd), (1056, .iaload), (1057, .aload_n 0), (1058, .iload_n 3), (1059, .iconst 2), (1060, .iadd), (1061, .iaload), (1062, .invokevirtual 142), (1065, .pop), (1066, .aload_n 2), (1067, .aload_n 0), (1068, .iload_n 3), (1069, .iconst 1), (1070, .iadd), (1071, .iaload), (1072, .aload_n 0), (1073, .iload_n 3), (1074, .iconst 2), (1075, .iadd), (1076, .iaload), (1077, .invokevirtual 145), (1080, .pop), (1081, .goto 197), (1084, .aload_n 1), (1085, .aload_n 0), (1086, .iload_n 3), (1087, .iconst 1), (1088, .iadd), (1089, .iaload), (1090, .aload_n 0), (1091, .iload_n 3), (1092, .iconst 2), (1093, .iadd), (1094, .iaload), (1095, .invokevirtual 146), (1098, .pop), (1099, .aload_n 2), (1100, .aload_n 0), (1101, .iload_n 3), (1102, .iconst 1), (1103, .iadd), (1104, .iaload), (1105, .aload_n 0), (1106, .iload_n 3), (1107, .iconst 2), (1108, .iadd), (1109, .iaload), (1110, .invokevirtual 149), (1113, .pop), (1114, .goto 164), (1117, .aload_n 1), (1118, .aload_n 0), (1119, .iload_n 3), (1120, .iconst 1), (1121, .iadd), (1122, .iaload), (1123, .invokevirtual 150), (1126, .pop), (1127, .aload_n 2), (1128, .aload_n 0), (1129, .iload_n 3), (1130, .iconst 1), (1131, .iadd), (1132, .iaload), (1133, .invokevirtual 153), (1136, .pop), (1137, .goto 141), (1140, .aload_n 1), (1141, .aload_n 0), (1142, .iload_n 3), (1143, .iconst 1), (1144, .iadd), (1145, .iaload), (1146, .invokevirtual 154), (1149, .pop), (1150, .aload_n 2), (1151, .aload_n 0), (1152, .iload_n 3), (1153, .iconst 1), (1154, .iadd), (1155, .iaload), (1156, .invokevirtual 157), (1159, .pop), (1160, .goto 118), (1163, .aload_n 1), (1164, .aload_n 0), (1165, .iload_n 3), (1166, .iconst 1), (1167, .iadd), (1168, .iaload), (1169, .aload_n 0), (1170, .iload_n 3), (1171, .iconst 2), (1172, .iadd), (1173, .iaload), (1174, .invokevirtual 158), (1177, .pop), (1178, .aload_n 2), (1179, .aload_n 0), (1180, .iload_n 3), (1181, .iconst 1), (1182, .iadd), (1183, .iaload), (1184, .aload_n 0), (1185, .iload_n 3), (1186, .iconst 2), (1187, .iadd), (1188, .iaload), (1189, .invokevirtual 161), (1192, .pop), (1193, .goto 85), (1196, .aload_n 1), (1197, .aload_n 0), (1198, .iload_n 3), (1199, .iconst 1), (1200, .iadd), (1201, .iaload), (1202, .invokevirtual 162), (1205, .pop), (1206, .aload_n 2), (1207, .aload_n 0), (1208, .iload_n 3), (1209, .iconst 1), (1210, .iadd), (1211, .iaload), (1212, .invokevirtual 165), (1215, .pop), (1216, .goto 62), (1219, .aload_n 1), (1220, .invokevirtual 166), (1223, .pop), (1224, .aload_n 2), (1225, .invokevirtual 169), (1228, .pop), (1229, .goto 49), (1232, .aload_n 1), (1233, .aload_n 0), (1234, .iload_n 3), (1235, .iconst 1), (1236, .iadd), (1237, .iaload), (1238, .invokevirtual 170), (1241, .pop), (1242, .aload_n 2), (1243, .aload_n 0), (1244, .iload_n 3), (1245, .iconst 1), (1246, .iadd), (1247, .iaload), (1248, .invokevirtual 173), (1251, .pop), (1252, .goto 26), (1255, .aload_n 1), (1256, .aload_n 0), (1257, .iload_n 3), (1258, .iconst 1), (1259, .iadd), (1260, .iaload), (1261, .invokevirtual 174), (1264, .pop), (1265, .aload_n 2), (1266, .aload_n 0), (1267, .iload_n 3), (1268, .iconst 1), (1269, .iadd), (1270, .iaload), (1271, .invokevirtual 177), (1274, .pop), (1275, .goto 3), (1278, .iinc 3 6), (1281, .goto (-1263)), (1284, .iconst 1), (1285, .ireturn)], ([(18, [true, true, true, true])], zp_10)))
def zp_all : List (Option Nat × zv_M) := [(none, mc0_init), (some 0, mc0_begin), (some 0, mc0_startWith), (some 0, mc0_at), (some 0, mc0_glyph), (some 0, mc0_setGlyph), (some 0, mc0_letterAt), (some 0, mc0_rowOfHere), (some 0, mc0_leaves), (some 0, mc0_groups), (some 0, mc0_childOf), (some 0, mc0_findNewest), (some 0, mc0_newestChild), (none, mc0_onLine), (none, mc0_above), (some 0, mc0_lettersOfHereBy), (some 0, mc0_moveTo), (some 0, mc0_grow), (some 0, mc0_putWord), (some 0, mc0_cutOut), (none, mc0_baseOf), (some 0, mc0_joinGroup), (none, mc0_isNear), (some 0, mc0_passTime), (some 0, mc0_behind), (some 0, mc0_stepBack), (some 0, mc0_stepOn), (some 0, mc0_goTo), (some 0, mc0_nameHere), (some 0, mc0_dropName), (some 0, mc0_takeBack), (some 0, mc0_giveBack), (some 0, mc0_turn), (some 0, mc0_carryOver), (some 0, mc0_standForThemselves), (some 0, mc0_standOf), (some 0, mc0_carryOne), (some 0, mc0_firstTaken), (some 0, mc0_takenFrom), (some 0, mc0_takes), (some 0, mc0_mergeIn), (some 0, mc0_mergeOnPaper), (some 0, mc0_remove), (some 0, mc0_nextToGo), (some 0, mc0_pruneTo), (none, mc0_nearest), (none, mc0_wayLength), (none, mc0_onWay), (some 0, mc0_keptOf), (some 0, mc0_firstDifference), (some 0, mc0_longestCommon), (some 0, mc0_placeIn), (some 0, mc0_leastWith), (some 0, mc0_statesWith), (some 0, mc0_twinOf), (none, mc1_init), (some 1, mc1_clear), (some 1, mc1_usual), (some 1, mc1_compare), (some 1, mc1_add), (some 1, mc1_set), (some 1, mc1_holds), (none, mc2_init), (some 2, mc2_indexOf), (some 2, mc2_keyAt), (some 2, mc2_ownerAt), (some 2, mc2_countOf), (some 2, mc2_own), (some 2, mc2_drop), (none, mc3_init), (some 3, mc3_addByte), (some 3, mc3_byteAt), (some 3, mc3_fail), (some 3, mc3_more), (some 3, mc3_begin), (some 3, mc3_next), (none, mc3_isSmall), (none, mc3_isDigit), (some 3, mc3_is), (some 3, mc3_isSign), (some 3, mc3_head), (some 3, mc3_closed), (some 3, mc3_spelled), (some 3, mc3_test), (some 3, mc3_side), (some 3, mc3_fact), (some 3, mc3_comparison), (some 3, mc3_asked), (some 3, mc3_line), (some 3, mc3_verbHere), (none, mc4_init), (none, mc4_id), (none, mc4_putter), (none, mc4_order), (none, mc4_isId), (some 4, mc4_lay), (some 4, mc4_walk), (some 4, mc4_link), (some 4, mc4_look), (some 4, mc4_numberAt), (some 4, mc4_idAt), (some 4, mc4_seesAt), (some 4, mc4_placeOf), (some 4, mc4_seenUpTo), (some 4, mc4_outOfForce), (some 4, mc4_cutsInForce), (some 4, mc4_lastCut), (some 4, mc4_leaningOn), (some 4, mc4_groundOf), (none, mc5_init), (some 5, mc5_open), (some 5, mc5_bit), (some 5, mc5_edits), (some 5, mc5_brings), (some 5, mc5_idAt), (some 5, mc5_addId), (some 5, mc5_tookAt), (some 5, mc5_tookIt), (none, mc6_init), (some 6, mc6_add), (some 6, mc6_slot), (some 6, mc6_stateAt), (some 6, mc6_timeAt), (some 6, mc6_forget), (some 6, mc6_keep), (some 6, mc6_giveBack), (none, mc7_init), (some 7, mc7_clear), (some 7, mc7_add), (some 7, mc7_at), (some 7, mc7_key), (none, mc8_init), (some 8, mc8_refused), (some 8, mc8_given), (some 8, mc8_answered), (none, mc8_within), (some 8, mc8_status), (some 8, mc8_feed), (some 8, mc8_feedInt), (some 8, mc8_fault), (some 8, mc8_type), (none, mc8_typedLetter), (some 8, mc8_load), (some 8, mc8_done), (some 8, mc8_many), (some 8, mc8_letter), (some 8, mc8_state), (some 8, mc8_child), (some 8, mc8_force), (some 8, mc8_blame), (some 8, mc8_row), (some 8, mc8_visit), (some 8, mc8_named), (some 8, mc8_leans), (some 8, mc8_put), (some 8, mc8_cut), (some 8, mc8_wait), (some 8, mc8_undo), (some 8, mc8_redo), (some 8, mc8_go), (some 8, mc8_name), (some 8, mc8_unname), (some 8, mc8_withdraw), (some 8, mc8_restore), (some 8, mc8_carry), (some 8, mc8_merge), (some 8, mc8_prune), (some 8, mc8_common), (some 8, mc8_way), (some 8, mc8_between), (some 8, mc8_least), (some 8, mc8_merges), (some 8, mc8_tell), (some 8, mc8_tellDocument), (some 8, mc8_tellLine), (some 8, mc8_tellNames), (some 8, mc8_tellNumber), (some 8, mc8_tellByte), (some 8, mc8_out), (some 8, mc8_leaning), (some 8, mc8_find), (some 8, mc8_first), (some 8, mc8_twin), (some 8, mc8_back), (none, mc9_init), (some 9, mc9_status), (some 9, mc9_refuse), (some 9, mc9_is), (none, mc9_isIn), (some 9, mc9_clears), (some 9, mc9_of), (some 9, mc9_sets), (some 9, mc9_isState), (some 9, mc9_isEdit), (some 9, mc9_here), (some 9, mc9_states), (some 9, mc9_names), (some 9, mc9_namesToo), (some 9, mc9_isOfLine), (some 9, mc9_depthOf), (some 9, mc9_rowOf), (some 9, mc9_letsIn), (some 9, mc9_turns), (some 9, mc9_sees), (some 9, mc9_rowPlace), (some 9, mc9_letterIn), (some 9, mc9_lettersOf), (some 9, mc9_copies), (some 9, mc9_visits), (some 9, mc9_latestIn), (some 9, mc9_childOf), (some 9, mc9_childrenOf), (some 9, mc9_freeState), (some 9, mc9_isNear), (none, mc9_compares), (some 9, mc9_holds), (some 9, mc9_joins), (some 9, mc9_begins), (none, mc9_packed), (some 9, mc9_nameAt), (some 9, mc9_type), (some 9, mc9_hand), (some 9, mc9_putNow), (some 9, mc9_cutNow), (some 9, mc9_plain), (some 9, mc9_carries), (some 9, mc9_isTaken), (some 9, mc9_carriesCut), (some 9, mc9_carryNow), (some 9, mc9_mergeNow), (some 9, mc9_undoNow), (some 9, mc9_redoNow), (some 9, mc9_commonOf), (some 9, mc9_wayMany), (some 9, mc9_goNow), (some 9, mc9_nameNow), (some 9, mc9_leansOn), (some 9, mc9_marks), (some 9, mc9_triesNames), (some 9, mc9_turnNow), (some 9, mc9_lays), (some 9, mc9_feed), (some 9, mc9_isOf), (some 9, mc9_reads), (some 9, mc9_must), (some 9, mc9_which), (some 9, mc9_isSign), (some 9, mc9_takes), (some 9, mc9_takesNumber), (some 9, mc9_takesWord), (some 9, mc9_emits), (some 9, mc9_test), (some 9, mc9_side), (some 9, mc9_fact), (some 9, mc9_readsLine), (some 9, mc9_does), (some 9, mc9_load), (some 9, mc9_fault), (some 9, mc9_leaves), (some 9, mc9_groups), (some 9, mc9_gone), (some 9, mc9_many), (some 9, mc9_letter), (some 9, mc9_namesOf), (some 9, mc9_state), (some 9, mc9_child), (some 9, mc9_force), (some 9, mc9_blame), (some 9, mc9_cutsOf), (some 9, mc9_row), (some 9, mc9_visit), (some 9, mc9_named), (some 9, mc9_leans), (some 9, mc9_put), (some 9, mc9_cut), (some 9, mc9_wait), (some 9, mc9_undo), (some 9, mc9_redo), (some 9, mc9_go), (some 9, mc9_name), (some 9, mc9_unname), (some 9, mc9_withdraw), (some 9, mc9_restore), (some 9, mc9_firstOut), (some 9, mc9_carry), (some 9, mc9_merge), (some 9, mc9_prune), (some 9, mc9_pruneNow), (some 9, mc9_common), (some 9, mc9_way), (some 9, mc9_keysOf), (some 9, mc9_keptOf), (some 9, mc9_differ), (some 9, mc9_between), (some 9, mc9_least), (some 9, mc9_merges), (some 9, mc9_tells), (some 9, mc9_tellsNumber), (some 9, mc9_tellsNames), (some 9, mc9_tell), (some 9, mc9_out), (some 9, mc9_leaning), (some 9, mc9_placeIn), (some 9, mc9_find), (some 9, mc9_first), (some 9, mc9_twin), (some 9, mc9_back)]
def zv_prog (id : Nat) : Option (Option Nat × zv_M) := zp_all[id]?
end
section
noncomputable def CJ_max (d : Nat) (x y : Int) (h : zv_H) := (zv_cs zv_prog d).2.1 900 [zv_i x, zv_i y] h
noncomputable def CJ_min (d : Nat) (x y : Int) (h : zv_H) := (zv_cs zv_prog d).2.1 901 [zv_i x, zv_i y] h
noncomputable def CJ_bitc (d : Nat) (x : Int64) (h : zv_H) := (zv_cs zv_prog d).2.1 902 [zv_j x] h
noncomputable def CJ_len (d : Nat) (x : Nat) (h : zv_H) := (zv_cs zv_prog d).2.1 903 [zv_r x] h
noncomputable def CJ_chr (d : Nat) (x : Nat) (y : Int) (h : zv_H) := (zv_cs zv_prog d).2.1 904 [zv_r x, zv_i y] h
noncomputable def CJ_idx (d : Nat) (x : Nat) (y : Int) (h : zv_H) := (zv_cs zv_prog d).2.1 905 [zv_r x, zv_i y] h
theorem lCJ_max (d : Nat) (x y : Int) (h : zv_H) : CJ_max (d + 1) x y h = some (max x y, h) := rfl
theorem lCJ_min (d : Nat) (x y : Int) (h : zv_H) : CJ_min (d + 1) x y h = some (min x y, h) := rfl
theorem lCJ_bitc (d : Nat) (x : Int64) (h : zv_H) : CJ_bitc (d + 1) x h = some (zv_and (zv_l2i (zv_bc x)) 127, h) := rfl
noncomputable def C0_init (d : Nat) (a0 : Nat) (h : zv_H) := (zv_cs zv_prog d).1 0 [zv_r a0] h
noncomputable def E0_init (d : Nat) (a0 : Nat) (h : zv_H) : zv_O := zv_lim (zv_cs zv_prog d) mc0_init 0 [some (zv_r a0), none] [] h
noncomputable def L0_init_125 (d : Nat) (a0 : Nat) (a1 : Int) (h : zv_H) : zv_O := zv_lim (zv_cs zv_prog d) mc0_init 125 [some (zv_r a0), some (zv_i a1)] [] h
noncomputable def C0_begin (d : Nat) (a0 : Nat) (h : zv_H) := (zv_cs zv_prog d).1 1 [zv_r a0] h
noncomputable def E0_begin (d : Nat) (a0 : Nat) (h : zv_H) : zv_O := zv_lim (zv_cs zv_prog d) mc0_begin 0 [some (zv_r a0), none] [] h
noncomputable def L0_begin_2 (d : Nat) (a0 : Nat) (a1 : Int) (h : zv_H) : zv_O := zv_lim (zv_cs zv_prog d) mc0_begin 2 [some (zv_r a0), some (zv_i a1)] [] h
noncomputable def C0_startWith (d : Nat) (a0 : Nat) (a1 : Nat) (h : zv_H) := (zv_cs zv_prog d).1 2 [zv_r a0, zv_r a1] h
noncomputable def E0_startWith (d : Nat) (a0 : Nat) (a1 : Nat) (h : zv_H) : zv_O := zv_lim (zv_cs zv_prog d) mc0_startWith 0 [some (zv_r a0), some (zv_r a1), none, none] [] h
noncomputable def L0_startWith_21 (d : Nat) (a0 : Nat) (a1 : Nat) (a2 : Int) (h : zv_H) : zv_O := zv_lim (zv_cs zv_prog d) mc0_startWith 21 [some (zv_r a0), some (zv_r a1), some (zv_i a2), none] [] h
noncomputable def C0_at (d : Nat) (a0 : Nat) (a1 : Int) (h : zv_H) := (zv_cs zv_prog d).2.2.2 3 [zv_r a0, zv_i a1] h
noncomputable def E0_at (d : Nat) (a0 : Nat) (a1 : Int) (h : zv_H) : zv_O := zv_lim (zv_cs zv_prog d) mc0_at 0 [some (zv_r a0), some (zv_i a1), none] [] h
noncomputable def C0_glyph (d : Nat) (a0 : Nat) (a1 : Int) (h : zv_H) := (zv_cs zv_prog d).2.1 4 [zv_r a0, zv_i a1] h
noncomputable def E0_glyph (d : Nat) (a0 : Nat) (a1 : Int) (h : zv_H) : zv_O := zv_lim (zv_cs zv_prog d) mc0_glyph 0 [some (zv_r a0), some (zv_i a1)] [] h
noncomputable def C0_setGlyph (d : Nat) (a0 : Nat) (a1 : Int) (a2 : Int) (h : zv_H) := (zv_cs zv_prog d).1 5 [zv_r a0, zv_i a1, zv_i a2] h
noncomputable def E0_setGlyph (d : Nat) (a0 : Nat) (a1 : Int) (a2 : Int) (h : zv_H) : zv_O := zv_lim (zv_cs zv_prog d) mc0_setGlyph 0 [some (zv_r a0), some (zv_i a1), some (zv_i a2)] [] h
noncomputable def C0_letterAt (d : Nat) (a0 : Nat) (a1 : Nat) (a2 : Int) (h : zv_H) := (zv_cs zv_prog d).2.1 6 [zv_r a0, zv_r a1, zv_i a2] h
noncomputable def E0_letterAt (d : Nat) (a0 : Nat) (a1 : Nat) (a2 : Int) (h : zv_H) : zv_O := zv_lim (zv_cs zv_prog d) mc0_letterAt 0 [some (zv_r a0), some (zv_r a1), some (zv_i a2)] [] h
noncomputable def C0_rowOfHere (d : Nat) (a0 : Nat) (h : zv_H) := (zv_cs zv_prog d).2.2.2 7 [zv_r a0] h
noncomputable def E0_rowOfHere (d : Nat) (a0 : Nat) (h : zv_H) : zv_O := zv_lim (zv_cs zv_prog d) mc0_rowOfHere 0 [some (zv_r a0)] [] h
noncomputable def C0_leaves (d : Nat) (a0 : Nat) (h : zv_H) := (zv_cs zv_prog d).2.1 8 [zv_r a0] h
noncomputable def E0_leaves (d : Nat) (a0 : Nat) (h : zv_H) : zv_O := zv_lim (zv_cs zv_prog d) mc0_leaves 0 [some (zv_r a0), none, none, none] [] h
noncomputable def L0_leaves_4 (d : Nat) (a0 : Nat) (a1 : Int) (a2 : Int) (h : zv_H) : zv_O := zv_lim (zv_cs zv_prog d) mc0_leaves 4 [some (zv_r a0), some (zv_i a1), some (zv_i a2), none] [] h
noncomputable def C0_groups (d : Nat) (a0 : Nat) (h : zv_H) := (zv_cs zv_prog d).2.1 9 [zv_r a0] h
noncomputable def E0_groups (d : Nat) (a0 : Nat) (h : zv_H) : zv_O := zv_lim (zv_cs zv_prog d) mc0_groups 0 [some (zv_r a0), none, none] [] h
noncomputable def L0_groups_7 (d : Nat) (a0 : Nat) (a1 : Int) (a2 : Nat) (h : zv_H) : zv_O := zv_lim (zv_cs zv_prog d) mc0_groups 7 [some (zv_r a0), some (zv_i a1), some (zv_r a2)] [] h
noncomputable def C0_childOf (d : Nat) (a0 : Nat) (a1 : Nat) (a2 : Int) (h : zv_H) := (zv_cs zv_prog d).2.2.2 10 [zv_r a0, zv_r a1, zv_i a2] h
noncomputable def E0_childOf (d : Nat) (a0 : Nat) (a1 : Nat) (a2 : Int) (h : zv_H) : zv_O := zv_lim (zv_cs zv_prog d) mc0_childOf 0 [some (zv_r a0), some (zv_r a1), some (zv_i a2), none, none, none] [] h
noncomputable def L0_childOf_34 (d : Nat) (a0 : Nat) (a1 : Nat) (a2 : Int) (a3 : Nat) (a4 : Int) (a5 : Int) (h : zv_H) : zv_O := zv_lim (zv_cs zv_prog d) mc0_childOf 34 [some (zv_r a0), some (zv_r a1), some (zv_i a2), some (zv_r a3), some (zv_i a4), some (zv_i a5)] [] h
noncomputable def C0_findNewest (d : Nat) (a0 : Nat) (h : zv_H) := (zv_cs zv_prog d).1 11 [zv_r a0] h
noncomputable def E0_findNewest (d : Nat) (a0 : Nat) (h : zv_H) : zv_O := zv_lim (zv_cs zv_prog d) mc0_findNewest 0 [some (zv_r a0), none, none, none] [] h
noncomputable def L0_findNewest_2 (d : Nat) (a0 : Nat) (a1 : Int) (h : zv_H) : zv_O := zv_lim (zv_cs zv_prog d) mc0_findNewest 2 [some (zv_r a0), some (zv_i a1), none, none] [] h
noncomputable def L0_findNewest_35 (d : Nat) (a0 : Nat) (a1 : Int) (h : zv_H) : zv_O := zv_lim (zv_cs zv_prog d) mc0_findNewest 35 [some (zv_r a0), some (zv_i a1), none, none] [] h
noncomputable def L0_findNewest_49 (d : Nat) (a0 : Nat) (a1 : Int) (a2 : Nat) (a3 : Nat) (h : zv_H) : zv_O := zv_lim (zv_cs zv_prog d) mc0_findNewest 49 [some (zv_r a0), some (zv_i a1), some (zv_r a2), some (zv_r a3)] [] h
noncomputable def C0_newestChild (d : Nat) (a0 : Nat) (a1 : Nat) (a2 : Int) (h : zv_H) := (zv_cs zv_prog d).2.2.2 12 [zv_r a0, zv_r a1, zv_i a2] h
noncomputable def E0_newestChild (d : Nat) (a0 : Nat) (a1 : Nat) (a2 : Int) (h : zv_H) : zv_O := zv_lim (zv_cs zv_prog d) mc0_newestChild 0 [some (zv_r a0), some (zv_r a1), some (zv_i a2), none, none, none] [] h
noncomputable def L0_newestChild_5 (d : Nat) (a0 : Nat) (a1 : Nat) (a2 : Int) (a3 : Nat) (a4 : Int) (h : zv_H) : zv_O := zv_lim (zv_cs zv_prog d) mc0_newestChild 5 [some (zv_r a0), some (zv_r a1), some (zv_i a2), some (zv_r a3), some (zv_i a4), none] [] h
noncomputable def C0_onLine (d : Nat) (a0 : Nat) (a1 : Nat) (h : zv_H) := (zv_cs zv_prog d).2.1 13 [zv_r a0, zv_r a1] h
noncomputable def E0_onLine (d : Nat) (a0 : Nat) (a1 : Nat) (h : zv_H) : zv_O := zv_lim (zv_cs zv_prog d) mc0_onLine 0 [some (zv_r a0), some (zv_r a1), none] [] h
noncomputable def L0_onLine_2 (d : Nat) (a0 : Nat) (a2 : Nat) (h : zv_H) : zv_O := zv_lim (zv_cs zv_prog d) mc0_onLine 2 [some (zv_r a0), none, some (zv_r a2)] [] h
noncomputable def L0_onLine_25 (d : Nat) (a0 : Nat) (a2 : Nat) (h : zv_H) : zv_O := zv_lim (zv_cs zv_prog d) mc0_onLine 25 [some (zv_r a0), none, some (zv_r a2)] [] h
noncomputable def C0_above (d : Nat) (a0 : Nat) (a1 : Int) (h : zv_H) := (zv_cs zv_prog d).2.2.2 14 [zv_r a0, zv_i a1] h
noncomputable def E0_above (d : Nat) (a0 : Nat) (a1 : Int) (h : zv_H) : zv_O := zv_lim (zv_cs zv_prog d) mc0_above 0 [some (zv_r a0), some (zv_i a1), none] [] h
noncomputable def L0_above_2 (d : Nat) (a1 : Int) (a2 : Nat) (h : zv_H) : zv_O := zv_lim (zv_cs zv_prog d) mc0_above 2 [none, some (zv_i a1), some (zv_r a2)] [] h
noncomputable def C0_lettersOfHereBy (d : Nat) (a0 : Nat) (a1 : Int64) (h : zv_H) := (zv_cs zv_prog d).2.1 15 [zv_r a0, zv_j a1] h
noncomputable def E0_lettersOfHereBy (d : Nat) (a0 : Nat) (a1 : Int64) (h : zv_H) : zv_O := zv_lim (zv_cs zv_prog d) mc0_lettersOfHereBy 0 [some (zv_r a0), some (zv_j a1), none, none, none] [] h
noncomputable def L0_lettersOfHereBy_5 (d : Nat) (a0 : Nat) (a1 : Int64) (a3 : Int) (a4 : Int) (h : zv_H) : zv_O := zv_lim (zv_cs zv_prog d) mc0_lettersOfHereBy 5 [some (zv_r a0), some (zv_j a1), none, some (zv_i a3), some (zv_i a4)] [] h
noncomputable def C0_moveTo (d : Nat) (a0 : Nat) (a1 : Nat) (h : zv_H) := (zv_cs zv_prog d).1 16 [zv_r a0, zv_r a1] h
noncomputable def E0_moveTo (d : Nat) (a0 : Nat) (a1 : Nat) (h : zv_H) : zv_O := zv_lim (zv_cs zv_prog d) mc0_moveTo 0 [some (zv_r a0), some (zv_r a1)] [] h
noncomputable def C0_grow (d : Nat) (a0 : Nat) (a1 : Int) (a2 : Int) (a3 : Int) (h : zv_H) := (zv_cs zv_prog d).2.2.2 17 [zv_r a0, zv_i a1, zv_i a2, zv_i a3] h
noncomputable def E0_grow (d : Nat) (a0 : Nat) (a1 : Int) (a2 : Int) (a3 : Int) (h : zv_H) : zv_O := zv_lim (zv_cs zv_prog d) mc0_grow 0 [some (zv_r a0), some (zv_i a1), some (zv_i a2), some (zv_i a3), none, none] [] h
noncomputable def L0_grow_3 (d : Nat) (a0 : Nat) (a1 : Int) (a2 : Int) (a3 : Int) (a4 : Int) (h : zv_H) : zv_O := zv_lim (zv_cs zv_prog d) mc0_grow 3 [some (zv_r a0), some (zv_i a1), some (zv_i a2), some (zv_i a3), some (zv_i a4), none] [] h
noncomputable def L0_grow_25 (d : Nat) (a0 : Nat) (a1 : Int) (a2 : Int) (a3 : Int) (a4 : Int) (h : zv_H) : zv_O := zv_lim (zv_cs zv_prog d) mc0_grow 25 [some (zv_r a0), some (zv_i a1), some (zv_i a2), some (zv_i a3), some (zv_i a4), none] [] h
noncomputable def C0_putWord (d : Nat) (a0 : Nat) (a1 : Int) (a2 : Nat) (h : zv_H) := (zv_cs zv_prog d).2.1 18 [zv_r a0, zv_i a1, zv_r a2] h
noncomputable def E0_putWord (d : Nat) (a0 : Nat) (a1 : Int) (a2 : Nat) (h : zv_H) : zv_O := zv_lim (zv_cs zv_prog d) mc0_putWord 0 [some (zv_r a0), some (zv_i a1), some (zv_r a2), none, none, none, none] [] h
noncomputable def L0_putWord_109 (d : Nat) (a0 : Nat) (a1 : Int) (a2 : Nat) (a3 : Nat) (a4 : Nat) (a5 : Int) (h : zv_H) : zv_O := zv_lim (zv_cs zv_prog d) mc0_putWord 109 [some (zv_r a0), some (zv_i a1), some (zv_r a2), some (zv_r a3), some (zv_r a4), some (zv_i a5), none] [] h
noncomputable def L0_putWord_135 (d : Nat) (a0 : Nat) (a1 : Int) (a2 : Nat) (a3 : Nat) (a4 : Nat) (a5 : Int) (h : zv_H) : zv_O := zv_lim (zv_cs zv_prog d) mc0_putWord 135 [some (zv_r a0), some (zv_i a1), some (zv_r a2), some (zv_r a3), some (zv_r a4), some (zv_i a5), none] [] h
noncomputable def L0_putWord_184 (d : Nat) (a0 : Nat) (a3 : Nat) (a4 : Nat) (a5 : Int) (h : zv_H) : zv_O := zv_lim (zv_cs zv_prog d) mc0_putWord 184 [some (zv_r a0), none, none, some (zv_r a3), some (zv_r a4), some (zv_i a5), none] [] h
noncomputable def C0_cutOut (d : Nat) (a0 : Nat) (a1 : Int) (a2 : Int) (h : zv_H) := (zv_cs zv_prog d).2.1 19 [zv_r a0, zv_i a1, zv_i a2] h
noncomputable def E0_cutOut (d : Nat) (a0 : Nat) (a1 : Int) (a2 : Int) (h : zv_H) : zv_O := zv_lim (zv_cs zv_prog d) mc0_cutOut 0 [some (zv_r a0), some (zv_i a1), some (zv_i a2), none, none, none, none, none] [] h
noncomputable def L0_cutOut_69 (d : Nat) (a0 : Nat) (a1 : Int) (a2 : Int) (a3 : Nat) (a4 : Nat) (a5 : Int) (h : zv_H) : zv_O := zv_lim (zv_cs zv_prog d) mc0_cutOut 69 [some (zv_r a0), some (zv_i a1), some (zv_i a2), some (zv_r a3), some (zv_r a4), some (zv_i a5), none, none] [] h
noncomputable def L0_cutOut_138 (d : Nat) (a0 : Nat) (a1 : Int) (a2 : Int) (a3 : Nat) (a4 : Nat) (a5 : Int) (a6 : Int) (h : zv_H) : zv_O := zv_lim (zv_cs zv_prog d) mc0_cutOut 138 [some (zv_r a0), some (zv_i a1), some (zv_i a2), some (zv_r a3), some (zv_r a4), some (zv_i a5), some (zv_i a6), none] [] h
noncomputable def C0_baseOf (d : Nat) (a0 : Int) (h : zv_H) := (zv_cs zv_prog d).2.2.1 20 [zv_i a0] h
noncomputable def E0_baseOf (d : Nat) (a0 : Int) (h : zv_H) : zv_O := zv_lim (zv_cs zv_prog d) mc0_baseOf 0 [some (zv_i a0)] [] h
noncomputable def C0_joinGroup (d : Nat) (a0 : Nat) (a1 : Nat) (a2 : Nat) (h : zv_H) := (zv_cs zv_prog d).1 21 [zv_r a0, zv_r a1, zv_r a2] h
noncomputable def E0_joinGroup (d : Nat) (a0 : Nat) (a1 : Nat) (a2 : Nat) (h : zv_H) : zv_O := zv_lim (zv_cs zv_prog d) mc0_joinGroup 0 [some (zv_r a0), some (zv_r a1), some (zv_r a2)] [] h
noncomputable def L0_joinGroup_87 (d : Nat) (a0 : Nat) (a1 : Nat) (a2 : Nat) (e0 : Nat) (e1 : Int) (e2 : Int) (h : zv_H) : zv_O := zv_lim (zv_cs zv_prog d) mc0_joinGroup 87 [some (zv_r a0), some (zv_r a1), some (zv_r a2)] [zv_i e2, zv_i e1, zv_r e0] h
noncomputable def L0_joinGroup_108 (d : Nat) (a0 : Nat) (a1 : Nat) (a2 : Nat) (e0 : Nat) (e1 : Int) (e2 : Int) (h : zv_H) : zv_O := zv_lim (zv_cs zv_prog d) mc0_joinGroup 108 [some (zv_r a0), some (zv_r a1), some (zv_r a2)] [zv_i e2, zv_i e1, zv_r e0] h
noncomputable def C0_isNear (d : Nat) (a0 : Nat) (a1 : Nat) (h : zv_H) := (zv_cs zv_prog d).2.1 22 [zv_r a0, zv_r a1] h
noncomputable def E0_isNear (d : Nat) (a0 : Nat) (a1 : Nat) (h : zv_H) : zv_O := zv_lim (zv_cs zv_prog d) mc0_isNear 0 [some (zv_r a0), some (zv_r a1), none] [] h
noncomputable def L0_isNear_23 (d : Nat) (a0 : Nat) (a1 : Nat) (e0 : Int) (h : zv_H) : zv_O := zv_lim (zv_cs zv_prog d) mc0_isNear 23 [some (zv_r a0), some (zv_r a1), none] [zv_i e0] h
noncomputable def C0_passTime (d : Nat) (a0 : Nat) (a1 : Int) (h : zv_H) := (zv_cs zv_prog d).2.1 23 [zv_r a0, zv_i a1] h
noncomputable def E0_passTime (d : Nat) (a0 : Nat) (a1 : Int) (h : zv_H) : zv_O := zv_lim (zv_cs zv_prog d) mc0_passTime 0 [some (zv_r a0), some (zv_i a1)] [] h
noncomputable def C0_behind (d : Nat) (a0 : Nat) (a1 : Int) (h : zv_H) := (zv_cs zv_prog d).2.2.2 24 [zv_r a0, zv_i a1] h
noncomputable def E0_behind (d : Nat) (a0 : Nat) (a1 : Int) (h : zv_H) : zv_O := zv_lim (zv_cs zv_prog d) mc0_behind 0 [some (zv_r a0), some (zv_i a1), none, none] [] h
noncomputable def L0_behind_7 (d : Nat) (a1 : Int) (a2 : Nat) (a3 : Int) (h : zv_H) : zv_O := zv_lim (zv_cs zv_prog d) mc0_behind 7 [none, some (zv_i a1), some (zv_r a2), some (zv_i a3)] [] h
noncomputable def C0_stepBack (d : Nat) (a0 : Nat) (h : zv_H) := (zv_cs zv_prog d).2.1 25 [zv_r a0] h
noncomputable def E0_stepBack (d : Nat) (a0 : Nat) (h : zv_H) : zv_O := zv_lim (zv_cs zv_prog d) mc0_stepBack 0 [some (zv_r a0), none] [] h
noncomputable def C0_stepOn (d : Nat) (a0 : Nat) (h : zv_H) := (zv_cs zv_prog d).2.1 26 [zv_r a0] h
noncomputable def E0_stepOn (d : Nat) (a0 : Nat) (h : zv_H) : zv_O := zv_lim (zv_cs zv_prog d) mc0_stepOn 0 [some (zv_r a0), none, none, none] [] h
noncomputable def L0_stepOn_26 (d : Nat) (a0 : Nat) (a1 : Nat) (a2 : Nat) (a3 : Int) (h : zv_H) : zv_O := zv_lim (zv_cs zv_prog d) mc0_stepOn 26 [some (zv_r a0), some (zv_r a1), some (zv_r a2), some (zv_i a3)] [] h
noncomputable def L0_stepOn_62 (d : Nat) (a0 : Nat) (a1 : Nat) (h : zv_H) : zv_O := zv_lim (zv_cs zv_prog d) mc0_stepOn 62 [some (zv_r a0), some (zv_r a1), none, none] [] h
noncomputable def C0_goTo (d : Nat) (a0 : Nat) (a1 : Int) (h : zv_H) := (zv_cs zv_prog d).2.1 27 [zv_r a0, zv_i a1] h
noncomputable def E0_goTo (d : Nat) (a0 : Nat) (a1 : Int) (h : zv_H) : zv_O := zv_lim (zv_cs zv_prog d) mc0_goTo 0 [some (zv_r a0), some (zv_i a1), none, none] [] h
noncomputable def C0_nameHere (d : Nat) (a0 : Nat) (a1 : Int) (h : zv_H) := (zv_cs zv_prog d).2.1 28 [zv_r a0, zv_i a1] h
noncomputable def E0_nameHere (d : Nat) (a0 : Nat) (a1 : Int) (h : zv_H) : zv_O := zv_lim (zv_cs zv_prog d) mc0_nameHere 0 [some (zv_r a0), some (zv_i a1), none] [] h
noncomputable def L0_nameHere_35 (d : Nat) (a0 : Nat) (a1 : Int) (a2 : Int) (h : zv_H) : zv_O := zv_lim (zv_cs zv_prog d) mc0_nameHere 35 [some (zv_r a0), some (zv_i a1), some (zv_i a2)] [] h
noncomputable def L0_nameHere_61 (d : Nat) (a0 : Nat) (a1 : Int) (h : zv_H) : zv_O := zv_lim (zv_cs zv_prog d) mc0_nameHere 61 [some (zv_r a0), some (zv_i a1), none] [] h
noncomputable def C0_dropName (d : Nat) (a0 : Nat) (a1 : Int) (h : zv_H) := (zv_cs zv_prog d).2.1 29 [zv_r a0, zv_i a1] h
noncomputable def E0_dropName (d : Nat) (a0 : Nat) (a1 : Int) (h : zv_H) : zv_O := zv_lim (zv_cs zv_prog d) mc0_dropName 0 [some (zv_r a0), some (zv_i a1), none] [] h
noncomputable def C0_takeBack (d : Nat) (a0 : Nat) (a1 : Int) (h : zv_H) := (zv_cs zv_prog d).2.1 30 [zv_r a0, zv_i a1] h
noncomputable def E0_takeBack (d : Nat) (a0 : Nat) (a1 : Int) (h : zv_H) : zv_O := zv_lim (zv_cs zv_prog d) mc0_takeBack 0 [some (zv_r a0), some (zv_i a1), none, none, none] [] h
noncomputable def C0_giveBack (d : Nat) (a0 : Nat) (a1 : Int) (h : zv_H) := (zv_cs zv_prog d).2.1 31 [zv_r a0, zv_i a1] h
noncomputable def E0_giveBack (d : Nat) (a0 : Nat) (a1 : Int) (h : zv_H) : zv_O := zv_lim (zv_cs zv_prog d) mc0_giveBack 0 [some (zv_r a0), some (zv_i a1), none, none, none] [] h
noncomputable def C0_turn (d : Nat) (a0 : Nat) (a1 : Int) (a2 : Int64) (a4 : Int64) (h : zv_H) := (zv_cs zv_prog d).2.1 32 [zv_r a0, zv_i a1, zv_j a2, zv_j a4] h
noncomputable def E0_turn (d : Nat) (a0 : Nat) (a1 : Int) (a2 : Int64) (a4 : Int64) (h : zv_H) : zv_O := zv_lim (zv_cs zv_prog d) mc0_turn 0 [some (zv_r a0), some (zv_i a1), some (zv_j a2), none, some (zv_j a4), none, none, none] [] h
noncomputable def L0_turn_65 (d : Nat) (a0 : Nat) (a6 : Nat) (a7 : Int) (h : zv_H) : zv_O := zv_lim (zv_cs zv_prog d) mc0_turn 65 [some (zv_r a0), none, none, none, none, none, some (zv_r a6), some (zv_i a7)] [] h
noncomputable def C0_carryOver (d : Nat) (a0 : Nat) (a1 : Int) (h : zv_H) := (zv_cs zv_prog d).2.1 33 [zv_r a0, zv_i a1] h
noncomputable def E0_carryOver (d : Nat) (a0 : Nat) (a1 : Int) (h : zv_H) : zv_O := zv_lim (zv_cs zv_prog d) mc0_carryOver 0 [some (zv_r a0), some (zv_i a1), none] [] h
noncomputable def C0_standForThemselves (d : Nat) (a0 : Nat) (h : zv_H) := (zv_cs zv_prog d).1 34 [zv_r a0] h
noncomputable def E0_standForThemselves (d : Nat) (a0 : Nat) (h : zv_H) : zv_O := zv_lim (zv_cs zv_prog d) mc0_standForThemselves 0 [some (zv_r a0), none] [] h
noncomputable def L0_standForThemselves_2 (d : Nat) (a0 : Nat) (a1 : Int) (h : zv_H) : zv_O := zv_lim (zv_cs zv_prog d) mc0_standForThemselves 2 [some (zv_r a0), some (zv_i a1)] [] h
noncomputable def C0_standOf (d : Nat) (a0 : Nat) (a1 : Int) (h : zv_H) := (zv_cs zv_prog d).2.1 35 [zv_r a0, zv_i a1] h
noncomputable def E0_standOf (d : Nat) (a0 : Nat) (a1 : Int) (h : zv_H) : zv_O := zv_lim (zv_cs zv_prog d) mc0_standOf 0 [some (zv_r a0), some (zv_i a1), none] [] h
noncomputable def C0_carryOne (d : Nat) (a0 : Nat) (a1 : Nat) (h : zv_H) := (zv_cs zv_prog d).2.1 36 [zv_r a0, zv_r a1] h
noncomputable def E0_carryOne (d : Nat) (a0 : Nat) (a1 : Nat) (h : zv_H) : zv_O := zv_lim (zv_cs zv_prog d) mc0_carryOne 0 [some (zv_r a0), some (zv_r a1), none, none] [] h
noncomputable def L0_carryOne_74 (d : Nat) (a0 : Nat) (a1 : Nat) (a2 : Int) (h : zv_H) : zv_O := zv_lim (zv_cs zv_prog d) mc0_carryOne 74 [some (zv_r a0), some (zv_r a1), some (zv_i a2), none] [] h
noncomputable def L0_carryOne_91 (d : Nat) (a0 : Nat) (a1 : Nat) (a2 : Int) (a3 : Int) (h : zv_H) : zv_O := zv_lim (zv_cs zv_prog d) mc0_carryOne 91 [some (zv_r a0), some (zv_r a1), some (zv_i a2), some (zv_i a3)] [] h
noncomputable def C0_firstTaken (d : Nat) (a0 : Nat) (a1 : Nat) (h : zv_H) := (zv_cs zv_prog d).2.1 37 [zv_r a0, zv_r a1] h
noncomputable def E0_firstTaken (d : Nat) (a0 : Nat) (a1 : Nat) (h : zv_H) : zv_O := zv_lim (zv_cs zv_prog d) mc0_firstTaken 0 [some (zv_r a0), some (zv_r a1), none] [] h
noncomputable def L0_firstTaken_2 (d : Nat) (a0 : Nat) (a1 : Nat) (a2 : Int) (h : zv_H) : zv_O := zv_lim (zv_cs zv_prog d) mc0_firstTaken 2 [some (zv_r a0), some (zv_r a1), some (zv_i a2)] [] h
noncomputable def C0_takenFrom (d : Nat) (a0 : Nat) (a1 : Nat) (a2 : Int) (h : zv_H) := (zv_cs zv_prog d).2.1 38 [zv_r a0, zv_r a1, zv_i a2] h
noncomputable def E0_takenFrom (d : Nat) (a0 : Nat) (a1 : Nat) (a2 : Int) (h : zv_H) : zv_O := zv_lim (zv_cs zv_prog d) mc0_takenFrom 0 [some (zv_r a0), some (zv_r a1), some (zv_i a2), none, none] [] h
noncomputable def L0_takenFrom_9 (d : Nat) (a0 : Nat) (a1 : Nat) (a2 : Int) (a3 : Int) (a4 : Int) (h : zv_H) : zv_O := zv_lim (zv_cs zv_prog d) mc0_takenFrom 9 [some (zv_r a0), some (zv_r a1), some (zv_i a2), some (zv_i a3), some (zv_i a4)] [] h
noncomputable def C0_takes (d : Nat) (a0 : Nat) (a1 : Nat) (a2 : Int) (h : zv_H) := (zv_cs zv_prog d).2.1 39 [zv_r a0, zv_r a1, zv_i a2] h
noncomputable def E0_takes (d : Nat) (a0 : Nat) (a1 : Nat) (a2 : Int) (h : zv_H) : zv_O := zv_lim (zv_cs zv_prog d) mc0_takes 0 [some (zv_r a0), some (zv_r a1), some (zv_i a2), none] [] h
noncomputable def L0_takes_2 (d : Nat) (a0 : Nat) (a1 : Nat) (a2 : Int) (a3 : Int) (h : zv_H) : zv_O := zv_lim (zv_cs zv_prog d) mc0_takes 2 [some (zv_r a0), some (zv_r a1), some (zv_i a2), some (zv_i a3)] [] h
noncomputable def C0_mergeIn (d : Nat) (a0 : Nat) (a1 : Int) (h : zv_H) := (zv_cs zv_prog d).2.1 40 [zv_r a0, zv_i a1] h
noncomputable def E0_mergeIn (d : Nat) (a0 : Nat) (a1 : Int) (h : zv_H) : zv_O := zv_lim (zv_cs zv_prog d) mc0_mergeIn 0 [some (zv_r a0), some (zv_i a1), none, none, none, none, none, none, none, none, none] [] h
noncomputable def L0_mergeIn_84 (d : Nat) (a0 : Nat) (a2 : Nat) (a5 : Int64) (a7 : Int) (a8 : Int) (h : zv_H) : zv_O := zv_lim (zv_cs zv_prog d) mc0_mergeIn 84 [some (zv_r a0), none, some (zv_r a2), none, none, some (zv_j a5), none, some (zv_i a7), some (zv_i a8), none, none] [] h
noncomputable def C0_mergeOnPaper (d : Nat) (a0 : Nat) (a1 : Int) (a2 : Int) (h : zv_H) := (zv_cs zv_prog d).2.1 41 [zv_r a0, zv_i a1, zv_i a2] h
noncomputable def E0_mergeOnPaper (d : Nat) (a0 : Nat) (a1 : Int) (a2 : Int) (h : zv_H) : zv_O := zv_lim (zv_cs zv_prog d) mc0_mergeOnPaper 0 [some (zv_r a0), some (zv_i a1), some (zv_i a2), none, none, none, none, none] [] h
noncomputable def L0_mergeOnPaper_60 (d : Nat) (a0 : Nat) (a3 : Nat) (a4 : Int) (a5 : Int) (a6 : Int) (h : zv_H) : zv_O := zv_lim (zv_cs zv_prog d) mc0_mergeOnPaper 60 [some (zv_r a0), none, none, some (zv_r a3), some (zv_i a4), some (zv_i a5), some (zv_i a6), none] [] h
noncomputable def L0_mergeOnPaper_112 (d : Nat) (a0 : Nat) (a5 : Int) (h : zv_H) : zv_O := zv_lim (zv_cs zv_prog d) mc0_mergeOnPaper 112 [some (zv_r a0), none, none, none, none, some (zv_i a5), none, none] [] h
noncomputable def C0_remove (d : Nat) (a0 : Nat) (a1 : Nat) (h : zv_H) := (zv_cs zv_prog d).1 42 [zv_r a0, zv_r a1] h
noncomputable def E0_remove (d : Nat) (a0 : Nat) (a1 : Nat) (h : zv_H) : zv_O := zv_lim (zv_cs zv_prog d) mc0_remove 0 [some (zv_r a0), some (zv_r a1)] [] h
noncomputable def L0_remove_25 (d : Nat) (a0 : Nat) (a1 : Nat) (h : zv_H) : zv_O := zv_lim (zv_cs zv_prog d) mc0_remove 25 [some (zv_r a0), some (zv_r a1)] [] h
noncomputable def C0_nextToGo (d : Nat) (a0 : Nat) (h : zv_H) := (zv_cs zv_prog d).2.2.2 43 [zv_r a0] h
noncomputable def E0_nextToGo (d : Nat) (a0 : Nat) (h : zv_H) : zv_O := zv_lim (zv_cs zv_prog d) mc0_nextToGo 0 [some (zv_r a0), none, none, none] [] h
noncomputable def L0_nextToGo_4 (d : Nat) (a0 : Nat) (a1 : Nat) (a2 : Int) (h : zv_H) : zv_O := zv_lim (zv_cs zv_prog d) mc0_nextToGo 4 [some (zv_r a0), some (zv_r a1), some (zv_i a2), none] [] h
noncomputable def C0_pruneTo (d : Nat) (a0 : Nat) (a1 : Int) (h : zv_H) := (zv_cs zv_prog d).2.1 44 [zv_r a0, zv_i a1] h
noncomputable def E0_pruneTo (d : Nat) (a0 : Nat) (a1 : Int) (h : zv_H) : zv_O := zv_lim (zv_cs zv_prog d) mc0_pruneTo 0 [some (zv_r a0), some (zv_i a1), none, none] [] h
noncomputable def L0_pruneTo_14 (d : Nat) (a0 : Nat) (a1 : Int) (a2 : Int) (h : zv_H) : zv_O := zv_lim (zv_cs zv_prog d) mc0_pruneTo 14 [some (zv_r a0), some (zv_i a1), some (zv_i a2), none] [] h
noncomputable def C0_nearest (d : Nat) (a0 : Nat) (a1 : Nat) (h : zv_H) := (zv_cs zv_prog d).2.2.2 45 [zv_r a0, zv_r a1] h
noncomputable def E0_nearest (d : Nat) (a0 : Nat) (a1 : Nat) (h : zv_H) : zv_O := zv_lim (zv_cs zv_prog d) mc0_nearest 0 [some (zv_r a0), some (zv_r a1), none] [] h
noncomputable def L0_nearest_2 (d : Nat) (a1 : Nat) (a2 : Nat) (h : zv_H) : zv_O := zv_lim (zv_cs zv_prog d) mc0_nearest 2 [none, some (zv_r a1), some (zv_r a2)] [] h
noncomputable def C0_wayLength (d : Nat) (a0 : Nat) (a1 : Nat) (h : zv_H) := (zv_cs zv_prog d).2.1 46 [zv_r a0, zv_r a1] h
noncomputable def E0_wayLength (d : Nat) (a0 : Nat) (a1 : Nat) (h : zv_H) : zv_O := zv_lim (zv_cs zv_prog d) mc0_wayLength 0 [some (zv_r a0), some (zv_r a1)] [] h
noncomputable def C0_onWay (d : Nat) (a0 : Nat) (a1 : Nat) (a2 : Int) (h : zv_H) := (zv_cs zv_prog d).2.2.2 47 [zv_r a0, zv_r a1, zv_i a2] h
noncomputable def E0_onWay (d : Nat) (a0 : Nat) (a1 : Nat) (a2 : Int) (h : zv_H) : zv_O := zv_lim (zv_cs zv_prog d) mc0_onWay 0 [some (zv_r a0), some (zv_r a1), some (zv_i a2), none, none] [] h
noncomputable def C0_keptOf (d : Nat) (a0 : Nat) (a1 : Nat) (a2 : Nat) (h : zv_H) := (zv_cs zv_prog d).2.1 48 [zv_r a0, zv_r a1, zv_r a2] h
noncomputable def E0_keptOf (d : Nat) (a0 : Nat) (a1 : Nat) (a2 : Nat) (h : zv_H) : zv_O := zv_lim (zv_cs zv_prog d) mc0_keptOf 0 [some (zv_r a0), some (zv_r a1), some (zv_r a2), none, none, none] [] h
noncomputable def L0_keptOf_5 (d : Nat) (a1 : Nat) (a2 : Nat) (a3 : Int) (a4 : Int) (h : zv_H) : zv_O := zv_lim (zv_cs zv_prog d) mc0_keptOf 5 [none, some (zv_r a1), some (zv_r a2), some (zv_i a3), some (zv_i a4), none] [] h
noncomputable def L0_keptOf_17 (d : Nat) (a1 : Nat) (a2 : Nat) (a3 : Int) (a4 : Int) (a5 : Int) (h : zv_H) : zv_O := zv_lim (zv_cs zv_prog d) mc0_keptOf 17 [none, some (zv_r a1), some (zv_r a2), some (zv_i a3), some (zv_i a4), some (zv_i a5)] [] h
noncomputable def C0_firstDifference (d : Nat) (a0 : Nat) (a1 : Nat) (a2 : Nat) (h : zv_H) := (zv_cs zv_prog d).2.1 49 [zv_r a0, zv_r a1, zv_r a2] h
noncomputable def E0_firstDifference (d : Nat) (a0 : Nat) (a1 : Nat) (a2 : Nat) (h : zv_H) : zv_O := zv_lim (zv_cs zv_prog d) mc0_firstDifference 0 [some (zv_r a0), some (zv_r a1), some (zv_r a2), none, none] [] h
noncomputable def L0_firstDifference_15 (d : Nat) (a0 : Nat) (a1 : Nat) (a2 : Nat) (a3 : Int) (a4 : Int) (h : zv_H) : zv_O := zv_lim (zv_cs zv_prog d) mc0_firstDifference 15 [some (zv_r a0), some (zv_r a1), some (zv_r a2), some (zv_i a3), some (zv_i a4)] [] h
noncomputable def C0_longestCommon (d : Nat) (a0 : Nat) (a1 : Nat) (a2 : Nat) (h : zv_H) := (zv_cs zv_prog d).2.1 50 [zv_r a0, zv_r a1, zv_r a2] h
noncomputable def E0_longestCommon (d : Nat) (a0 : Nat) (a1 : Nat) (a2 : Nat) (h : zv_H) : zv_O := zv_lim (zv_cs zv_prog d) mc0_longestCommon 0 [some (zv_r a0), some (zv_r a1), some (zv_r a2), none, none, none, none, none, none] [] h
noncomputable def L0_longestCommon_2 (d : Nat) (a0 : Nat) (a1 : Nat) (a2 : Nat) (a3 : Int) (h : zv_H) : zv_O := zv_lim (zv_cs zv_prog d) mc0_longestCommon 2 [some (zv_r a0), some (zv_r a1), some (zv_r a2), some (zv_i a3), none, none, none, none, none] [] h
noncomputable def L0_longestCommon_34 (d : Nat) (a0 : Nat) (a1 : Nat) (a2 : Nat) (a3 : Int) (a4 : Int) (h : zv_H) : zv_O := zv_lim (zv_cs zv_prog d) mc0_longestCommon 34 [some (zv_r a0), some (zv_r a1), some (zv_r a2), some (zv_i a3), some (zv_i a4), none, none, none, none] [] h
noncomputable def L0_longestCommon_58 (d : Nat) (a0 : Nat) (a1 : Nat) (a2 : Nat) (a3 : Int) (a4 : Int) (a5 : Int) (a6 : Int) (a7 : Int) (h : zv_H) : zv_O := zv_lim (zv_cs zv_prog d) mc0_longestCommon 58 [some (zv_r a0), some (zv_r a1), some (zv_r a2), some (zv_i a3), some (zv_i a4), some (zv_i a5), some (zv_i a6), some (zv_i a7), none] [] h
noncomputable def C0_placeIn (d : Nat) (a0 : Nat) (a1 : Nat) (a2 : Nat) (h : zv_H) := (zv_cs zv_prog d).2.1 51 [zv_r a0, zv_r a1, zv_r a2] h
noncomputable def E0_placeIn (d : Nat) (a0 : Nat) (a1 : Nat) (a2 : Nat) (h : zv_H) : zv_O := zv_lim (zv_cs zv_prog d) mc0_placeIn 0 [some (zv_r a0), some (zv_r a1), some (zv_r a2), none, none] [] h
noncomputable def L0_placeIn_2 (d : Nat) (a0 : Nat) (a1 : Nat) (a2 : Nat) (a3 : Int) (h : zv_H) : zv_O := zv_lim (zv_cs zv_prog d) mc0_placeIn 2 [some (zv_r a0), some (zv_r a1), some (zv_r a2), some (zv_i a3), none] [] h
noncomputable def L0_placeIn_18 (d : Nat) (a0 : Nat) (a1 : Nat) (a2 : Nat) (a3 : Int) (a4 : Int) (h : zv_H) : zv_O := zv_lim (zv_cs zv_prog d) mc0_placeIn 18 [some (zv_r a0), some (zv_r a1), some (zv_r a2), some (zv_i a3), some (zv_i a4)] [] h
noncomputable def L0_placeIn_51 (d : Nat) (a0 : Nat) (a1 : Nat) (a2 : Nat) (a3 : Int) (a4 : Int) (h : zv_H) : zv_O := zv_lim (zv_cs zv_prog d) mc0_placeIn 51 [some (zv_r a0), some (zv_r a1), some (zv_r a2), some (zv_i a3), some (zv_i a4)] [] h
noncomputable def C0_leastWith (d : Nat) (a0 : Nat) (a1 : Nat) (h : zv_H) := (zv_cs zv_prog d).2.1 52 [zv_r a0, zv_r a1] h
noncomputable def E0_leastWith (d : Nat) (a0 : Nat) (a1 : Nat) (h : zv_H) : zv_O := zv_lim (zv_cs zv_prog d) mc0_leastWith 0 [some (zv_r a0), some (zv_r a1), none, none] [] h
noncomputable def L0_leastWith_2 (d : Nat) (a0 : Nat) (a1 : Nat) (a2 : Int) (h : zv_H) : zv_O := zv_lim (zv_cs zv_prog d) mc0_leastWith 2 [some (zv_r a0), some (zv_r a1), some (zv_i a2), none] [] h
noncomputable def C0_statesWith (d : Nat) (a0 : Nat) (a1 : Nat) (h : zv_H) := (zv_cs zv_prog d).2.1 53 [zv_r a0, zv_r a1] h
noncomputable def E0_statesWith (d : Nat) (a0 : Nat) (a1 : Nat) (h : zv_H) : zv_O := zv_lim (zv_cs zv_prog d) mc0_statesWith 0 [some (zv_r a0), some (zv_r a1), none, none, none] [] h
noncomputable def L0_statesWith_4 (d : Nat) (a0 : Nat) (a1 : Nat) (a2 : Int) (a3 : Int) (h : zv_H) : zv_O := zv_lim (zv_cs zv_prog d) mc0_statesWith 4 [some (zv_r a0), some (zv_r a1), some (zv_i a2), some (zv_i a3), none] [] h
noncomputable def C0_twinOf (d : Nat) (a0 : Nat) (a1 : Nat) (h : zv_H) := (zv_cs zv_prog d).2.1 54 [zv_r a0, zv_r a1] h
noncomputable def E0_twinOf (d : Nat) (a0 : Nat) (a1 : Nat) (h : zv_H) : zv_O := zv_lim (zv_cs zv_prog d) mc0_twinOf 0 [some (zv_r a0), some (zv_r a1), none, none] [] h
noncomputable def L0_twinOf_2 (d : Nat) (a0 : Nat) (a1 : Nat) (a2 : Int) (h : zv_H) : zv_O := zv_lim (zv_cs zv_prog d) mc0_twinOf 2 [some (zv_r a0), some (zv_r a1), some (zv_i a2), none] [] h
noncomputable def C1_init (d : Nat) (a0 : Nat) (h : zv_H) := (zv_cs zv_prog d).1 55 [zv_r a0] h
noncomputable def E1_init (d : Nat) (a0 : Nat) (h : zv_H) : zv_O := zv_lim (zv_cs zv_prog d) mc1_init 0 [some (zv_r a0)] [] h
noncomputable def C1_clear (d : Nat) (a0 : Nat) (h : zv_H) := (zv_cs zv_prog d).1 56 [zv_r a0] h
noncomputable def E1_clear (d : Nat) (a0 : Nat) (h : zv_H) : zv_O := zv_lim (zv_cs zv_prog d) mc1_clear 0 [some (zv_r a0)] [] h
noncomputable def C1_usual (d : Nat) (a0 : Nat) (h : zv_H) := (zv_cs zv_prog d).1 57 [zv_r a0] h
noncomputable def E1_usual (d : Nat) (a0 : Nat) (h : zv_H) : zv_O := zv_lim (zv_cs zv_prog d) mc1_usual 0 [some (zv_r a0)] [] h
noncomputable def C1_compare (d : Nat) (a0 : Nat) (a1 : Int) (a2 : Int) (a3 : Int) (h : zv_H) := (zv_cs zv_prog d).1 58 [zv_r a0, zv_i a1, zv_i a2, zv_i a3] h
noncomputable def E1_compare (d : Nat) (a0 : Nat) (a1 : Int) (a2 : Int) (a3 : Int) (h : zv_H) : zv_O := zv_lim (zv_cs zv_prog d) mc1_compare 0 [some (zv_r a0), some (zv_i a1), some (zv_i a2), some (zv_i a3)] [] h
noncomputable def C1_add (d : Nat) (a0 : Nat) (a1 : Int) (a2 : Int) (h : zv_H) := (zv_cs zv_prog d).1 59 [zv_r a0, zv_i a1, zv_i a2] h
noncomputable def E1_add (d : Nat) (a0 : Nat) (a1 : Int) (a2 : Int) (h : zv_H) : zv_O := zv_lim (zv_cs zv_prog d) mc1_add 0 [some (zv_r a0), some (zv_i a1), some (zv_i a2)] [] h
noncomputable def C1_set (d : Nat) (a0 : Nat) (a1 : Int) (a2 : Int) (h : zv_H) := (zv_cs zv_prog d).1 60 [zv_r a0, zv_i a1, zv_i a2] h
noncomputable def E1_set (d : Nat) (a0 : Nat) (a1 : Int) (a2 : Int) (h : zv_H) : zv_O := zv_lim (zv_cs zv_prog d) mc1_set 0 [some (zv_r a0), some (zv_i a1), some (zv_i a2)] [] h
noncomputable def C1_holds (d : Nat) (a0 : Nat) (h : zv_H) := (zv_cs zv_prog d).2.1 61 [zv_r a0] h
noncomputable def E1_holds (d : Nat) (a0 : Nat) (h : zv_H) : zv_O := zv_lim (zv_cs zv_prog d) mc1_holds 0 [some (zv_r a0), none, none, none, none, none, none, none, none] [] h
noncomputable def L1_holds_4 (d : Nat) (a0 : Nat) (a1 : Int64) (a3 : Int) (h : zv_H) : zv_O := zv_lim (zv_cs zv_prog d) mc1_holds 4 [some (zv_r a0), some (zv_j a1), none, some (zv_i a3), none, none, none, none, none] [] h
noncomputable def L1_holds_107 (d : Nat) (a0 : Nat) (a1 : Int64) (a3 : Int) (a4 : Int) (h : zv_H) : zv_O := zv_lim (zv_cs zv_prog d) mc1_holds 107 [some (zv_r a0), some (zv_j a1), none, some (zv_i a3), some (zv_i a4), none, none, none, none] [] h
noncomputable def L1_holds_108 (d : Nat) (a0 : Nat) (a1 : Int64) (a3 : Int) (a4 : Int) (e0 : Int) (h : zv_H) : zv_O := zv_lim (zv_cs zv_prog d) mc1_holds 108 [some (zv_r a0), some (zv_j a1), none, some (zv_i a3), some (zv_i a4), none, none, none, none] [zv_i e0] h
noncomputable def L1_holds_181 (d : Nat) (a0 : Nat) (a1 : Int64) (a3 : Int) (e0 : Int) (h : zv_H) : zv_O := zv_lim (zv_cs zv_prog d) mc1_holds 181 [some (zv_r a0), some (zv_j a1), none, some (zv_i a3), none, none, none, none, none] [zv_i e0] h
noncomputable def L1_holds_204 (d : Nat) (a1 : Int64) (h : zv_H) : zv_O := zv_lim (zv_cs zv_prog d) mc1_holds 204 [none, some (zv_j a1), none, none, none, none, none, none, none] [] h
noncomputable def C2_init (d : Nat) (a0 : Nat) (h : zv_H) := (zv_cs zv_prog d).1 62 [zv_r a0] h
noncomputable def E2_init (d : Nat) (a0 : Nat) (h : zv_H) : zv_O := zv_lim (zv_cs zv_prog d) mc2_init 0 [some (zv_r a0)] [] h
noncomputable def C2_indexOf (d : Nat) (a0 : Nat) (a1 : Int) (h : zv_H) := (zv_cs zv_prog d).2.1 63 [zv_r a0, zv_i a1] h
noncomputable def E2_indexOf (d : Nat) (a0 : Nat) (a1 : Int) (h : zv_H) : zv_O := zv_lim (zv_cs zv_prog d) mc2_indexOf 0 [some (zv_r a0), some (zv_i a1), none] [] h
noncomputable def L2_indexOf_2 (d : Nat) (a0 : Nat) (a1 : Int) (a2 : Int) (h : zv_H) : zv_O := zv_lim (zv_cs zv_prog d) mc2_indexOf 2 [some (zv_r a0), some (zv_i a1), some (zv_i a2)] [] h
noncomputable def C2_keyAt (d : Nat) (a0 : Nat) (a1 : Int) (h : zv_H) := (zv_cs zv_prog d).2.1 64 [zv_r a0, zv_i a1] h
noncomputable def E2_keyAt (d : Nat) (a0 : Nat) (a1 : Int) (h : zv_H) : zv_O := zv_lim (zv_cs zv_prog d) mc2_keyAt 0 [some (zv_r a0), some (zv_i a1)] [] h
noncomputable def C2_ownerAt (d : Nat) (a0 : Nat) (a1 : Int) (h : zv_H) := (zv_cs zv_prog d).2.1 65 [zv_r a0, zv_i a1] h
noncomputable def E2_ownerAt (d : Nat) (a0 : Nat) (a1 : Int) (h : zv_H) : zv_O := zv_lim (zv_cs zv_prog d) mc2_ownerAt 0 [some (zv_r a0), some (zv_i a1)] [] h
noncomputable def C2_countOf (d : Nat) (a0 : Nat) (a1 : Int) (h : zv_H) := (zv_cs zv_prog d).2.1 66 [zv_r a0, zv_i a1] h
noncomputable def E2_countOf (d : Nat) (a0 : Nat) (a1 : Int) (h : zv_H) : zv_O := zv_lim (zv_cs zv_prog d) mc2_countOf 0 [some (zv_r a0), some (zv_i a1), none, none] [] h
noncomputable def L2_countOf_4 (d : Nat) (a0 : Nat) (a1 : Int) (a2 : Int) (a3 : Int) (h : zv_H) : zv_O := zv_lim (zv_cs zv_prog d) mc2_countOf 4 [some (zv_r a0), some (zv_i a1), some (zv_i a2), some (zv_i a3)] [] h
noncomputable def C2_own (d : Nat) (a0 : Nat) (a1 : Int) (a2 : Int) (h : zv_H) := (zv_cs zv_prog d).1 67 [zv_r a0, zv_i a1, zv_i a2] h
noncomputable def E2_own (d : Nat) (a0 : Nat) (a1 : Int) (a2 : Int) (h : zv_H) : zv_O := zv_lim (zv_cs zv_prog d) mc2_own 0 [some (zv_r a0), some (zv_i a1), some (zv_i a2), none] [] h
noncomputable def L2_own_16 (d : Nat) (a0 : Nat) (a1 : Int) (a2 : Int) (a3 : Int) (h : zv_H) : zv_O := zv_lim (zv_cs zv_prog d) mc2_own 16 [some (zv_r a0), some (zv_i a1), some (zv_i a2), some (zv_i a3)] [] h
noncomputable def C2_drop (d : Nat) (a0 : Nat) (a1 : Int) (h : zv_H) := (zv_cs zv_prog d).1 68 [zv_r a0, zv_i a1] h
noncomputable def E2_drop (d : Nat) (a0 : Nat) (a1 : Int) (h : zv_H) : zv_O := zv_lim (zv_cs zv_prog d) mc2_drop 0 [some (zv_r a0), some (zv_i a1), none] [] h
noncomputable def L2_drop_6 (d : Nat) (a0 : Nat) (a2 : Int) (h : zv_H) : zv_O := zv_lim (zv_cs zv_prog d) mc2_drop 6 [some (zv_r a0), none, some (zv_i a2)] [] h
noncomputable def L2_drop_58 (d : Nat) (a0 : Nat) (h : zv_H) : zv_O := zv_lim (zv_cs zv_prog d) mc2_drop 58 [some (zv_r a0), none, none] [] h
noncomputable def C3_init (d : Nat) (a0 : Nat) (h : zv_H) := (zv_cs zv_prog d).1 69 [zv_r a0] h
noncomputable def E3_init (d : Nat) (a0 : Nat) (h : zv_H) : zv_O := zv_lim (zv_cs zv_prog d) mc3_init 0 [some (zv_r a0)] [] h
noncomputable def C3_addByte (d : Nat) (a0 : Nat) (a1 : Int) (h : zv_H) := (zv_cs zv_prog d).1 70 [zv_r a0, zv_i a1] h
noncomputable def E3_addByte (d : Nat) (a0 : Nat) (a1 : Int) (h : zv_H) : zv_O := zv_lim (zv_cs zv_prog d) mc3_addByte 0 [some (zv_r a0), some (zv_i a1)] [] h
noncomputable def C3_byteAt (d : Nat) (a0 : Nat) (a1 : Int) (h : zv_H) := (zv_cs zv_prog d).2.1 71 [zv_r a0, zv_i a1] h
noncomputable def E3_byteAt (d : Nat) (a0 : Nat) (a1 : Int) (h : zv_H) : zv_O := zv_lim (zv_cs zv_prog d) mc3_byteAt 0 [some (zv_r a0), some (zv_i a1)] [] h
noncomputable def C3_fail (d : Nat) (a0 : Nat) (a1 : Int) (h : zv_H) := (zv_cs zv_prog d).2.1 72 [zv_r a0, zv_i a1] h
noncomputable def E3_fail (d : Nat) (a0 : Nat) (a1 : Int) (h : zv_H) : zv_O := zv_lim (zv_cs zv_prog d) mc3_fail 0 [some (zv_r a0), some (zv_i a1)] [] h
noncomputable def C3_more (d : Nat) (a0 : Nat) (h : zv_H) := (zv_cs zv_prog d).2.1 73 [zv_r a0] h
noncomputable def E3_more (d : Nat) (a0 : Nat) (h : zv_H) : zv_O := zv_lim (zv_cs zv_prog d) mc3_more 0 [some (zv_r a0)] [] h
noncomputable def C3_begin (d : Nat) (a0 : Nat) (a1 : Int) (h : zv_H) := (zv_cs zv_prog d).1 74 [zv_r a0, zv_i a1] h
noncomputable def E3_begin (d : Nat) (a0 : Nat) (a1 : Int) (h : zv_H) : zv_O := zv_lim (zv_cs zv_prog d) mc3_begin 0 [some (zv_r a0), some (zv_i a1)] [] h
noncomputable def C3_next (d : Nat) (a0 : Nat) (h : zv_H) := (zv_cs zv_prog d).2.1 75 [zv_r a0] h
noncomputable def E3_next (d : Nat) (a0 : Nat) (h : zv_H) : zv_O := zv_lim (zv_cs zv_prog d) mc3_next 0 [some (zv_r a0)] [] h
noncomputable def L3_next_8 (d : Nat) (a0 : Nat) (h : zv_H) : zv_O := zv_lim (zv_cs zv_prog d) mc3_next 8 [some (zv_r a0)] [] h
noncomputable def L3_next_58 (d : Nat) (a0 : Nat) (h : zv_H) : zv_O := zv_lim (zv_cs zv_prog d) mc3_next 58 [some (zv_r a0)] [] h
noncomputable def L3_next_108 (d : Nat) (a0 : Nat) (h : zv_H) : zv_O := zv_lim (zv_cs zv_prog d) mc3_next 108 [some (zv_r a0)] [] h
noncomputable def L3_next_168 (d : Nat) (a0 : Nat) (h : zv_H) : zv_O := zv_lim (zv_cs zv_prog d) mc3_next 168 [some (zv_r a0)] [] h
noncomputable def L3_next_242 (d : Nat) (a0 : Nat) (h : zv_H) : zv_O := zv_lim (zv_cs zv_prog d) mc3_next 242 [some (zv_r a0)] [] h
noncomputable def L3_next_302 (d : Nat) (a0 : Nat) (h : zv_H) : zv_O := zv_lim (zv_cs zv_prog d) mc3_next 302 [some (zv_r a0)] [] h
noncomputable def C3_isSmall (d : Nat) (a0 : Int) (h : zv_H) := (zv_cs zv_prog d).2.1 76 [zv_i a0] h
noncomputable def E3_isSmall (d : Nat) (a0 : Int) (h : zv_H) : zv_O := zv_lim (zv_cs zv_prog d) mc3_isSmall 0 [some (zv_i a0)] [] h
noncomputable def C3_isDigit (d : Nat) (a0 : Int) (h : zv_H) := (zv_cs zv_prog d).2.1 77 [zv_i a0] h
noncomputable def E3_isDigit (d : Nat) (a0 : Int) (h : zv_H) : zv_O := zv_lim (zv_cs zv_prog d) mc3_isDigit 0 [some (zv_i a0)] [] h
noncomputable def C3_is (d : Nat) (a0 : Nat) (a1 : Nat) (h : zv_H) := (zv_cs zv_prog d).2.1 78 [zv_r a0, zv_r a1] h
noncomputable def E3_is (d : Nat) (a0 : Nat) (a1 : Nat) (h : zv_H) : zv_O := zv_lim (zv_cs zv_prog d) mc3_is 0 [some (zv_r a0), some (zv_r a1), none] [] h
noncomputable def L3_is_28 (d : Nat) (a0 : Nat) (a1 : Nat) (a2 : Int) (h : zv_H) : zv_O := zv_lim (zv_cs zv_prog d) mc3_is 28 [some (zv_r a0), some (zv_r a1), some (zv_i a2)] [] h
noncomputable def C3_isSign (d : Nat) (a0 : Nat) (a1 : Int) (h : zv_H) := (zv_cs zv_prog d).2.1 79 [zv_r a0, zv_i a1] h
noncomputable def E3_isSign (d : Nat) (a0 : Nat) (a1 : Int) (h : zv_H) : zv_O := zv_lim (zv_cs zv_prog d) mc3_isSign 0 [some (zv_r a0), some (zv_i a1)] [] h
noncomputable def C3_head (d : Nat) (a0 : Nat) (a1 : Nat) (h : zv_H) := (zv_cs zv_prog d).1 80 [zv_r a0, zv_r a1] h
noncomputable def E3_head (d : Nat) (a0 : Nat) (a1 : Nat) (h : zv_H) : zv_O := zv_lim (zv_cs zv_prog d) mc3_head 0 [some (zv_r a0), some (zv_r a1)] [] h
noncomputable def L3_head_52 (d : Nat) (a0 : Nat) (a1 : Nat) (h : zv_H) : zv_O := zv_lim (zv_cs zv_prog d) mc3_head 52 [some (zv_r a0), some (zv_r a1)] [] h
noncomputable def C3_closed (d : Nat) (a0 : Nat) (h : zv_H) := (zv_cs zv_prog d).2.1 81 [zv_r a0] h
noncomputable def E3_closed (d : Nat) (a0 : Nat) (h : zv_H) : zv_O := zv_lim (zv_cs zv_prog d) mc3_closed 0 [some (zv_r a0)] [] h
noncomputable def C3_spelled (d : Nat) (a0 : Nat) (a1 : Int) (h : zv_H) := (zv_cs zv_prog d).2.1 82 [zv_r a0, zv_i a1] h
noncomputable def E3_spelled (d : Nat) (a0 : Nat) (a1 : Int) (h : zv_H) : zv_O := zv_lim (zv_cs zv_prog d) mc3_spelled 0 [some (zv_r a0), some (zv_i a1), none] [] h
noncomputable def L3_spelled_45 (d : Nat) (a0 : Nat) (a2 : Int) (h : zv_H) : zv_O := zv_lim (zv_cs zv_prog d) mc3_spelled 45 [some (zv_r a0), none, some (zv_i a2)] [] h
noncomputable def C3_test (d : Nat) (a0 : Nat) (a1 : Nat) (a2 : Int) (h : zv_H) := (zv_cs zv_prog d).2.1 83 [zv_r a0, zv_r a1, zv_i a2] h
noncomputable def E3_test (d : Nat) (a0 : Nat) (a1 : Nat) (a2 : Int) (h : zv_H) : zv_O := zv_lim (zv_cs zv_prog d) mc3_test 0 [some (zv_r a0), some (zv_r a1), some (zv_i a2), none, none] [] h
noncomputable def L3_test_10 (d : Nat) (a0 : Nat) (a1 : Nat) (a2 : Int) (a3 : Int) (a4 : Int) (h : zv_H) : zv_O := zv_lim (zv_cs zv_prog d) mc3_test 10 [some (zv_r a0), some (zv_r a1), some (zv_i a2), some (zv_i a3), some (zv_i a4)] [] h
noncomputable def L3_test_51 (d : Nat) (a0 : Nat) (a1 : Nat) (a2 : Int) (a4 : Int) (h : zv_H) : zv_O := zv_lim (zv_cs zv_prog d) mc3_test 51 [some (zv_r a0), some (zv_r a1), some (zv_i a2), none, some (zv_i a4)] [] h
noncomputable def L3_test_52 (d : Nat) (a0 : Nat) (a1 : Nat) (a2 : Int) (a4 : Int) (e0 : Int) (h : zv_H) : zv_O := zv_lim (zv_cs zv_prog d) mc3_test 52 [some (zv_r a0), some (zv_r a1), some (zv_i a2), none, some (zv_i a4)] [zv_i e0] h
noncomputable def C3_side (d : Nat) (a0 : Nat) (a1 : Nat) (a2 : Int) (h : zv_H) := (zv_cs zv_prog d).2.1 84 [zv_r a0, zv_r a1, zv_i a2] h
noncomputable def E3_side (d : Nat) (a0 : Nat) (a1 : Nat) (a2 : Int) (h : zv_H) : zv_O := zv_lim (zv_cs zv_prog d) mc3_side 0 [some (zv_r a0), some (zv_r a1), some (zv_i a2), none, none] [] h
noncomputable def L3_side_10 (d : Nat) (a0 : Nat) (a1 : Nat) (a2 : Int) (a3 : Int) (a4 : Int) (h : zv_H) : zv_O := zv_lim (zv_cs zv_prog d) mc3_side 10 [some (zv_r a0), some (zv_r a1), some (zv_i a2), some (zv_i a3), some (zv_i a4)] [] h
noncomputable def L3_side_51 (d : Nat) (a0 : Nat) (a1 : Nat) (a2 : Int) (a4 : Int) (h : zv_H) : zv_O := zv_lim (zv_cs zv_prog d) mc3_side 51 [some (zv_r a0), some (zv_r a1), some (zv_i a2), none, some (zv_i a4)] [] h
noncomputable def L3_side_52 (d : Nat) (a0 : Nat) (a1 : Nat) (a2 : Int) (a4 : Int) (e0 : Int) (h : zv_H) : zv_O := zv_lim (zv_cs zv_prog d) mc3_side 52 [some (zv_r a0), some (zv_r a1), some (zv_i a2), none, some (zv_i a4)] [zv_i e0] h
noncomputable def C3_fact (d : Nat) (a0 : Nat) (a1 : Nat) (a2 : Int) (h : zv_H) := (zv_cs zv_prog d).2.1 85 [zv_r a0, zv_r a1, zv_i a2] h
noncomputable def E3_fact (d : Nat) (a0 : Nat) (a1 : Nat) (a2 : Int) (h : zv_H) : zv_O := zv_lim (zv_cs zv_prog d) mc3_fact 0 [some (zv_r a0), some (zv_r a1), some (zv_i a2), none, none] [] h
noncomputable def L3_fact_30 (d : Nat) (a0 : Nat) (a1 : Nat) (a2 : Int) (a3 : Int) (h : zv_H) : zv_O := zv_lim (zv_cs zv_prog d) mc3_fact 30 [some (zv_r a0), some (zv_r a1), some (zv_i a2), some (zv_i a3), none] [] h
noncomputable def C3_comparison (d : Nat) (a0 : Nat) (a1 : Nat) (a2 : Int) (h : zv_H) := (zv_cs zv_prog d).2.1 86 [zv_r a0, zv_r a1, zv_i a2] h
noncomputable def E3_comparison (d : Nat) (a0 : Nat) (a1 : Nat) (a2 : Int) (h : zv_H) : zv_O := zv_lim (zv_cs zv_prog d) mc3_comparison 0 [some (zv_r a0), some (zv_r a1), some (zv_i a2), none] [] h
noncomputable def L3_comparison_46 (d : Nat) (a0 : Nat) (h : zv_H) : zv_O := zv_lim (zv_cs zv_prog d) mc3_comparison 46 [some (zv_r a0), none, none, none] [] h
noncomputable def C3_asked (d : Nat) (a0 : Nat) (h : zv_H) := (zv_cs zv_prog d).2.1 87 [zv_r a0] h
noncomputable def E3_asked (d : Nat) (a0 : Nat) (h : zv_H) : zv_O := zv_lim (zv_cs zv_prog d) mc3_asked 0 [some (zv_r a0)] [] h
noncomputable def C3_line (d : Nat) (a0 : Nat) (h : zv_H) := (zv_cs zv_prog d).2.1 88 [zv_r a0] h
noncomputable def E3_line (d : Nat) (a0 : Nat) (h : zv_H) : zv_O := zv_lim (zv_cs zv_prog d) mc3_line 0 [some (zv_r a0), none] [] h
noncomputable def L3_line_84 (d : Nat) (a0 : Nat) (e0 : Int) (h : zv_H) : zv_O := zv_lim (zv_cs zv_prog d) mc3_line 84 [some (zv_r a0), none] [zv_i e0] h
noncomputable def L3_line_85 (d : Nat) (a0 : Nat) (a1 : Int) (h : zv_H) : zv_O := zv_lim (zv_cs zv_prog d) mc3_line 85 [some (zv_r a0), some (zv_i a1)] [] h
noncomputable def L3_line_125 (d : Nat) (a0 : Nat) (e0 : Int) (h : zv_H) : zv_O := zv_lim (zv_cs zv_prog d) mc3_line 125 [some (zv_r a0), none] [zv_i e0] h
noncomputable def L3_line_126 (d : Nat) (a0 : Nat) (a1 : Int) (h : zv_H) : zv_O := zv_lim (zv_cs zv_prog d) mc3_line 126 [some (zv_r a0), some (zv_i a1)] [] h
noncomputable def L3_line_144 (d : Nat) (a0 : Nat) (a1 : Int) (h : zv_H) : zv_O := zv_lim (zv_cs zv_prog d) mc3_line 144 [some (zv_r a0), some (zv_i a1)] [] h
noncomputable def L3_line_164 (d : Nat) (a0 : Nat) (a1 : Int) (h : zv_H) : zv_O := zv_lim (zv_cs zv_prog d) mc3_line 164 [some (zv_r a0), some (zv_i a1)] [] h
noncomputable def C3_verbHere (d : Nat) (a0 : Nat) (h : zv_H) := (zv_cs zv_prog d).2.1 89 [zv_r a0] h
noncomputable def E3_verbHere (d : Nat) (a0 : Nat) (h : zv_H) : zv_O := zv_lim (zv_cs zv_prog d) mc3_verbHere 0 [some (zv_r a0)] [] h
noncomputable def C4_init (d : Nat) (a0 : Nat) (h : zv_H) := (zv_cs zv_prog d).1 90 [zv_r a0] h
noncomputable def E4_init (d : Nat) (a0 : Nat) (h : zv_H) : zv_O := zv_lim (zv_cs zv_prog d) mc4_init 0 [some (zv_r a0)] [] h
noncomputable def C4_id (d : Nat) (a0 : Int) (a1 : Int) (h : zv_H) := (zv_cs zv_prog d).2.1 91 [zv_i a0, zv_i a1] h
noncomputable def E4_id (d : Nat) (a0 : Int) (a1 : Int) (h : zv_H) : zv_O := zv_lim (zv_cs zv_prog d) mc4_id 0 [some (zv_i a0), some (zv_i a1)] [] h
noncomputable def C4_putter (d : Nat) (a0 : Int) (h : zv_H) := (zv_cs zv_prog d).2.1 92 [zv_i a0] h
noncomputable def E4_putter (d : Nat) (a0 : Int) (h : zv_H) : zv_O := zv_lim (zv_cs zv_prog d) mc4_putter 0 [some (zv_i a0)] [] h
noncomputable def C4_order (d : Nat) (a0 : Int) (h : zv_H) := (zv_cs zv_prog d).2.1 93 [zv_i a0] h
noncomputable def E4_order (d : Nat) (a0 : Int) (h : zv_H) : zv_O := zv_lim (zv_cs zv_prog d) mc4_order 0 [some (zv_i a0)] [] h
noncomputable def C4_isId (d : Nat) (a0 : Int) (h : zv_H) := (zv_cs zv_prog d).2.1 94 [zv_i a0] h
noncomputable def E4_isId (d : Nat) (a0 : Int) (h : zv_H) : zv_O := zv_lim (zv_cs zv_prog d) mc4_isId 0 [some (zv_i a0)] [] h
noncomputable def C4_lay (d : Nat) (a0 : Nat) (a1 : Nat) (h : zv_H) := (zv_cs zv_prog d).1 95 [zv_r a0, zv_r a1] h
noncomputable def E4_lay (d : Nat) (a0 : Nat) (a1 : Nat) (h : zv_H) : zv_O := zv_lim (zv_cs zv_prog d) mc4_lay 0 [some (zv_r a0), some (zv_r a1), none, none] [] h
noncomputable def L4_lay_16 (d : Nat) (a0 : Nat) (a2 : Int) (h : zv_H) : zv_O := zv_lim (zv_cs zv_prog d) mc4_lay 16 [some (zv_r a0), none, some (zv_i a2), none] [] h
noncomputable def L4_lay_77 (d : Nat) (a0 : Nat) (a2 : Int) (a3 : Int) (h : zv_H) : zv_O := zv_lim (zv_cs zv_prog d) mc4_lay 77 [some (zv_r a0), none, some (zv_i a2), some (zv_i a3)] [] h
noncomputable def L4_lay_118 (d : Nat) (a0 : Nat) (h : zv_H) : zv_O := zv_lim (zv_cs zv_prog d) mc4_lay 118 [some (zv_r a0), none, none, none] [] h
noncomputable def C4_walk (d : Nat) (a0 : Nat) (a1 : Nat) (h : zv_H) := (zv_cs zv_prog d).1 96 [zv_r a0, zv_r a1] h
noncomputable def E4_walk (d : Nat) (a0 : Nat) (a1 : Nat) (h : zv_H) : zv_O := zv_lim (zv_cs zv_prog d) mc4_walk 0 [some (zv_r a0), some (zv_r a1), none, none, none, none, none] [] h
noncomputable def L4_walk_28 (d : Nat) (a0 : Nat) (a2 : Int64) (a4 : Int64) (a6 : Nat) (h : zv_H) : zv_O := zv_lim (zv_cs zv_prog d) mc4_walk 28 [some (zv_r a0), none, some (zv_j a2), none, some (zv_j a4), none, some (zv_r a6)] [] h
noncomputable def L4_walk_63 (d : Nat) (a0 : Nat) (a2 : Int64) (a4 : Int64) (a6 : Nat) (h : zv_H) : zv_O := zv_lim (zv_cs zv_prog d) mc4_walk 63 [some (zv_r a0), none, some (zv_j a2), none, some (zv_j a4), none, some (zv_r a6)] [] h
noncomputable def L4_walk_85 (d : Nat) (a0 : Nat) (a2 : Int64) (a4 : Int64) (a6 : Nat) (h : zv_H) : zv_O := zv_lim (zv_cs zv_prog d) mc4_walk 85 [some (zv_r a0), none, some (zv_j a2), none, some (zv_j a4), none, some (zv_r a6)] [] h
noncomputable def C4_link (d : Nat) (a0 : Nat) (a1 : Nat) (h : zv_H) := (zv_cs zv_prog d).1 97 [zv_r a0, zv_r a1] h
noncomputable def E4_link (d : Nat) (a0 : Nat) (a1 : Nat) (h : zv_H) : zv_O := zv_lim (zv_cs zv_prog d) mc4_link 0 [some (zv_r a0), some (zv_r a1), none, none, none, none] [] h
noncomputable def L4_link_31 (d : Nat) (a0 : Nat) (a1 : Nat) (a2 : Int) (a3 : Int) (a4 : Int) (h : zv_H) : zv_O := zv_lim (zv_cs zv_prog d) mc4_link 31 [some (zv_r a0), some (zv_r a1), some (zv_i a2), some (zv_i a3), some (zv_i a4), none] [] h
noncomputable def C4_look (d : Nat) (a0 : Nat) (a1 : Int64) (h : zv_H) := (zv_cs zv_prog d).1 98 [zv_r a0, zv_j a1] h
noncomputable def E4_look (d : Nat) (a0 : Nat) (a1 : Int64) (h : zv_H) : zv_O := zv_lim (zv_cs zv_prog d) mc4_look 0 [some (zv_r a0), some (zv_j a1), none, none, none, none, none] [] h
noncomputable def L4_look_2 (d : Nat) (a0 : Nat) (a1 : Int64) (a3 : Int) (h : zv_H) : zv_O := zv_lim (zv_cs zv_prog d) mc4_look 2 [some (zv_r a0), some (zv_j a1), none, some (zv_i a3), none, none, none] [] h
noncomputable def L4_look_24 (d : Nat) (a0 : Nat) (a1 : Int64) (a3 : Int) (h : zv_H) : zv_O := zv_lim (zv_cs zv_prog d) mc4_look 24 [some (zv_r a0), some (zv_j a1), none, some (zv_i a3), none, none, none] [] h
noncomputable def L4_look_43 (d : Nat) (a0 : Nat) (a1 : Int64) (a3 : Int) (a4 : Nat) (a5 : Int) (h : zv_H) : zv_O := zv_lim (zv_cs zv_prog d) mc4_look 43 [some (zv_r a0), some (zv_j a1), none, some (zv_i a3), some (zv_r a4), some (zv_i a5), none] [] h
noncomputable def L4_look_114 (d : Nat) (a0 : Nat) (a1 : Int64) (a3 : Int) (h : zv_H) : zv_O := zv_lim (zv_cs zv_prog d) mc4_look 114 [some (zv_r a0), some (zv_j a1), none, some (zv_i a3), none, none, none] [] h
noncomputable def L4_look_183 (d : Nat) (a0 : Nat) (a1 : Int64) (a3 : Int) (e0 : Nat) (e1 : Int) (h : zv_H) : zv_O := zv_lim (zv_cs zv_prog d) mc4_look 183 [some (zv_r a0), some (zv_j a1), none, some (zv_i a3), none, none, none] [zv_i e1, zv_r e0] h
noncomputable def L4_look_187 (d : Nat) (a0 : Nat) (a1 : Int64) (a3 : Int) (e0 : Nat) (e1 : Int) (h : zv_H) : zv_O := zv_lim (zv_cs zv_prog d) mc4_look 187 [some (zv_r a0), some (zv_j a1), none, some (zv_i a3), none, none, none] [zv_i e1, zv_r e0] h
noncomputable def L4_look_188 (d : Nat) (a0 : Nat) (a1 : Int64) (a3 : Int) (e0 : Nat) (e1 : Int) (e2 : Int) (h : zv_H) : zv_O := zv_lim (zv_cs zv_prog d) mc4_look 188 [some (zv_r a0), some (zv_j a1), none, some (zv_i a3), none, none, none] [zv_i e2, zv_i e1, zv_r e0] h
noncomputable def C4_numberAt (d : Nat) (a0 : Nat) (a1 : Int) (h : zv_H) := (zv_cs zv_prog d).2.1 99 [zv_r a0, zv_i a1] h
noncomputable def E4_numberAt (d : Nat) (a0 : Nat) (a1 : Int) (h : zv_H) : zv_O := zv_lim (zv_cs zv_prog d) mc4_numberAt 0 [some (zv_r a0), some (zv_i a1)] [] h
noncomputable def C4_idAt (d : Nat) (a0 : Nat) (a1 : Int) (h : zv_H) := (zv_cs zv_prog d).2.1 100 [zv_r a0, zv_i a1] h
noncomputable def E4_idAt (d : Nat) (a0 : Nat) (a1 : Int) (h : zv_H) : zv_O := zv_lim (zv_cs zv_prog d) mc4_idAt 0 [some (zv_r a0), some (zv_i a1)] [] h
noncomputable def C4_seesAt (d : Nat) (a0 : Nat) (a1 : Int) (h : zv_H) := (zv_cs zv_prog d).2.1 101 [zv_r a0, zv_i a1] h
noncomputable def E4_seesAt (d : Nat) (a0 : Nat) (a1 : Int) (h : zv_H) : zv_O := zv_lim (zv_cs zv_prog d) mc4_seesAt 0 [some (zv_r a0), some (zv_i a1)] [] h
noncomputable def C4_placeOf (d : Nat) (a0 : Nat) (a1 : Int) (h : zv_H) := (zv_cs zv_prog d).2.1 102 [zv_r a0, zv_i a1] h
noncomputable def E4_placeOf (d : Nat) (a0 : Nat) (a1 : Int) (h : zv_H) : zv_O := zv_lim (zv_cs zv_prog d) mc4_placeOf 0 [some (zv_r a0), some (zv_i a1), none] [] h
noncomputable def L4_placeOf_2 (d : Nat) (a0 : Nat) (a1 : Int) (a2 : Int) (h : zv_H) : zv_O := zv_lim (zv_cs zv_prog d) mc4_placeOf 2 [some (zv_r a0), some (zv_i a1), some (zv_i a2)] [] h
noncomputable def C4_seenUpTo (d : Nat) (a0 : Nat) (a1 : Int) (h : zv_H) := (zv_cs zv_prog d).2.1 103 [zv_r a0, zv_i a1] h
noncomputable def E4_seenUpTo (d : Nat) (a0 : Nat) (a1 : Int) (h : zv_H) : zv_O := zv_lim (zv_cs zv_prog d) mc4_seenUpTo 0 [some (zv_r a0), some (zv_i a1), none, none, none] [] h
noncomputable def L4_seenUpTo_18 (d : Nat) (a0 : Nat) (a2 : Int) (a3 : Int) (a4 : Int) (h : zv_H) : zv_O := zv_lim (zv_cs zv_prog d) mc4_seenUpTo 18 [some (zv_r a0), none, some (zv_i a2), some (zv_i a3), some (zv_i a4)] [] h
noncomputable def C4_outOfForce (d : Nat) (a0 : Nat) (h : zv_H) := (zv_cs zv_prog d).2.2.1 104 [zv_r a0] h
noncomputable def E4_outOfForce (d : Nat) (a0 : Nat) (h : zv_H) : zv_O := zv_lim (zv_cs zv_prog d) mc4_outOfForce 0 [some (zv_r a0)] [] h
noncomputable def C4_cutsInForce (d : Nat) (a0 : Nat) (a1 : Int) (h : zv_H) := (zv_cs zv_prog d).2.1 105 [zv_r a0, zv_i a1] h
noncomputable def E4_cutsInForce (d : Nat) (a0 : Nat) (a1 : Int) (h : zv_H) : zv_O := zv_lim (zv_cs zv_prog d) mc4_cutsInForce 0 [some (zv_r a0), some (zv_i a1), none, none, none] [] h
noncomputable def L4_cutsInForce_4 (d : Nat) (a0 : Nat) (a1 : Int) (a2 : Int) (a3 : Int) (h : zv_H) : zv_O := zv_lim (zv_cs zv_prog d) mc4_cutsInForce 4 [some (zv_r a0), some (zv_i a1), some (zv_i a2), some (zv_i a3), none] [] h
noncomputable def C4_lastCut (d : Nat) (a0 : Nat) (a1 : Int) (h : zv_H) := (zv_cs zv_prog d).2.1 106 [zv_r a0, zv_i a1] h
noncomputable def E4_lastCut (d : Nat) (a0 : Nat) (a1 : Int) (h : zv_H) : zv_O := zv_lim (zv_cs zv_prog d) mc4_lastCut 0 [some (zv_r a0), some (zv_i a1), none] [] h
noncomputable def L4_lastCut_7 (d : Nat) (a0 : Nat) (a1 : Int) (a2 : Int) (h : zv_H) : zv_O := zv_lim (zv_cs zv_prog d) mc4_lastCut 7 [some (zv_r a0), some (zv_i a1), some (zv_i a2)] [] h
noncomputable def C4_leaningOn (d : Nat) (a0 : Nat) (a1 : Nat) (h : zv_H) := (zv_cs zv_prog d).2.2.1 107 [zv_r a0, zv_r a1] h
noncomputable def E4_leaningOn (d : Nat) (a0 : Nat) (a1 : Nat) (h : zv_H) : zv_O := zv_lim (zv_cs zv_prog d) mc4_leaningOn 0 [some (zv_r a0), some (zv_r a1), none, none, none, none] [] h
noncomputable def L4_leaningOn_8 (d : Nat) (a0 : Nat) (a1 : Nat) (a2 : Int64) (a4 : Int) (h : zv_H) : zv_O := zv_lim (zv_cs zv_prog d) mc4_leaningOn 8 [some (zv_r a0), some (zv_r a1), some (zv_j a2), none, some (zv_i a4), none] [] h
noncomputable def C4_groundOf (d : Nat) (a0 : Nat) (a1 : Nat) (h : zv_H) := (zv_cs zv_prog d).2.2.1 108 [zv_r a0, zv_r a1] h
noncomputable def E4_groundOf (d : Nat) (a0 : Nat) (a1 : Nat) (h : zv_H) : zv_O := zv_lim (zv_cs zv_prog d) mc4_groundOf 0 [some (zv_r a0), some (zv_r a1), none, none, none] [] h
noncomputable def L4_groundOf_8 (d : Nat) (a2 : Int64) (a4 : Nat) (h : zv_H) : zv_O := zv_lim (zv_cs zv_prog d) mc4_groundOf 8 [none, none, some (zv_j a2), none, some (zv_r a4)] [] h
noncomputable def C5_init (d : Nat) (a0 : Nat) (a1 : Int) (h : zv_H) := (zv_cs zv_prog d).1 109 [zv_r a0, zv_i a1] h
noncomputable def E5_init (d : Nat) (a0 : Nat) (a1 : Int) (h : zv_H) : zv_O := zv_lim (zv_cs zv_prog d) mc5_init 0 [some (zv_r a0), some (zv_i a1)] [] h
noncomputable def C5_open (d : Nat) (a0 : Nat) (a1 : Nat) (a2 : Int) (a3 : Int) (a4 : Int) (h : zv_H) := (zv_cs zv_prog d).1 110 [zv_r a0, zv_r a1, zv_i a2, zv_i a3, zv_i a4] h
noncomputable def E5_open (d : Nat) (a0 : Nat) (a1 : Nat) (a2 : Int) (a3 : Int) (a4 : Int) (h : zv_H) : zv_O := zv_lim (zv_cs zv_prog d) mc5_open 0 [some (zv_r a0), some (zv_r a1), some (zv_i a2), some (zv_i a3), some (zv_i a4)] [] h
noncomputable def L5_open_51 (d : Nat) (a0 : Nat) (e0 : Nat) (e1 : Int) (h : zv_H) : zv_O := zv_lim (zv_cs zv_prog d) mc5_open 51 [some (zv_r a0), none, none, none, none] [zv_i e1, zv_r e0] h
noncomputable def C5_bit (d : Nat) (a0 : Nat) (h : zv_H) := (zv_cs zv_prog d).2.2.1 111 [zv_r a0] h
noncomputable def E5_bit (d : Nat) (a0 : Nat) (h : zv_H) : zv_O := zv_lim (zv_cs zv_prog d) mc5_bit 0 [some (zv_r a0)] [] h
noncomputable def C5_edits (d : Nat) (a0 : Nat) (h : zv_H) := (zv_cs zv_prog d).2.1 112 [zv_r a0] h
noncomputable def E5_edits (d : Nat) (a0 : Nat) (h : zv_H) : zv_O := zv_lim (zv_cs zv_prog d) mc5_edits 0 [some (zv_r a0)] [] h
noncomputable def C5_brings (d : Nat) (a0 : Nat) (h : zv_H) := (zv_cs zv_prog d).2.1 113 [zv_r a0] h
noncomputable def E5_brings (d : Nat) (a0 : Nat) (h : zv_H) : zv_O := zv_lim (zv_cs zv_prog d) mc5_brings 0 [some (zv_r a0)] [] h
noncomputable def C5_idAt (d : Nat) (a0 : Nat) (a1 : Int) (h : zv_H) := (zv_cs zv_prog d).2.1 114 [zv_r a0, zv_i a1] h
noncomputable def E5_idAt (d : Nat) (a0 : Nat) (a1 : Int) (h : zv_H) : zv_O := zv_lim (zv_cs zv_prog d) mc5_idAt 0 [some (zv_r a0), some (zv_i a1)] [] h
noncomputable def C5_addId (d : Nat) (a0 : Nat) (a1 : Int) (h : zv_H) := (zv_cs zv_prog d).1 115 [zv_r a0, zv_i a1] h
noncomputable def E5_addId (d : Nat) (a0 : Nat) (a1 : Int) (h : zv_H) : zv_O := zv_lim (zv_cs zv_prog d) mc5_addId 0 [some (zv_r a0), some (zv_i a1)] [] h
noncomputable def C5_tookAt (d : Nat) (a0 : Nat) (a1 : Int) (h : zv_H) := (zv_cs zv_prog d).2.1 116 [zv_r a0, zv_i a1] h
noncomputable def E5_tookAt (d : Nat) (a0 : Nat) (a1 : Int) (h : zv_H) : zv_O := zv_lim (zv_cs zv_prog d) mc5_tookAt 0 [some (zv_r a0), some (zv_i a1)] [] h
noncomputable def C5_tookIt (d : Nat) (a0 : Nat) (a1 : Int) (h : zv_H) := (zv_cs zv_prog d).2.1 117 [zv_r a0, zv_i a1] h
noncomputable def E5_tookIt (d : Nat) (a0 : Nat) (a1 : Int) (h : zv_H) : zv_O := zv_lim (zv_cs zv_prog d) mc5_tookIt 0 [some (zv_r a0), some (zv_i a1), none] [] h
noncomputable def L5_tookIt_2 (d : Nat) (a0 : Nat) (a1 : Int) (a2 : Int) (h : zv_H) : zv_O := zv_lim (zv_cs zv_prog d) mc5_tookIt 2 [some (zv_r a0), some (zv_i a1), some (zv_i a2)] [] h
noncomputable def C6_init (d : Nat) (a0 : Nat) (h : zv_H) := (zv_cs zv_prog d).1 118 [zv_r a0] h
noncomputable def E6_init (d : Nat) (a0 : Nat) (h : zv_H) : zv_O := zv_lim (zv_cs zv_prog d) mc6_init 0 [some (zv_r a0)] [] h
noncomputable def C6_add (d : Nat) (a0 : Nat) (a1 : Nat) (a2 : Int) (h : zv_H) := (zv_cs zv_prog d).1 119 [zv_r a0, zv_r a1, zv_i a2] h
noncomputable def E6_add (d : Nat) (a0 : Nat) (a1 : Nat) (a2 : Int) (h : zv_H) : zv_O := zv_lim (zv_cs zv_prog d) mc6_add 0 [some (zv_r a0), some (zv_r a1), some (zv_i a2), none] [] h
noncomputable def C6_slot (d : Nat) (a0 : Nat) (a1 : Int) (h : zv_H) := (zv_cs zv_prog d).2.1 120 [zv_r a0, zv_i a1] h
noncomputable def E6_slot (d : Nat) (a0 : Nat) (a1 : Int) (h : zv_H) : zv_O := zv_lim (zv_cs zv_prog d) mc6_slot 0 [some (zv_r a0), some (zv_i a1)] [] h
noncomputable def C6_stateAt (d : Nat) (a0 : Nat) (a1 : Int) (h : zv_H) := (zv_cs zv_prog d).2.1 121 [zv_r a0, zv_i a1] h
noncomputable def E6_stateAt (d : Nat) (a0 : Nat) (a1 : Int) (h : zv_H) : zv_O := zv_lim (zv_cs zv_prog d) mc6_stateAt 0 [some (zv_r a0), some (zv_i a1), none] [] h
noncomputable def C6_timeAt (d : Nat) (a0 : Nat) (a1 : Int) (h : zv_H) := (zv_cs zv_prog d).2.1 122 [zv_r a0, zv_i a1] h
noncomputable def E6_timeAt (d : Nat) (a0 : Nat) (a1 : Int) (h : zv_H) : zv_O := zv_lim (zv_cs zv_prog d) mc6_timeAt 0 [some (zv_r a0), some (zv_i a1), none] [] h
noncomputable def C6_forget (d : Nat) (a0 : Nat) (a1 : Int) (h : zv_H) := (zv_cs zv_prog d).1 123 [zv_r a0, zv_i a1] h
noncomputable def E6_forget (d : Nat) (a0 : Nat) (a1 : Int) (h : zv_H) : zv_O := zv_lim (zv_cs zv_prog d) mc6_forget 0 [some (zv_r a0), some (zv_i a1), none] [] h
noncomputable def L6_forget_2 (d : Nat) (a0 : Nat) (a1 : Int) (a2 : Int) (h : zv_H) : zv_O := zv_lim (zv_cs zv_prog d) mc6_forget 2 [some (zv_r a0), some (zv_i a1), some (zv_i a2)] [] h
noncomputable def C6_keep (d : Nat) (a0 : Nat) (h : zv_H) := (zv_cs zv_prog d).1 124 [zv_r a0] h
noncomputable def E6_keep (d : Nat) (a0 : Nat) (h : zv_H) : zv_O := zv_lim (zv_cs zv_prog d) mc6_keep 0 [some (zv_r a0)] [] h
noncomputable def C6_giveBack (d : Nat) (a0 : Nat) (h : zv_H) := (zv_cs zv_prog d).1 125 [zv_r a0] h
noncomputable def E6_giveBack (d : Nat) (a0 : Nat) (h : zv_H) : zv_O := zv_lim (zv_cs zv_prog d) mc6_giveBack 0 [some (zv_r a0)] [] h
noncomputable def C7_init (d : Nat) (a0 : Nat) (h : zv_H) := (zv_cs zv_prog d).1 126 [zv_r a0] h
noncomputable def E7_init (d : Nat) (a0 : Nat) (h : zv_H) : zv_O := zv_lim (zv_cs zv_prog d) mc7_init 0 [some (zv_r a0)] [] h
noncomputable def C7_clear (d : Nat) (a0 : Nat) (h : zv_H) := (zv_cs zv_prog d).1 127 [zv_r a0] h
noncomputable def E7_clear (d : Nat) (a0 : Nat) (h : zv_H) : zv_O := zv_lim (zv_cs zv_prog d) mc7_clear 0 [some (zv_r a0)] [] h
noncomputable def C7_add (d : Nat) (a0 : Nat) (a1 : Int) (h : zv_H) := (zv_cs zv_prog d).1 128 [zv_r a0, zv_i a1] h
noncomputable def E7_add (d : Nat) (a0 : Nat) (a1 : Int) (h : zv_H) : zv_O := zv_lim (zv_cs zv_prog d) mc7_add 0 [some (zv_r a0), some (zv_i a1)] [] h
noncomputable def C7_at (d : Nat) (a0 : Nat) (a1 : Int) (h : zv_H) := (zv_cs zv_prog d).2.1 129 [zv_r a0, zv_i a1] h
noncomputable def E7_at (d : Nat) (a0 : Nat) (a1 : Int) (h : zv_H) : zv_O := zv_lim (zv_cs zv_prog d) mc7_at 0 [some (zv_r a0), some (zv_i a1)] [] h
noncomputable def C7_key (d : Nat) (a0 : Nat) (h : zv_H) := (zv_cs zv_prog d).2.1 130 [zv_r a0] h
noncomputable def E7_key (d : Nat) (a0 : Nat) (h : zv_H) : zv_O := zv_lim (zv_cs zv_prog d) mc7_key 0 [some (zv_r a0), none, none] [] h
noncomputable def L7_key_24 (d : Nat) (a0 : Nat) (a1 : Int) (a2 : Int) (h : zv_H) : zv_O := zv_lim (zv_cs zv_prog d) mc7_key 24 [some (zv_r a0), some (zv_i a1), some (zv_i a2)] [] h
noncomputable def C8_init (d : Nat) (a0 : Nat) (h : zv_H) := (zv_cs zv_prog d).1 131 [zv_r a0] h
noncomputable def E8_init (d : Nat) (a0 : Nat) (h : zv_H) : zv_O := zv_lim (zv_cs zv_prog d) mc8_init 0 [some (zv_r a0)] [] h
noncomputable def C8_refused (d : Nat) (a0 : Nat) (a1 : Int) (h : zv_H) := (zv_cs zv_prog d).2.1 132 [zv_r a0, zv_i a1] h
noncomputable def E8_refused (d : Nat) (a0 : Nat) (a1 : Int) (h : zv_H) : zv_O := zv_lim (zv_cs zv_prog d) mc8_refused 0 [some (zv_r a0), some (zv_i a1)] [] h
noncomputable def C8_given (d : Nat) (a0 : Nat) (a1 : Int) (h : zv_H) := (zv_cs zv_prog d).2.1 133 [zv_r a0, zv_i a1] h
noncomputable def E8_given (d : Nat) (a0 : Nat) (a1 : Int) (h : zv_H) : zv_O := zv_lim (zv_cs zv_prog d) mc8_given 0 [some (zv_r a0), some (zv_i a1)] [] h
noncomputable def C8_answered (d : Nat) (a0 : Nat) (a1 : Int) (h : zv_H) := (zv_cs zv_prog d).2.1 134 [zv_r a0, zv_i a1] h
noncomputable def E8_answered (d : Nat) (a0 : Nat) (a1 : Int) (h : zv_H) : zv_O := zv_lim (zv_cs zv_prog d) mc8_answered 0 [some (zv_r a0), some (zv_i a1)] [] h
noncomputable def C8_within (d : Nat) (a0 : Int) (a1 : Int) (a2 : Int) (h : zv_H) := (zv_cs zv_prog d).2.1 135 [zv_i a0, zv_i a1, zv_i a2] h
noncomputable def E8_within (d : Nat) (a0 : Int) (a1 : Int) (a2 : Int) (h : zv_H) : zv_O := zv_lim (zv_cs zv_prog d) mc8_within 0 [some (zv_i a0), some (zv_i a1), some (zv_i a2)] [] h
noncomputable def C8_status (d : Nat) (a0 : Nat) (h : zv_H) := (zv_cs zv_prog d).2.1 136 [zv_r a0] h
noncomputable def E8_status (d : Nat) (a0 : Nat) (h : zv_H) : zv_O := zv_lim (zv_cs zv_prog d) mc8_status 0 [some (zv_r a0)] [] h
noncomputable def C8_feed (d : Nat) (a0 : Nat) (a1 : Int) (a2 : Int) (a3 : Int) (a4 : Int) (a5 : Int) (h : zv_H) := (zv_cs zv_prog d).2.1 137 [zv_r a0, zv_i a1, zv_i a2, zv_i a3, zv_i a4, zv_i a5] h
noncomputable def E8_feed (d : Nat) (a0 : Nat) (a1 : Int) (a2 : Int) (a3 : Int) (a4 : Int) (a5 : Int) (h : zv_H) : zv_O := zv_lim (zv_cs zv_prog d) mc8_feed 0 [some (zv_r a0), some (zv_i a1), some (zv_i a2), some (zv_i a3), some (zv_i a4), some (zv_i a5)] [] h
noncomputable def C8_feedInt (d : Nat) (a0 : Nat) (a1 : Int) (h : zv_H) := (zv_cs zv_prog d).1 138 [zv_r a0, zv_i a1] h
noncomputable def E8_feedInt (d : Nat) (a0 : Nat) (a1 : Int) (h : zv_H) : zv_O := zv_lim (zv_cs zv_prog d) mc8_feedInt 0 [some (zv_r a0), some (zv_i a1), none] [] h
noncomputable def L8_feedInt_3 (d : Nat) (a0 : Nat) (a1 : Int) (a2 : Int) (h : zv_H) : zv_O := zv_lim (zv_cs zv_prog d) mc8_feedInt 3 [some (zv_r a0), some (zv_i a1), some (zv_i a2)] [] h
noncomputable def C8_fault (d : Nat) (a0 : Nat) (a1 : Int) (h : zv_H) := (zv_cs zv_prog d).2.1 139 [zv_r a0, zv_i a1] h
noncomputable def E8_fault (d : Nat) (a0 : Nat) (a1 : Int) (h : zv_H) : zv_O := zv_lim (zv_cs zv_prog d) mc8_fault 0 [some (zv_r a0), some (zv_i a1)] [] h
noncomputable def C8_type (d : Nat) (a0 : Nat) (a1 : Int) (a2 : Int) (h : zv_H) := (zv_cs zv_prog d).2.1 140 [zv_r a0, zv_i a1, zv_i a2] h
noncomputable def E8_type (d : Nat) (a0 : Nat) (a1 : Int) (a2 : Int) (h : zv_H) : zv_O := zv_lim (zv_cs zv_prog d) mc8_type 0 [some (zv_r a0), some (zv_i a1), some (zv_i a2), none, none] [] h
noncomputable def L8_type_2 (d : Nat) (a0 : Nat) (a1 : Int) (a2 : Int) (a3 : Int) (h : zv_H) : zv_O := zv_lim (zv_cs zv_prog d) mc8_type 2 [some (zv_r a0), some (zv_i a1), some (zv_i a2), some (zv_i a3), none] [] h
noncomputable def L8_type_36 (d : Nat) (a0 : Nat) (a1 : Int) (a2 : Int) (a3 : Int) (h : zv_H) : zv_O := zv_lim (zv_cs zv_prog d) mc8_type 36 [some (zv_r a0), some (zv_i a1), some (zv_i a2), some (zv_i a3), none] [] h
noncomputable def L8_type_46 (d : Nat) (a0 : Nat) (a1 : Int) (a2 : Int) (a3 : Int) (a4 : Int) (h : zv_H) : zv_O := zv_lim (zv_cs zv_prog d) mc8_type 46 [some (zv_r a0), some (zv_i a1), some (zv_i a2), some (zv_i a3), some (zv_i a4)] [] h
noncomputable def C8_typedLetter (d : Nat) (a0 : Int) (a1 : Int) (a2 : Int) (h : zv_H) := (zv_cs zv_prog d).2.1 141 [zv_i a0, zv_i a1, zv_i a2] h
noncomputable def E8_typedLetter (d : Nat) (a0 : Int) (a1 : Int) (a2 : Int) (h : zv_H) : zv_O := zv_lim (zv_cs zv_prog d) mc8_typedLetter 0 [some (zv_i a0), some (zv_i a1), some (zv_i a2), none] [] h
noncomputable def C8_load (d : Nat) (a0 : Nat) (a1 : Int) (h : zv_H) := (zv_cs zv_prog d).2.1 142 [zv_r a0, zv_i a1] h
noncomputable def E8_load (d : Nat) (a0 : Nat) (a1 : Int) (h : zv_H) : zv_O := zv_lim (zv_cs zv_prog d) mc8_load 0 [some (zv_r a0), some (zv_i a1), none] [] h
noncomputable def L8_load_54 (d : Nat) (a0 : Nat) (a1 : Int) (a2 : Int) (h : zv_H) : zv_O := zv_lim (zv_cs zv_prog d) mc8_load 54 [some (zv_r a0), some (zv_i a1), some (zv_i a2)] [] h
noncomputable def L8_load_117 (d : Nat) (a0 : Nat) (h : zv_H) : zv_O := zv_lim (zv_cs zv_prog d) mc8_load 117 [some (zv_r a0), none, none] [] h
noncomputable def C8_done (d : Nat) (a0 : Nat) (a1 : Nat) (h : zv_H) := (zv_cs zv_prog d).2.1 143 [zv_r a0, zv_r a1] h
noncomputable def E8_done (d : Nat) (a0 : Nat) (a1 : Nat) (h : zv_H) : zv_O := zv_lim (zv_cs zv_prog d) mc8_done 0 [some (zv_r a0), some (zv_r a1)] [] h
noncomputable def C8_many (d : Nat) (a0 : Nat) (a1 : Int) (h : zv_H) := (zv_cs zv_prog d).2.1 144 [zv_r a0, zv_i a1] h
noncomputable def E8_many (d : Nat) (a0 : Nat) (a1 : Int) (h : zv_H) : zv_O := zv_lim (zv_cs zv_prog d) mc8_many 0 [some (zv_r a0), some (zv_i a1)] [] h
noncomputable def C8_letter (d : Nat) (a0 : Nat) (a1 : Int) (a2 : Int) (h : zv_H) := (zv_cs zv_prog d).2.1 145 [zv_r a0, zv_i a1, zv_i a2] h
noncomputable def E8_letter (d : Nat) (a0 : Nat) (a1 : Int) (a2 : Int) (h : zv_H) : zv_O := zv_lim (zv_cs zv_prog d) mc8_letter 0 [some (zv_r a0), some (zv_i a1), some (zv_i a2), none] [] h
noncomputable def C8_state (d : Nat) (a0 : Nat) (a1 : Int) (a2 : Int) (h : zv_H) := (zv_cs zv_prog d).2.1 146 [zv_r a0, zv_i a1, zv_i a2] h
noncomputable def E8_state (d : Nat) (a0 : Nat) (a1 : Int) (a2 : Int) (h : zv_H) : zv_O := zv_lim (zv_cs zv_prog d) mc8_state 0 [some (zv_r a0), some (zv_i a1), some (zv_i a2), none] [] h
noncomputable def L8_state_107 (d : Nat) (e0 : Nat) (e1 : Int) (h : zv_H) : zv_O := zv_lim (zv_cs zv_prog d) mc8_state 107 [none, none, none, none] [zv_i e1, zv_r e0] h
noncomputable def L8_state_166 (d : Nat) (e0 : Nat) (e1 : Int) (h : zv_H) : zv_O := zv_lim (zv_cs zv_prog d) mc8_state 166 [none, none, none, none] [zv_i e1, zv_r e0] h
noncomputable def C8_child (d : Nat) (a0 : Nat) (a1 : Int) (a2 : Int) (h : zv_H) := (zv_cs zv_prog d).2.1 147 [zv_r a0, zv_i a1, zv_i a2] h
noncomputable def E8_child (d : Nat) (a0 : Nat) (a1 : Int) (a2 : Int) (h : zv_H) : zv_O := zv_lim (zv_cs zv_prog d) mc8_child 0 [some (zv_r a0), some (zv_i a1), some (zv_i a2), none, none] [] h
noncomputable def C8_force (d : Nat) (a0 : Nat) (a1 : Int) (a2 : Int) (h : zv_H) := (zv_cs zv_prog d).2.1 148 [zv_r a0, zv_i a1, zv_i a2] h
noncomputable def E8_force (d : Nat) (a0 : Nat) (a1 : Int) (a2 : Int) (h : zv_H) : zv_O := zv_lim (zv_cs zv_prog d) mc8_force 0 [some (zv_r a0), some (zv_i a1), some (zv_i a2), none, none, none] [] h
noncomputable def L8_force_28 (d : Nat) (a0 : Nat) (h : zv_H) : zv_O := zv_lim (zv_cs zv_prog d) mc8_force 28 [some (zv_r a0), none, none, none, none, none] [] h
noncomputable def L8_force_92 (d : Nat) (e0 : Nat) (e1 : Int) (h : zv_H) : zv_O := zv_lim (zv_cs zv_prog d) mc8_force 92 [none, none, none, none, none, none] [zv_i e1, zv_r e0] h
noncomputable def C8_blame (d : Nat) (a0 : Nat) (a1 : Int) (a2 : Int) (h : zv_H) := (zv_cs zv_prog d).2.1 149 [zv_r a0, zv_i a1, zv_i a2] h
noncomputable def E8_blame (d : Nat) (a0 : Nat) (a1 : Int) (a2 : Int) (h : zv_H) : zv_O := zv_lim (zv_cs zv_prog d) mc8_blame 0 [some (zv_r a0), some (zv_i a1), some (zv_i a2), none] [] h
noncomputable def L8_blame_13 (d : Nat) (a0 : Nat) (h : zv_H) : zv_O := zv_lim (zv_cs zv_prog d) mc8_blame 13 [some (zv_r a0), none, none, none] [] h
noncomputable def C8_row (d : Nat) (a0 : Nat) (a1 : Int) (a2 : Int) (h : zv_H) := (zv_cs zv_prog d).2.1 150 [zv_r a0, zv_i a1, zv_i a2] h
noncomputable def E8_row (d : Nat) (a0 : Nat) (a1 : Int) (a2 : Int) (h : zv_H) : zv_O := zv_lim (zv_cs zv_prog d) mc8_row 0 [some (zv_r a0), some (zv_i a1), some (zv_i a2), none, none] [] h
noncomputable def L8_row_13 (d : Nat) (a0 : Nat) (h : zv_H) : zv_O := zv_lim (zv_cs zv_prog d) mc8_row 13 [some (zv_r a0), none, none, none, none] [] h
noncomputable def L8_row_114 (d : Nat) (e0 : Nat) (e1 : Int) (h : zv_H) : zv_O := zv_lim (zv_cs zv_prog d) mc8_row 114 [none, none, none, none, none] [zv_i e1, zv_r e0] h
noncomputable def C8_visit (d : Nat) (a0 : Nat) (a1 : Int) (a2 : Int) (h : zv_H) := (zv_cs zv_prog d).2.1 151 [zv_r a0, zv_i a1, zv_i a2] h
noncomputable def E8_visit (d : Nat) (a0 : Nat) (a1 : Int) (a2 : Int) (h : zv_H) : zv_O := zv_lim (zv_cs zv_prog d) mc8_visit 0 [some (zv_r a0), some (zv_i a1), some (zv_i a2)] [] h
noncomputable def L8_visit_19 (d : Nat) (a0 : Nat) (h : zv_H) : zv_O := zv_lim (zv_cs zv_prog d) mc8_visit 19 [some (zv_r a0), none, none] [] h
noncomputable def L8_visit_75 (d : Nat) (e0 : Nat) (e1 : Int) (h : zv_H) : zv_O := zv_lim (zv_cs zv_prog d) mc8_visit 75 [none, none, none] [zv_i e1, zv_r e0] h
noncomputable def C8_named (d : Nat) (a0 : Nat) (h : zv_H) := (zv_cs zv_prog d).2.1 152 [zv_r a0] h
noncomputable def E8_named (d : Nat) (a0 : Nat) (h : zv_H) : zv_O := zv_lim (zv_cs zv_prog d) mc8_named 0 [some (zv_r a0), none, none] [] h
noncomputable def C8_leans (d : Nat) (a0 : Nat) (a1 : Int) (a2 : Int) (h : zv_H) := (zv_cs zv_prog d).2.1 153 [zv_r a0, zv_i a1, zv_i a2] h
noncomputable def E8_leans (d : Nat) (a0 : Nat) (a1 : Int) (a2 : Int) (h : zv_H) : zv_O := zv_lim (zv_cs zv_prog d) mc8_leans 0 [some (zv_r a0), some (zv_i a1), some (zv_i a2), none, none, none, none] [] h
noncomputable def L8_leans_28 (d : Nat) (a0 : Nat) (h : zv_H) : zv_O := zv_lim (zv_cs zv_prog d) mc8_leans 28 [some (zv_r a0), none, none, none, none, none, none] [] h
noncomputable def L8_leans_52 (d : Nat) (a0 : Nat) (a3 : Nat) (a4 : Nat) (e0 : Nat) (h : zv_H) : zv_O := zv_lim (zv_cs zv_prog d) mc8_leans 52 [some (zv_r a0), none, none, some (zv_r a3), some (zv_r a4), none, none] [zv_r e0] h
noncomputable def L8_leans_66 (d : Nat) (a0 : Nat) (a5 : Nat) (e0 : Nat) (h : zv_H) : zv_O := zv_lim (zv_cs zv_prog d) mc8_leans 66 [some (zv_r a0), none, none, none, none, some (zv_r a5), none] [zv_r e0] h
noncomputable def L8_leans_94 (d : Nat) (a0 : Nat) (h : zv_H) : zv_O := zv_lim (zv_cs zv_prog d) mc8_leans 94 [some (zv_r a0), none, none, none, none, none, none] [] h
noncomputable def L8_leans_122 (d : Nat) (e0 : Nat) (e1 : Int) (h : zv_H) : zv_O := zv_lim (zv_cs zv_prog d) mc8_leans 122 [none, none, none, none, none, none, none] [zv_i e1, zv_r e0] h
noncomputable def C8_put (d : Nat) (a0 : Nat) (a1 : Int) (h : zv_H) := (zv_cs zv_prog d).2.1 154 [zv_r a0, zv_i a1] h
noncomputable def E8_put (d : Nat) (a0 : Nat) (a1 : Int) (h : zv_H) : zv_O := zv_lim (zv_cs zv_prog d) mc8_put 0 [some (zv_r a0), some (zv_i a1)] [] h
noncomputable def C8_cut (d : Nat) (a0 : Nat) (a1 : Int) (a2 : Int) (h : zv_H) := (zv_cs zv_prog d).2.1 155 [zv_r a0, zv_i a1, zv_i a2] h
noncomputable def E8_cut (d : Nat) (a0 : Nat) (a1 : Int) (a2 : Int) (h : zv_H) : zv_O := zv_lim (zv_cs zv_prog d) mc8_cut 0 [some (zv_r a0), some (zv_i a1), some (zv_i a2)] [] h
noncomputable def C8_wait (d : Nat) (a0 : Nat) (a1 : Int) (h : zv_H) := (zv_cs zv_prog d).2.1 156 [zv_r a0, zv_i a1] h
noncomputable def E8_wait (d : Nat) (a0 : Nat) (a1 : Int) (h : zv_H) : zv_O := zv_lim (zv_cs zv_prog d) mc8_wait 0 [some (zv_r a0), some (zv_i a1)] [] h
noncomputable def C8_undo (d : Nat) (a0 : Nat) (h : zv_H) := (zv_cs zv_prog d).2.1 157 [zv_r a0] h
noncomputable def E8_undo (d : Nat) (a0 : Nat) (h : zv_H) : zv_O := zv_lim (zv_cs zv_prog d) mc8_undo 0 [some (zv_r a0)] [] h
noncomputable def C8_redo (d : Nat) (a0 : Nat) (h : zv_H) := (zv_cs zv_prog d).2.1 158 [zv_r a0] h
noncomputable def E8_redo (d : Nat) (a0 : Nat) (h : zv_H) : zv_O := zv_lim (zv_cs zv_prog d) mc8_redo 0 [some (zv_r a0)] [] h
noncomputable def C8_go (d : Nat) (a0 : Nat) (a1 : Int) (h : zv_H) := (zv_cs zv_prog d).2.1 159 [zv_r a0, zv_i a1] h
noncomputable def E8_go (d : Nat) (a0 : Nat) (a1 : Int) (h : zv_H) : zv_O := zv_lim (zv_cs zv_prog d) mc8_go 0 [some (zv_r a0), some (zv_i a1)] [] h
noncomputable def C8_name (d : Nat) (a0 : Nat) (h : zv_H) := (zv_cs zv_prog d).2.1 160 [zv_r a0] h
noncomputable def E8_name (d : Nat) (a0 : Nat) (h : zv_H) : zv_O := zv_lim (zv_cs zv_prog d) mc8_name 0 [some (zv_r a0)] [] h
noncomputable def C8_unname (d : Nat) (a0 : Nat) (h : zv_H) := (zv_cs zv_prog d).2.1 161 [zv_r a0] h
noncomputable def E8_unname (d : Nat) (a0 : Nat) (h : zv_H) : zv_O := zv_lim (zv_cs zv_prog d) mc8_unname 0 [some (zv_r a0)] [] h
noncomputable def C8_withdraw (d : Nat) (a0 : Nat) (a1 : Int) (h : zv_H) := (zv_cs zv_prog d).2.1 162 [zv_r a0, zv_i a1] h
noncomputable def E8_withdraw (d : Nat) (a0 : Nat) (a1 : Int) (h : zv_H) : zv_O := zv_lim (zv_cs zv_prog d) mc8_withdraw 0 [some (zv_r a0), some (zv_i a1)] [] h
noncomputable def C8_restore (d : Nat) (a0 : Nat) (a1 : Int) (h : zv_H) := (zv_cs zv_prog d).2.1 163 [zv_r a0, zv_i a1] h
noncomputable def E8_restore (d : Nat) (a0 : Nat) (a1 : Int) (h : zv_H) : zv_O := zv_lim (zv_cs zv_prog d) mc8_restore 0 [some (zv_r a0), some (zv_i a1)] [] h
noncomputable def C8_carry (d : Nat) (a0 : Nat) (a1 : Int) (h : zv_H) := (zv_cs zv_prog d).2.1 164 [zv_r a0, zv_i a1] h
noncomputable def E8_carry (d : Nat) (a0 : Nat) (a1 : Int) (h : zv_H) : zv_O := zv_lim (zv_cs zv_prog d) mc8_carry 0 [some (zv_r a0), some (zv_i a1)] [] h
noncomputable def C8_merge (d : Nat) (a0 : Nat) (a1 : Int) (h : zv_H) := (zv_cs zv_prog d).2.1 165 [zv_r a0, zv_i a1] h
noncomputable def E8_merge (d : Nat) (a0 : Nat) (a1 : Int) (h : zv_H) : zv_O := zv_lim (zv_cs zv_prog d) mc8_merge 0 [some (zv_r a0), some (zv_i a1)] [] h
noncomputable def C8_prune (d : Nat) (a0 : Nat) (a1 : Int) (h : zv_H) := (zv_cs zv_prog d).2.1 166 [zv_r a0, zv_i a1] h
noncomputable def E8_prune (d : Nat) (a0 : Nat) (a1 : Int) (h : zv_H) : zv_O := zv_lim (zv_cs zv_prog d) mc8_prune 0 [some (zv_r a0), some (zv_i a1)] [] h
noncomputable def C8_common (d : Nat) (a0 : Nat) (a1 : Int) (a2 : Int) (h : zv_H) := (zv_cs zv_prog d).2.1 167 [zv_r a0, zv_i a1, zv_i a2] h
noncomputable def E8_common (d : Nat) (a0 : Nat) (a1 : Int) (a2 : Int) (h : zv_H) : zv_O := zv_lim (zv_cs zv_prog d) mc8_common 0 [some (zv_r a0), some (zv_i a1), some (zv_i a2), none, none] [] h
noncomputable def L8_common_28 (d : Nat) (a0 : Nat) (h : zv_H) : zv_O := zv_lim (zv_cs zv_prog d) mc8_common 28 [some (zv_r a0), none, none, none, none] [] h
noncomputable def C8_way (d : Nat) (a0 : Nat) (a1 : Int) (a2 : Int) (a3 : Int) (h : zv_H) := (zv_cs zv_prog d).2.1 168 [zv_r a0, zv_i a1, zv_i a2, zv_i a3] h
noncomputable def E8_way (d : Nat) (a0 : Nat) (a1 : Int) (a2 : Int) (a3 : Int) (h : zv_H) : zv_O := zv_lim (zv_cs zv_prog d) mc8_way 0 [some (zv_r a0), some (zv_i a1), some (zv_i a2), some (zv_i a3), none, none, none] [] h
noncomputable def L8_way_40 (d : Nat) (a0 : Nat) (h : zv_H) : zv_O := zv_lim (zv_cs zv_prog d) mc8_way 40 [some (zv_r a0), none, none, none, none, none, none] [] h
noncomputable def C8_between (d : Nat) (a0 : Nat) (a1 : Int) (a2 : Int) (a3 : Int) (h : zv_H) := (zv_cs zv_prog d).2.1 169 [zv_r a0, zv_i a1, zv_i a2, zv_i a3] h
noncomputable def E8_between (d : Nat) (a0 : Nat) (a1 : Int) (a2 : Int) (a3 : Int) (h : zv_H) : zv_O := zv_lim (zv_cs zv_prog d) mc8_between 0 [some (zv_r a0), some (zv_i a1), some (zv_i a2), some (zv_i a3), none, none] [] h
noncomputable def L8_between_45 (d : Nat) (a0 : Nat) (h : zv_H) : zv_O := zv_lim (zv_cs zv_prog d) mc8_between 45 [some (zv_r a0), none, none, none, none, none] [] h
noncomputable def C8_least (d : Nat) (a0 : Nat) (a1 : Int) (a2 : Int) (h : zv_H) := (zv_cs zv_prog d).2.1 170 [zv_r a0, zv_i a1, zv_i a2] h
noncomputable def E8_least (d : Nat) (a0 : Nat) (a1 : Int) (a2 : Int) (h : zv_H) : zv_O := zv_lim (zv_cs zv_prog d) mc8_least 0 [some (zv_r a0), some (zv_i a1), some (zv_i a2), none, none] [] h
noncomputable def L8_least_28 (d : Nat) (a0 : Nat) (h : zv_H) : zv_O := zv_lim (zv_cs zv_prog d) mc8_least 28 [some (zv_r a0), none, none, none, none] [] h
noncomputable def C8_merges (d : Nat) (a0 : Nat) (a1 : Int) (a2 : Int) (h : zv_H) := (zv_cs zv_prog d).2.1 171 [zv_r a0, zv_i a1, zv_i a2] h
noncomputable def E8_merges (d : Nat) (a0 : Nat) (a1 : Int) (a2 : Int) (h : zv_H) : zv_O := zv_lim (zv_cs zv_prog d) mc8_merges 0 [some (zv_r a0), some (zv_i a1), some (zv_i a2)] [] h
noncomputable def C8_tell (d : Nat) (a0 : Nat) (a1 : Int) (h : zv_H) := (zv_cs zv_prog d).2.1 172 [zv_r a0, zv_i a1] h
noncomputable def E8_tell (d : Nat) (a0 : Nat) (a1 : Int) (h : zv_H) : zv_O := zv_lim (zv_cs zv_prog d) mc8_tell 0 [some (zv_r a0), some (zv_i a1)] [] h
noncomputable def L8_tell_47 (d : Nat) (a0 : Nat) (h : zv_H) : zv_O := zv_lim (zv_cs zv_prog d) mc8_tell 47 [some (zv_r a0), none] [] h
noncomputable def C8_tellDocument (d : Nat) (a0 : Nat) (h : zv_H) := (zv_cs zv_prog d).1 173 [zv_r a0] h
noncomputable def E8_tellDocument (d : Nat) (a0 : Nat) (h : zv_H) : zv_O := zv_lim (zv_cs zv_prog d) mc8_tellDocument 0 [some (zv_r a0), none, none] [] h
noncomputable def L8_tellDocument_10 (d : Nat) (a0 : Nat) (a1 : Nat) (a2 : Int) (h : zv_H) : zv_O := zv_lim (zv_cs zv_prog d) mc8_tellDocument 10 [some (zv_r a0), some (zv_r a1), some (zv_i a2)] [] h
noncomputable def C8_tellLine (d : Nat) (a0 : Nat) (h : zv_H) := (zv_cs zv_prog d).1 174 [zv_r a0] h
noncomputable def E8_tellLine (d : Nat) (a0 : Nat) (h : zv_H) : zv_O := zv_lim (zv_cs zv_prog d) mc8_tellLine 0 [some (zv_r a0), none, none] [] h
noncomputable def L8_tellLine_10 (d : Nat) (a0 : Nat) (a1 : Nat) (a2 : Int) (h : zv_H) : zv_O := zv_lim (zv_cs zv_prog d) mc8_tellLine 10 [some (zv_r a0), some (zv_r a1), some (zv_i a2)] [] h
noncomputable def L8_tellLine_28 (d : Nat) (a0 : Nat) (a1 : Nat) (a2 : Int) (h : zv_H) : zv_O := zv_lim (zv_cs zv_prog d) mc8_tellLine 28 [some (zv_r a0), some (zv_r a1), some (zv_i a2)] [] h
noncomputable def C8_tellNames (d : Nat) (a0 : Nat) (h : zv_H) := (zv_cs zv_prog d).1 175 [zv_r a0] h
noncomputable def E8_tellNames (d : Nat) (a0 : Nat) (h : zv_H) : zv_O := zv_lim (zv_cs zv_prog d) mc8_tellNames 0 [some (zv_r a0), none, none, none] [] h
noncomputable def L8_tellNames_10 (d : Nat) (a0 : Nat) (a1 : Nat) (a2 : Int) (h : zv_H) : zv_O := zv_lim (zv_cs zv_prog d) mc8_tellNames 10 [some (zv_r a0), some (zv_r a1), some (zv_i a2), none] [] h
noncomputable def L8_tellNames_28 (d : Nat) (a0 : Nat) (a1 : Nat) (a2 : Int) (h : zv_H) : zv_O := zv_lim (zv_cs zv_prog d) mc8_tellNames 28 [some (zv_r a0), some (zv_r a1), some (zv_i a2), none] [] h
noncomputable def L8_tellNames_34 (d : Nat) (a0 : Nat) (a1 : Nat) (a2 : Int) (a3 : Int) (h : zv_H) : zv_O := zv_lim (zv_cs zv_prog d) mc8_tellNames 34 [some (zv_r a0), some (zv_r a1), some (zv_i a2), some (zv_i a3)] [] h
noncomputable def C8_tellNumber (d : Nat) (a0 : Nat) (a1 : Int) (h : zv_H) := (zv_cs zv_prog d).1 176 [zv_r a0, zv_i a1] h
noncomputable def E8_tellNumber (d : Nat) (a0 : Nat) (a1 : Int) (h : zv_H) : zv_O := zv_lim (zv_cs zv_prog d) mc8_tellNumber 0 [some (zv_r a0), some (zv_i a1)] [] h
noncomputable def L8_tellNumber_17 (d : Nat) (a0 : Nat) (a1 : Int) (h : zv_H) : zv_O := zv_lim (zv_cs zv_prog d) mc8_tellNumber 17 [some (zv_r a0), some (zv_i a1)] [] h
noncomputable def C8_tellByte (d : Nat) (a0 : Nat) (a1 : Int) (h : zv_H) := (zv_cs zv_prog d).1 177 [zv_r a0, zv_i a1] h
noncomputable def E8_tellByte (d : Nat) (a0 : Nat) (a1 : Int) (h : zv_H) : zv_O := zv_lim (zv_cs zv_prog d) mc8_tellByte 0 [some (zv_r a0), some (zv_i a1)] [] h
noncomputable def C8_out (d : Nat) (a0 : Nat) (a1 : Int) (h : zv_H) := (zv_cs zv_prog d).2.1 178 [zv_r a0, zv_i a1] h
noncomputable def E8_out (d : Nat) (a0 : Nat) (a1 : Int) (h : zv_H) : zv_O := zv_lim (zv_cs zv_prog d) mc8_out 0 [some (zv_r a0), some (zv_i a1)] [] h
noncomputable def L8_out_27 (d : Nat) (a0 : Nat) (h : zv_H) : zv_O := zv_lim (zv_cs zv_prog d) mc8_out 27 [some (zv_r a0), none] [] h
noncomputable def C8_leaning (d : Nat) (a0 : Nat) (a1 : Int) (a2 : Int) (h : zv_H) := (zv_cs zv_prog d).2.1 179 [zv_r a0, zv_i a1, zv_i a2] h
noncomputable def E8_leaning (d : Nat) (a0 : Nat) (a1 : Int) (a2 : Int) (h : zv_H) : zv_O := zv_lim (zv_cs zv_prog d) mc8_leaning 0 [some (zv_r a0), some (zv_i a1), some (zv_i a2), none, none, none, none] [] h
noncomputable def C8_find (d : Nat) (a0 : Nat) (a1 : Int) (h : zv_H) := (zv_cs zv_prog d).2.1 180 [zv_r a0, zv_i a1] h
noncomputable def E8_find (d : Nat) (a0 : Nat) (a1 : Int) (h : zv_H) : zv_O := zv_lim (zv_cs zv_prog d) mc8_find 0 [some (zv_r a0), some (zv_i a1), none] [] h
noncomputable def L8_find_19 (d : Nat) (a0 : Nat) (h : zv_H) : zv_O := zv_lim (zv_cs zv_prog d) mc8_find 19 [some (zv_r a0), none, none] [] h
noncomputable def L8_find_82 (d : Nat) (a0 : Nat) (e0 : Int) (h : zv_H) : zv_O := zv_lim (zv_cs zv_prog d) mc8_find 82 [some (zv_r a0), none, none] [zv_i e0] h
noncomputable def C8_first (d : Nat) (a0 : Nat) (h : zv_H) := (zv_cs zv_prog d).2.1 181 [zv_r a0] h
noncomputable def E8_first (d : Nat) (a0 : Nat) (h : zv_H) : zv_O := zv_lim (zv_cs zv_prog d) mc8_first 0 [some (zv_r a0), none] [] h
noncomputable def C8_twin (d : Nat) (a0 : Nat) (a1 : Int) (h : zv_H) := (zv_cs zv_prog d).2.1 182 [zv_r a0, zv_i a1] h
noncomputable def E8_twin (d : Nat) (a0 : Nat) (a1 : Int) (h : zv_H) : zv_O := zv_lim (zv_cs zv_prog d) mc8_twin 0 [some (zv_r a0), some (zv_i a1), none, none] [] h
noncomputable def C8_back (d : Nat) (a0 : Nat) (a1 : Int) (h : zv_H) := (zv_cs zv_prog d).2.1 183 [zv_r a0, zv_i a1] h
noncomputable def E8_back (d : Nat) (a0 : Nat) (a1 : Int) (h : zv_H) : zv_O := zv_lim (zv_cs zv_prog d) mc8_back 0 [some (zv_r a0), some (zv_i a1), none] [] h
noncomputable def C9_init (d : Nat) (a0 : Nat) (h : zv_H) := (zv_cs zv_prog d).1 184 [zv_r a0] h
noncomputable def E9_init (d : Nat) (a0 : Nat) (h : zv_H) : zv_O := zv_lim (zv_cs zv_prog d) mc9_init 0 [some (zv_r a0)] [] h
noncomputable def C9_status (d : Nat) (a0 : Nat) (h : zv_H) := (zv_cs zv_prog d).2.1 185 [zv_r a0] h
noncomputable def E9_status (d : Nat) (a0 : Nat) (h : zv_H) : zv_O := zv_lim (zv_cs zv_prog d) mc9_status 0 [some (zv_r a0)] [] h
noncomputable def C9_refuse (d : Nat) (a0 : Nat) (a1 : Int) (h : zv_H) := (zv_cs zv_prog d).2.1 186 [zv_r a0, zv_i a1] h
noncomputable def E9_refuse (d : Nat) (a0 : Nat) (a1 : Int) (h : zv_H) : zv_O := zv_lim (zv_cs zv_prog d) mc9_refuse 0 [some (zv_r a0), some (zv_i a1)] [] h
noncomputable def C9_is (d : Nat) (a0 : Nat) (a1 : Int) (h : zv_H) := (zv_cs zv_prog d).2.1 187 [zv_r a0, zv_i a1] h
noncomputable def E9_is (d : Nat) (a0 : Nat) (a1 : Int) (h : zv_H) : zv_O := zv_lim (zv_cs zv_prog d) mc9_is 0 [some (zv_r a0), some (zv_i a1)] [] h
noncomputable def C9_isIn (d : Nat) (a0 : Int) (a1 : Int) (a2 : Int) (h : zv_H) := (zv_cs zv_prog d).2.1 188 [zv_i a0, zv_i a1, zv_i a2] h
noncomputable def E9_isIn (d : Nat) (a0 : Int) (a1 : Int) (a2 : Int) (h : zv_H) : zv_O := zv_lim (zv_cs zv_prog d) mc9_isIn 0 [some (zv_i a0), some (zv_i a1), some (zv_i a2)] [] h
noncomputable def C9_clears (d : Nat) (a0 : Nat) (h : zv_H) := (zv_cs zv_prog d).1 189 [zv_r a0] h
noncomputable def E9_clears (d : Nat) (a0 : Nat) (h : zv_H) : zv_O := zv_lim (zv_cs zv_prog d) mc9_clears 0 [some (zv_r a0), none] [] h
noncomputable def L9_clears_2 (d : Nat) (a0 : Nat) (a1 : Int) (h : zv_H) : zv_O := zv_lim (zv_cs zv_prog d) mc9_clears 2 [some (zv_r a0), some (zv_i a1)] [] h
noncomputable def C9_of (d : Nat) (a0 : Nat) (a1 : Int) (a2 : Int) (h : zv_H) := (zv_cs zv_prog d).2.1 190 [zv_r a0, zv_i a1, zv_i a2] h
noncomputable def E9_of (d : Nat) (a0 : Nat) (a1 : Int) (a2 : Int) (h : zv_H) : zv_O := zv_lim (zv_cs zv_prog d) mc9_of 0 [some (zv_r a0), some (zv_i a1), some (zv_i a2)] [] h
noncomputable def C9_sets (d : Nat) (a0 : Nat) (a1 : Int) (a2 : Int) (a3 : Int) (h : zv_H) := (zv_cs zv_prog d).1 191 [zv_r a0, zv_i a1, zv_i a2, zv_i a3] h
noncomputable def E9_sets (d : Nat) (a0 : Nat) (a1 : Int) (a2 : Int) (a3 : Int) (h : zv_H) : zv_O := zv_lim (zv_cs zv_prog d) mc9_sets 0 [some (zv_r a0), some (zv_i a1), some (zv_i a2), some (zv_i a3)] [] h
noncomputable def C9_isState (d : Nat) (a0 : Nat) (a1 : Int) (h : zv_H) := (zv_cs zv_prog d).2.1 192 [zv_r a0, zv_i a1] h
noncomputable def E9_isState (d : Nat) (a0 : Nat) (a1 : Int) (h : zv_H) : zv_O := zv_lim (zv_cs zv_prog d) mc9_isState 0 [some (zv_r a0), some (zv_i a1)] [] h
noncomputable def C9_isEdit (d : Nat) (a0 : Nat) (a1 : Int) (h : zv_H) := (zv_cs zv_prog d).2.1 193 [zv_r a0, zv_i a1] h
noncomputable def E9_isEdit (d : Nat) (a0 : Nat) (a1 : Int) (h : zv_H) : zv_O := zv_lim (zv_cs zv_prog d) mc9_isEdit 0 [some (zv_r a0), some (zv_i a1)] [] h
noncomputable def C9_here (d : Nat) (a0 : Nat) (h : zv_H) := (zv_cs zv_prog d).2.1 194 [zv_r a0] h
noncomputable def E9_here (d : Nat) (a0 : Nat) (h : zv_H) : zv_O := zv_lim (zv_cs zv_prog d) mc9_here 0 [some (zv_r a0)] [] h
noncomputable def C9_states (d : Nat) (a0 : Nat) (h : zv_H) := (zv_cs zv_prog d).2.1 195 [zv_r a0] h
noncomputable def E9_states (d : Nat) (a0 : Nat) (h : zv_H) : zv_O := zv_lim (zv_cs zv_prog d) mc9_states 0 [some (zv_r a0), none, none] [] h
noncomputable def L9_states_4 (d : Nat) (a0 : Nat) (a1 : Int) (a2 : Int) (h : zv_H) : zv_O := zv_lim (zv_cs zv_prog d) mc9_states 4 [some (zv_r a0), some (zv_i a1), some (zv_i a2)] [] h
noncomputable def C9_names (d : Nat) (a0 : Nat) (a1 : Int) (a2 : Int) (h : zv_H) := (zv_cs zv_prog d).2.1 196 [zv_r a0, zv_i a1, zv_i a2] h
noncomputable def E9_names (d : Nat) (a0 : Nat) (a1 : Int) (a2 : Int) (h : zv_H) : zv_O := zv_lim (zv_cs zv_prog d) mc9_names 0 [some (zv_r a0), some (zv_i a1), some (zv_i a2)] [] h
noncomputable def L9_names_15 (d : Nat) (a2 : Int) (e0 : Nat) (e1 : Int) (e2 : Int) (h : zv_H) : zv_O := zv_lim (zv_cs zv_prog d) mc9_names 15 [none, none, some (zv_i a2)] [zv_i e2, zv_i e1, zv_r e0] h
noncomputable def C9_namesToo (d : Nat) (a0 : Nat) (a1 : Int) (a2 : Int) (h : zv_H) := (zv_cs zv_prog d).1 197 [zv_r a0, zv_i a1, zv_i a2] h
noncomputable def E9_namesToo (d : Nat) (a0 : Nat) (a1 : Int) (a2 : Int) (h : zv_H) : zv_O := zv_lim (zv_cs zv_prog d) mc9_namesToo 0 [some (zv_r a0), some (zv_i a1), some (zv_i a2)] [] h
noncomputable def L9_namesToo_15 (d : Nat) (a0 : Nat) (a1 : Int) (a2 : Int) (e0 : Nat) (e1 : Int) (e2 : Int) (h : zv_H) : zv_O := zv_lim (zv_cs zv_prog d) mc9_namesToo 15 [some (zv_r a0), some (zv_i a1), some (zv_i a2)] [zv_i e2, zv_i e1, zv_r e0] h
noncomputable def L9_namesToo_30 (d : Nat) (a2 : Int) (e0 : Nat) (e1 : Int) (e2 : Int) (e3 : Nat) (e4 : Int) (e5 : Int) (h : zv_H) : zv_O := zv_lim (zv_cs zv_prog d) mc9_namesToo 30 [none, none, some (zv_i a2)] [zv_i e5, zv_i e4, zv_r e3, zv_i e2, zv_i e1, zv_r e0] h
noncomputable def C9_isOfLine (d : Nat) (a0 : Nat) (a1 : Int) (a2 : Int) (h : zv_H) := (zv_cs zv_prog d).2.1 198 [zv_r a0, zv_i a1, zv_i a2] h
noncomputable def E9_isOfLine (d : Nat) (a0 : Nat) (a1 : Int) (a2 : Int) (h : zv_H) : zv_O := zv_lim (zv_cs zv_prog d) mc9_isOfLine 0 [some (zv_r a0), some (zv_i a1), some (zv_i a2), none] [] h
noncomputable def L9_isOfLine_2 (d : Nat) (a0 : Nat) (a1 : Int) (a3 : Int) (h : zv_H) : zv_O := zv_lim (zv_cs zv_prog d) mc9_isOfLine 2 [some (zv_r a0), some (zv_i a1), none, some (zv_i a3)] [] h
noncomputable def C9_depthOf (d : Nat) (a0 : Nat) (a1 : Int) (h : zv_H) := (zv_cs zv_prog d).2.1 199 [zv_r a0, zv_i a1] h
noncomputable def E9_depthOf (d : Nat) (a0 : Nat) (a1 : Int) (h : zv_H) : zv_O := zv_lim (zv_cs zv_prog d) mc9_depthOf 0 [some (zv_r a0), some (zv_i a1), none, none] [] h
noncomputable def L9_depthOf_9 (d : Nat) (a0 : Nat) (a2 : Int) (a3 : Int) (h : zv_H) : zv_O := zv_lim (zv_cs zv_prog d) mc9_depthOf 9 [some (zv_r a0), none, some (zv_i a2), some (zv_i a3)] [] h
noncomputable def C9_rowOf (d : Nat) (a0 : Nat) (a1 : Int) (a2 : Int) (h : zv_H) := (zv_cs zv_prog d).2.1 200 [zv_r a0, zv_i a1, zv_i a2] h
noncomputable def E9_rowOf (d : Nat) (a0 : Nat) (a1 : Int) (a2 : Int) (h : zv_H) : zv_O := zv_lim (zv_cs zv_prog d) mc9_rowOf 0 [some (zv_r a0), some (zv_i a1), some (zv_i a2), none] [] h
noncomputable def L9_rowOf_2 (d : Nat) (a0 : Nat) (a1 : Int) (a2 : Int) (a3 : Int) (h : zv_H) : zv_O := zv_lim (zv_cs zv_prog d) mc9_rowOf 2 [some (zv_r a0), some (zv_i a1), some (zv_i a2), some (zv_i a3)] [] h
noncomputable def C9_letsIn (d : Nat) (a0 : Nat) (a1 : Int) (h : zv_H) := (zv_cs zv_prog d).1 201 [zv_r a0, zv_i a1] h
noncomputable def E9_letsIn (d : Nat) (a0 : Nat) (a1 : Int) (h : zv_H) : zv_O := zv_lim (zv_cs zv_prog d) mc9_letsIn 0 [some (zv_r a0), some (zv_i a1), none, none, none] [] h
noncomputable def L9_letsIn_34 (d : Nat) (a0 : Nat) (a1 : Int) (e0 : Int) (h : zv_H) : zv_O := zv_lim (zv_cs zv_prog d) mc9_letsIn 34 [some (zv_r a0), some (zv_i a1), none, none, none] [zv_i e0] h
noncomputable def L9_letsIn_50 (d : Nat) (a0 : Nat) (a1 : Int) (a2 : Int) (a3 : Int) (a4 : Int) (h : zv_H) : zv_O := zv_lim (zv_cs zv_prog d) mc9_letsIn 50 [some (zv_r a0), some (zv_i a1), some (zv_i a2), some (zv_i a3), some (zv_i a4)] [] h
noncomputable def L9_letsIn_97 (d : Nat) (a0 : Nat) (a1 : Int) (a2 : Int) (a3 : Int) (a4 : Int) (h : zv_H) : zv_O := zv_lim (zv_cs zv_prog d) mc9_letsIn 97 [some (zv_r a0), some (zv_i a1), some (zv_i a2), some (zv_i a3), some (zv_i a4)] [] h
noncomputable def C9_turns (d : Nat) (a0 : Nat) (a1 : Int) (h : zv_H) := (zv_cs zv_prog d).1 202 [zv_r a0, zv_i a1] h
noncomputable def E9_turns (d : Nat) (a0 : Nat) (a1 : Int) (h : zv_H) : zv_O := zv_lim (zv_cs zv_prog d) mc9_turns 0 [some (zv_r a0), some (zv_i a1), none] [] h
noncomputable def L9_turns_2 (d : Nat) (a0 : Nat) (a1 : Int) (a2 : Int) (h : zv_H) : zv_O := zv_lim (zv_cs zv_prog d) mc9_turns 2 [some (zv_r a0), some (zv_i a1), some (zv_i a2)] [] h
noncomputable def C9_sees (d : Nat) (a0 : Nat) (a1 : Int) (h : zv_H) := (zv_cs zv_prog d).1 203 [zv_r a0, zv_i a1] h
noncomputable def E9_sees (d : Nat) (a0 : Nat) (a1 : Int) (h : zv_H) : zv_O := zv_lim (zv_cs zv_prog d) mc9_sees 0 [some (zv_r a0), some (zv_i a1), none, none, none, none] [] h
noncomputable def L9_sees_20 (d : Nat) (a0 : Nat) (a2 : Int) (a3 : Int) (h : zv_H) : zv_O := zv_lim (zv_cs zv_prog d) mc9_sees 20 [some (zv_r a0), none, some (zv_i a2), some (zv_i a3), none, none] [] h
noncomputable def L9_sees_56 (d : Nat) (a0 : Nat) (a3 : Int) (h : zv_H) : zv_O := zv_lim (zv_cs zv_prog d) mc9_sees 56 [some (zv_r a0), none, none, some (zv_i a3), none, none] [] h
noncomputable def L9_sees_93 (d : Nat) (a0 : Nat) (a3 : Int) (h : zv_H) : zv_O := zv_lim (zv_cs zv_prog d) mc9_sees 93 [some (zv_r a0), none, none, some (zv_i a3), none, none] [] h
noncomputable def L9_sees_138 (d : Nat) (a0 : Nat) (a3 : Int) (a4 : Int) (h : zv_H) : zv_O := zv_lim (zv_cs zv_prog d) mc9_sees 138 [some (zv_r a0), none, none, some (zv_i a3), some (zv_i a4), none] [] h
noncomputable def L9_sees_161 (d : Nat) (a0 : Nat) (a3 : Int) (h : zv_H) : zv_O := zv_lim (zv_cs zv_prog d) mc9_sees 161 [some (zv_r a0), none, none, some (zv_i a3), none, none] [] h
noncomputable def L9_sees_194 (d : Nat) (a0 : Nat) (a3 : Int) (h : zv_H) : zv_O := zv_lim (zv_cs zv_prog d) mc9_sees 194 [some (zv_r a0), none, none, some (zv_i a3), none, none] [] h
noncomputable def L9_sees_213 (d : Nat) (a0 : Nat) (a3 : Int) (a4 : Int) (a5 : Int) (h : zv_H) : zv_O := zv_lim (zv_cs zv_prog d) mc9_sees 213 [some (zv_r a0), none, none, some (zv_i a3), some (zv_i a4), some (zv_i a5)] [] h
noncomputable def L9_sees_303 (d : Nat) (a0 : Nat) (a3 : Int) (h : zv_H) : zv_O := zv_lim (zv_cs zv_prog d) mc9_sees 303 [some (zv_r a0), none, none, some (zv_i a3), none, none] [] h
noncomputable def C9_rowPlace (d : Nat) (a0 : Nat) (a1 : Int) (h : zv_H) := (zv_cs zv_prog d).2.1 204 [zv_r a0, zv_i a1] h
noncomputable def E9_rowPlace (d : Nat) (a0 : Nat) (a1 : Int) (h : zv_H) : zv_O := zv_lim (zv_cs zv_prog d) mc9_rowPlace 0 [some (zv_r a0), some (zv_i a1), none, none] [] h
noncomputable def L9_rowPlace_4 (d : Nat) (a0 : Nat) (a2 : Int) (a3 : Int) (h : zv_H) : zv_O := zv_lim (zv_cs zv_prog d) mc9_rowPlace 4 [some (zv_r a0), none, some (zv_i a2), some (zv_i a3)] [] h
noncomputable def C9_letterIn (d : Nat) (a0 : Nat) (a1 : Int) (h : zv_H) := (zv_cs zv_prog d).2.1 205 [zv_r a0, zv_i a1] h
noncomputable def E9_letterIn (d : Nat) (a0 : Nat) (a1 : Int) (h : zv_H) : zv_O := zv_lim (zv_cs zv_prog d) mc9_letterIn 0 [some (zv_r a0), some (zv_i a1)] [] h
noncomputable def C9_lettersOf (d : Nat) (a0 : Nat) (a1 : Int) (h : zv_H) := (zv_cs zv_prog d).2.1 206 [zv_r a0, zv_i a1] h
noncomputable def E9_lettersOf (d : Nat) (a0 : Nat) (a1 : Int) (h : zv_H) : zv_O := zv_lim (zv_cs zv_prog d) mc9_lettersOf 0 [some (zv_r a0), some (zv_i a1)] [] h
noncomputable def C9_copies (d : Nat) (a0 : Nat) (a1 : Int) (a2 : Nat) (h : zv_H) := (zv_cs zv_prog d).2.1 207 [zv_r a0, zv_i a1, zv_r a2] h
noncomputable def E9_copies (d : Nat) (a0 : Nat) (a1 : Int) (a2 : Nat) (h : zv_H) : zv_O := zv_lim (zv_cs zv_prog d) mc9_copies 0 [some (zv_r a0), some (zv_i a1), some (zv_r a2), none, none] [] h
noncomputable def L9_copies_10 (d : Nat) (a0 : Nat) (a2 : Nat) (a3 : Int) (a4 : Int) (h : zv_H) : zv_O := zv_lim (zv_cs zv_prog d) mc9_copies 10 [some (zv_r a0), none, some (zv_r a2), some (zv_i a3), some (zv_i a4)] [] h
noncomputable def C9_visits (d : Nat) (a0 : Nat) (a1 : Int) (h : zv_H) := (zv_cs zv_prog d).1 208 [zv_r a0, zv_i a1] h
noncomputable def E9_visits (d : Nat) (a0 : Nat) (a1 : Int) (h : zv_H) : zv_O := zv_lim (zv_cs zv_prog d) mc9_visits 0 [some (zv_r a0), some (zv_i a1), none] [] h
noncomputable def L9_visits_42 (d : Nat) (a0 : Nat) (a1 : Int) (a2 : Int) (h : zv_H) : zv_O := zv_lim (zv_cs zv_prog d) mc9_visits 42 [some (zv_r a0), some (zv_i a1), some (zv_i a2)] [] h
noncomputable def C9_latestIn (d : Nat) (a0 : Nat) (a1 : Int) (h : zv_H) := (zv_cs zv_prog d).2.1 209 [zv_r a0, zv_i a1] h
noncomputable def E9_latestIn (d : Nat) (a0 : Nat) (a1 : Int) (h : zv_H) : zv_O := zv_lim (zv_cs zv_prog d) mc9_latestIn 0 [some (zv_r a0), some (zv_i a1), none, none] [] h
noncomputable def L9_latestIn_10 (d : Nat) (a0 : Nat) (a1 : Int) (a2 : Int) (a3 : Int) (h : zv_H) : zv_O := zv_lim (zv_cs zv_prog d) mc9_latestIn 10 [some (zv_r a0), some (zv_i a1), some (zv_i a2), some (zv_i a3)] [] h
noncomputable def C9_childOf (d : Nat) (a0 : Nat) (a1 : Int) (a2 : Int) (h : zv_H) := (zv_cs zv_prog d).2.1 210 [zv_r a0, zv_i a1, zv_i a2] h
noncomputable def E9_childOf (d : Nat) (a0 : Nat) (a1 : Int) (a2 : Int) (h : zv_H) : zv_O := zv_lim (zv_cs zv_prog d) mc9_childOf 0 [some (zv_r a0), some (zv_i a1), some (zv_i a2), none, none, none] [] h
noncomputable def L9_childOf_2 (d : Nat) (a0 : Nat) (a1 : Int) (a2 : Int) (a3 : Int) (h : zv_H) : zv_O := zv_lim (zv_cs zv_prog d) mc9_childOf 2 [some (zv_r a0), some (zv_i a1), some (zv_i a2), some (zv_i a3), none, none] [] h
noncomputable def L9_childOf_35 (d : Nat) (a0 : Nat) (a1 : Int) (a2 : Int) (a3 : Int) (a4 : Int) (a5 : Int) (h : zv_H) : zv_O := zv_lim (zv_cs zv_prog d) mc9_childOf 35 [some (zv_r a0), some (zv_i a1), some (zv_i a2), some (zv_i a3), some (zv_i a4), some (zv_i a5)] [] h
noncomputable def C9_childrenOf (d : Nat) (a0 : Nat) (a1 : Int) (h : zv_H) := (zv_cs zv_prog d).2.1 211 [zv_r a0, zv_i a1] h
noncomputable def E9_childrenOf (d : Nat) (a0 : Nat) (a1 : Int) (h : zv_H) : zv_O := zv_lim (zv_cs zv_prog d) mc9_childrenOf 0 [some (zv_r a0), some (zv_i a1), none, none] [] h
noncomputable def L9_childrenOf_4 (d : Nat) (a0 : Nat) (a1 : Int) (a2 : Int) (a3 : Int) (h : zv_H) : zv_O := zv_lim (zv_cs zv_prog d) mc9_childrenOf 4 [some (zv_r a0), some (zv_i a1), some (zv_i a2), some (zv_i a3)] [] h
noncomputable def C9_freeState (d : Nat) (a0 : Nat) (h : zv_H) := (zv_cs zv_prog d).2.1 212 [zv_r a0] h
noncomputable def E9_freeState (d : Nat) (a0 : Nat) (h : zv_H) : zv_O := zv_lim (zv_cs zv_prog d) mc9_freeState 0 [some (zv_r a0), none] [] h
noncomputable def L9_freeState_2 (d : Nat) (a0 : Nat) (a1 : Int) (h : zv_H) : zv_O := zv_lim (zv_cs zv_prog d) mc9_freeState 2 [some (zv_r a0), some (zv_i a1)] [] h
noncomputable def C9_isNear (d : Nat) (a0 : Nat) (a1 : Int) (a2 : Int) (a3 : Int) (a4 : Int) (h : zv_H) := (zv_cs zv_prog d).2.1 213 [zv_r a0, zv_i a1, zv_i a2, zv_i a3, zv_i a4] h
noncomputable def E9_isNear (d : Nat) (a0 : Nat) (a1 : Int) (a2 : Int) (a3 : Int) (a4 : Int) (h : zv_H) : zv_O := zv_lim (zv_cs zv_prog d) mc9_isNear 0 [some (zv_r a0), some (zv_i a1), some (zv_i a2), some (zv_i a3), some (zv_i a4), none, none, none] [] h
noncomputable def L9_isNear_15 (d : Nat) (a0 : Nat) (a1 : Int) (a2 : Int) (a3 : Int) (a4 : Int) (e0 : Int) (h : zv_H) : zv_O := zv_lim (zv_cs zv_prog d) mc9_isNear 15 [some (zv_r a0), some (zv_i a1), some (zv_i a2), some (zv_i a3), some (zv_i a4), none, none, none] [zv_i e0] h
noncomputable def C9_compares (d : Nat) (a0 : Int) (a1 : Int) (a2 : Int) (h : zv_H) := (zv_cs zv_prog d).2.1 214 [zv_i a0, zv_i a1, zv_i a2] h
noncomputable def E9_compares (d : Nat) (a0 : Int) (a1 : Int) (a2 : Int) (h : zv_H) : zv_O := zv_lim (zv_cs zv_prog d) mc9_compares 0 [some (zv_i a0), some (zv_i a1), some (zv_i a2)] [] h
noncomputable def C9_holds (d : Nat) (a0 : Nat) (h : zv_H) := (zv_cs zv_prog d).2.1 215 [zv_r a0] h
noncomputable def E9_holds (d : Nat) (a0 : Nat) (h : zv_H) : zv_O := zv_lim (zv_cs zv_prog d) mc9_holds 0 [some (zv_r a0), none, none, none] [] h
noncomputable def L9_holds_60 (d : Nat) (a0 : Nat) (a1 : Int) (a2 : Int) (h : zv_H) : zv_O := zv_lim (zv_cs zv_prog d) mc9_holds 60 [some (zv_r a0), some (zv_i a1), some (zv_i a2), none] [] h
noncomputable def C9_joins (d : Nat) (a0 : Nat) (a1 : Int) (a2 : Int) (a3 : Int) (h : zv_H) := (zv_cs zv_prog d).2.1 216 [zv_r a0, zv_i a1, zv_i a2, zv_i a3] h
noncomputable def E9_joins (d : Nat) (a0 : Nat) (a1 : Int) (a2 : Int) (a3 : Int) (h : zv_H) : zv_O := zv_lim (zv_cs zv_prog d) mc9_joins 0 [some (zv_r a0), some (zv_i a1), some (zv_i a2), some (zv_i a3), none] [] h
noncomputable def L9_joins_92 (d : Nat) (a0 : Nat) (a1 : Int) (a2 : Int) (a3 : Int) (a4 : Int) (e0 : Nat) (e1 : Int) (e2 : Int) (h : zv_H) : zv_O := zv_lim (zv_cs zv_prog d) mc9_joins 92 [some (zv_r a0), some (zv_i a1), some (zv_i a2), some (zv_i a3), some (zv_i a4)] [zv_i e2, zv_i e1, zv_r e0] h
noncomputable def L9_joins_115 (d : Nat) (a0 : Nat) (a3 : Int) (e0 : Nat) (e1 : Int) (e2 : Int) (h : zv_H) : zv_O := zv_lim (zv_cs zv_prog d) mc9_joins 115 [some (zv_r a0), none, none, some (zv_i a3), none] [zv_i e2, zv_i e1, zv_r e0] h
noncomputable def C9_begins (d : Nat) (a0 : Nat) (a1 : Int) (a2 : Int) (a3 : Int) (a4 : Int) (a5 : Int) (h : zv_H) := (zv_cs zv_prog d).1 217 [zv_r a0, zv_i a1, zv_i a2, zv_i a3, zv_i a4, zv_i a5] h
noncomputable def E9_begins (d : Nat) (a0 : Nat) (a1 : Int) (a2 : Int) (a3 : Int) (a4 : Int) (a5 : Int) (h : zv_H) : zv_O := zv_lim (zv_cs zv_prog d) mc9_begins 0 [some (zv_r a0), some (zv_i a1), some (zv_i a2), some (zv_i a3), some (zv_i a4), some (zv_i a5), none] [] h
noncomputable def L9_begins_3 (d : Nat) (a0 : Nat) (a1 : Int) (a2 : Int) (a3 : Int) (a4 : Int) (a5 : Int) (a6 : Int) (h : zv_H) : zv_O := zv_lim (zv_cs zv_prog d) mc9_begins 3 [some (zv_r a0), some (zv_i a1), some (zv_i a2), some (zv_i a3), some (zv_i a4), some (zv_i a5), some (zv_i a6)] [] h
noncomputable def L9_begins_98 (d : Nat) (a0 : Nat) (a1 : Int) (e0 : Nat) (e1 : Int) (e2 : Int) (e3 : Int) (h : zv_H) : zv_O := zv_lim (zv_cs zv_prog d) mc9_begins 98 [some (zv_r a0), some (zv_i a1), none, none, none, none, none] [zv_i e3, zv_i e2, zv_i e1, zv_r e0] h
noncomputable def C9_packed (d : Nat) (a0 : Nat) (a1 : Int) (h : zv_H) := (zv_cs zv_prog d).2.1 218 [zv_r a0, zv_i a1] h
noncomputable def E9_packed (d : Nat) (a0 : Nat) (a1 : Int) (h : zv_H) : zv_O := zv_lim (zv_cs zv_prog d) mc9_packed 0 [some (zv_r a0), some (zv_i a1), none, none] [] h
noncomputable def L9_packed_4 (d : Nat) (a0 : Nat) (a1 : Int) (a2 : Int) (a3 : Int) (h : zv_H) : zv_O := zv_lim (zv_cs zv_prog d) mc9_packed 4 [some (zv_r a0), some (zv_i a1), some (zv_i a2), some (zv_i a3)] [] h
noncomputable def C9_nameAt (d : Nat) (a0 : Nat) (a1 : Int) (h : zv_H) := (zv_cs zv_prog d).2.1 219 [zv_r a0, zv_i a1] h
noncomputable def E9_nameAt (d : Nat) (a0 : Nat) (a1 : Int) (h : zv_H) : zv_O := zv_lim (zv_cs zv_prog d) mc9_nameAt 0 [some (zv_r a0), some (zv_i a1), none] [] h
noncomputable def L9_nameAt_2 (d : Nat) (a0 : Nat) (a1 : Int) (a2 : Int) (h : zv_H) : zv_O := zv_lim (zv_cs zv_prog d) mc9_nameAt 2 [some (zv_r a0), some (zv_i a1), some (zv_i a2)] [] h
noncomputable def C9_type (d : Nat) (a0 : Nat) (a1 : Int) (a2 : Int) (h : zv_H) := (zv_cs zv_prog d).2.1 220 [zv_r a0, zv_i a1, zv_i a2] h
noncomputable def E9_type (d : Nat) (a0 : Nat) (a1 : Int) (a2 : Int) (h : zv_H) : zv_O := zv_lim (zv_cs zv_prog d) mc9_type 0 [some (zv_r a0), some (zv_i a1), some (zv_i a2), none, none, none, none] [] h
noncomputable def L9_type_13 (d : Nat) (a0 : Nat) (a1 : Int) (a2 : Int) (a3 : Int) (a4 : Int) (a5 : Int) (h : zv_H) : zv_O := zv_lim (zv_cs zv_prog d) mc9_type 13 [some (zv_r a0), some (zv_i a1), some (zv_i a2), some (zv_i a3), some (zv_i a4), some (zv_i a5), none] [] h
noncomputable def L9_type_37 (d : Nat) (a0 : Nat) (a1 : Int) (a2 : Int) (a3 : Int) (a5 : Int) (e0 : Int) (h : zv_H) : zv_O := zv_lim (zv_cs zv_prog d) mc9_type 37 [some (zv_r a0), some (zv_i a1), some (zv_i a2), some (zv_i a3), none, some (zv_i a5), none] [zv_i e0] h
noncomputable def L9_type_69 (d : Nat) (a0 : Nat) (a1 : Int) (a2 : Int) (a3 : Int) (a5 : Int) (a6 : Int) (e0 : Int) (h : zv_H) : zv_O := zv_lim (zv_cs zv_prog d) mc9_type 69 [some (zv_r a0), some (zv_i a1), some (zv_i a2), some (zv_i a3), none, some (zv_i a5), some (zv_i a6)] [zv_i e0] h
noncomputable def L9_type_103 (d : Nat) (a0 : Nat) (a3 : Int) (a5 : Int) (h : zv_H) : zv_O := zv_lim (zv_cs zv_prog d) mc9_type 103 [some (zv_r a0), none, none, some (zv_i a3), none, some (zv_i a5), none] [] h
noncomputable def C9_hand (d : Nat) (a0 : Nat) (h : zv_H) := (zv_cs zv_prog d).1 221 [zv_r a0] h
noncomputable def E9_hand (d : Nat) (a0 : Nat) (h : zv_H) : zv_O := zv_lim (zv_cs zv_prog d) mc9_hand 0 [some (zv_r a0), none] [] h
noncomputable def L9_hand_2 (d : Nat) (a0 : Nat) (a1 : Int) (h : zv_H) : zv_O := zv_lim (zv_cs zv_prog d) mc9_hand 2 [some (zv_r a0), some (zv_i a1)] [] h
noncomputable def C9_putNow (d : Nat) (a0 : Nat) (a1 : Int) (h : zv_H) := (zv_cs zv_prog d).2.1 222 [zv_r a0, zv_i a1] h
noncomputable def E9_putNow (d : Nat) (a0 : Nat) (a1 : Int) (h : zv_H) : zv_O := zv_lim (zv_cs zv_prog d) mc9_putNow 0 [some (zv_r a0), some (zv_i a1), none, none, none, none] [] h
noncomputable def L9_putNow_25 (d : Nat) (a0 : Nat) (h : zv_H) : zv_O := zv_lim (zv_cs zv_prog d) mc9_putNow 25 [some (zv_r a0), none, none, none, none, none] [] h
noncomputable def L9_putNow_84 (d : Nat) (a0 : Nat) (a1 : Int) (a3 : Int) (e0 : Int) (h : zv_H) : zv_O := zv_lim (zv_cs zv_prog d) mc9_putNow 84 [some (zv_r a0), some (zv_i a1), none, some (zv_i a3), none, none] [zv_i e0] h
noncomputable def L9_putNow_110 (d : Nat) (a0 : Nat) (a3 : Int) (a4 : Int) (a5 : Int) (h : zv_H) : zv_O := zv_lim (zv_cs zv_prog d) mc9_putNow 110 [some (zv_r a0), none, none, some (zv_i a3), some (zv_i a4), some (zv_i a5)] [] h
noncomputable def L9_putNow_175 (d : Nat) (a0 : Nat) (a3 : Int) (h : zv_H) : zv_O := zv_lim (zv_cs zv_prog d) mc9_putNow 175 [some (zv_r a0), none, none, some (zv_i a3), none, none] [] h
noncomputable def C9_cutNow (d : Nat) (a0 : Nat) (a1 : Int) (a2 : Int) (h : zv_H) := (zv_cs zv_prog d).2.1 223 [zv_r a0, zv_i a1, zv_i a2] h
noncomputable def E9_cutNow (d : Nat) (a0 : Nat) (a1 : Int) (a2 : Int) (h : zv_H) : zv_O := zv_lim (zv_cs zv_prog d) mc9_cutNow 0 [some (zv_r a0), some (zv_i a1), some (zv_i a2), none, none, none] [] h
noncomputable def L9_cutNow_14 (d : Nat) (a0 : Nat) (h : zv_H) : zv_O := zv_lim (zv_cs zv_prog d) mc9_cutNow 14 [some (zv_r a0), none, none, none, none, none] [] h
noncomputable def L9_cutNow_78 (d : Nat) (a0 : Nat) (a1 : Int) (a2 : Int) (a3 : Int) (a4 : Int) (h : zv_H) : zv_O := zv_lim (zv_cs zv_prog d) mc9_cutNow 78 [some (zv_r a0), some (zv_i a1), some (zv_i a2), some (zv_i a3), some (zv_i a4), none] [] h
noncomputable def C9_plain (d : Nat) (a0 : Nat) (h : zv_H) := (zv_cs zv_prog d).1 224 [zv_r a0] h
noncomputable def E9_plain (d : Nat) (a0 : Nat) (h : zv_H) : zv_O := zv_lim (zv_cs zv_prog d) mc9_plain 0 [some (zv_r a0), none] [] h
noncomputable def L9_plain_2 (d : Nat) (a0 : Nat) (a1 : Int) (h : zv_H) : zv_O := zv_lim (zv_cs zv_prog d) mc9_plain 2 [some (zv_r a0), some (zv_i a1)] [] h
noncomputable def C9_carries (d : Nat) (a0 : Nat) (a1 : Int) (h : zv_H) := (zv_cs zv_prog d).2.1 225 [zv_r a0, zv_i a1] h
noncomputable def E9_carries (d : Nat) (a0 : Nat) (a1 : Int) (h : zv_H) : zv_O := zv_lim (zv_cs zv_prog d) mc9_carries 0 [some (zv_r a0), some (zv_i a1), none, none, none] [] h
noncomputable def L9_carries_74 (d : Nat) (a0 : Nat) (a1 : Int) (a2 : Int) (a3 : Int) (a4 : Int) (h : zv_H) : zv_O := zv_lim (zv_cs zv_prog d) mc9_carries 74 [some (zv_r a0), some (zv_i a1), some (zv_i a2), some (zv_i a3), some (zv_i a4)] [] h
noncomputable def L9_carries_104 (d : Nat) (a0 : Nat) (a1 : Int) (a2 : Int) (h : zv_H) : zv_O := zv_lim (zv_cs zv_prog d) mc9_carries 104 [some (zv_r a0), some (zv_i a1), some (zv_i a2), none, none] [] h
noncomputable def L9_carries_116 (d : Nat) (a0 : Nat) (a1 : Int) (a2 : Int) (a3 : Int) (h : zv_H) : zv_O := zv_lim (zv_cs zv_prog d) mc9_carries 116 [some (zv_r a0), some (zv_i a1), some (zv_i a2), some (zv_i a3), none] [] h
noncomputable def C9_isTaken (d : Nat) (a0 : Nat) (a1 : Int) (a2 : Int) (h : zv_H) := (zv_cs zv_prog d).2.1 226 [zv_r a0, zv_i a1, zv_i a2] h
noncomputable def E9_isTaken (d : Nat) (a0 : Nat) (a1 : Int) (a2 : Int) (h : zv_H) : zv_O := zv_lim (zv_cs zv_prog d) mc9_isTaken 0 [some (zv_r a0), some (zv_i a1), some (zv_i a2), none] [] h
noncomputable def L9_isTaken_2 (d : Nat) (a0 : Nat) (a1 : Int) (a2 : Int) (a3 : Int) (h : zv_H) : zv_O := zv_lim (zv_cs zv_prog d) mc9_isTaken 2 [some (zv_r a0), some (zv_i a1), some (zv_i a2), some (zv_i a3)] [] h
noncomputable def C9_carriesCut (d : Nat) (a0 : Nat) (a1 : Int) (h : zv_H) := (zv_cs zv_prog d).2.1 227 [zv_r a0, zv_i a1] h
noncomputable def E9_carriesCut (d : Nat) (a0 : Nat) (a1 : Int) (h : zv_H) : zv_O := zv_lim (zv_cs zv_prog d) mc9_carriesCut 0 [some (zv_r a0), some (zv_i a1), none, none, none, none] [] h
noncomputable def L9_carriesCut_18 (d : Nat) (a0 : Nat) (a1 : Int) (a2 : Int) (a3 : Int) (a4 : Int) (a5 : Int) (h : zv_H) : zv_O := zv_lim (zv_cs zv_prog d) mc9_carriesCut 18 [some (zv_r a0), some (zv_i a1), some (zv_i a2), some (zv_i a3), some (zv_i a4), some (zv_i a5)] [] h
noncomputable def L9_carriesCut_69 (d : Nat) (a0 : Nat) (a1 : Int) (a2 : Int) (a3 : Int) (a4 : Int) (a5 : Int) (h : zv_H) : zv_O := zv_lim (zv_cs zv_prog d) mc9_carriesCut 69 [some (zv_r a0), some (zv_i a1), some (zv_i a2), some (zv_i a3), some (zv_i a4), some (zv_i a5)] [] h
noncomputable def C9_carryNow (d : Nat) (a0 : Nat) (a1 : Int) (h : zv_H) := (zv_cs zv_prog d).2.1 228 [zv_r a0, zv_i a1] h
noncomputable def E9_carryNow (d : Nat) (a0 : Nat) (a1 : Int) (h : zv_H) : zv_O := zv_lim (zv_cs zv_prog d) mc9_carryNow 0 [some (zv_r a0), some (zv_i a1)] [] h
noncomputable def L9_carryNow_34 (d : Nat) (a0 : Nat) (h : zv_H) : zv_O := zv_lim (zv_cs zv_prog d) mc9_carryNow 34 [some (zv_r a0), none] [] h
noncomputable def C9_mergeNow (d : Nat) (a0 : Nat) (a1 : Int) (h : zv_H) := (zv_cs zv_prog d).2.1 229 [zv_r a0, zv_i a1] h
noncomputable def E9_mergeNow (d : Nat) (a0 : Nat) (a1 : Int) (h : zv_H) : zv_O := zv_lim (zv_cs zv_prog d) mc9_mergeNow 0 [some (zv_r a0), some (zv_i a1), none, none, none, none] [] h
noncomputable def L9_mergeNow_44 (d : Nat) (a0 : Nat) (a2 : Int) (a3 : Int) (h : zv_H) : zv_O := zv_lim (zv_cs zv_prog d) mc9_mergeNow 44 [some (zv_r a0), none, some (zv_i a2), some (zv_i a3), none, none] [] h
noncomputable def L9_mergeNow_136 (d : Nat) (a0 : Nat) (a2 : Int) (a3 : Int) (a4 : Int) (h : zv_H) : zv_O := zv_lim (zv_cs zv_prog d) mc9_mergeNow 136 [some (zv_r a0), none, some (zv_i a2), some (zv_i a3), some (zv_i a4), none] [] h
noncomputable def L9_mergeNow_187 (d : Nat) (a0 : Nat) (a2 : Int) (a3 : Int) (a4 : Int) (a5 : Int) (h : zv_H) : zv_O := zv_lim (zv_cs zv_prog d) mc9_mergeNow 187 [some (zv_r a0), none, some (zv_i a2), some (zv_i a3), some (zv_i a4), some (zv_i a5)] [] h
noncomputable def L9_mergeNow_198 (d : Nat) (a0 : Nat) (a2 : Int) (a4 : Int) (a5 : Int) (e0 : Int) (e1 : Int) (h : zv_H) : zv_O := zv_lim (zv_cs zv_prog d) mc9_mergeNow 198 [some (zv_r a0), none, some (zv_i a2), none, some (zv_i a4), some (zv_i a5)] [zv_i e1, zv_i e0] h
noncomputable def C9_undoNow (d : Nat) (a0 : Nat) (h : zv_H) := (zv_cs zv_prog d).2.1 230 [zv_r a0] h
noncomputable def E9_undoNow (d : Nat) (a0 : Nat) (h : zv_H) : zv_O := zv_lim (zv_cs zv_prog d) mc9_undoNow 0 [some (zv_r a0)] [] h
noncomputable def C9_redoNow (d : Nat) (a0 : Nat) (h : zv_H) := (zv_cs zv_prog d).2.1 231 [zv_r a0] h
noncomputable def E9_redoNow (d : Nat) (a0 : Nat) (h : zv_H) : zv_O := zv_lim (zv_cs zv_prog d) mc9_redoNow 0 [some (zv_r a0), none, none, none] [] h
noncomputable def L9_redoNow_35 (d : Nat) (a0 : Nat) (a1 : Int) (a2 : Int) (a3 : Int) (h : zv_H) : zv_O := zv_lim (zv_cs zv_prog d) mc9_redoNow 35 [some (zv_r a0), some (zv_i a1), some (zv_i a2), some (zv_i a3)] [] h
noncomputable def L9_redoNow_62 (d : Nat) (a0 : Nat) (a1 : Int) (h : zv_H) : zv_O := zv_lim (zv_cs zv_prog d) mc9_redoNow 62 [some (zv_r a0), some (zv_i a1), none, none] [] h
noncomputable def C9_commonOf (d : Nat) (a0 : Nat) (a1 : Int) (a2 : Int) (h : zv_H) := (zv_cs zv_prog d).2.1 232 [zv_r a0, zv_i a1, zv_i a2] h
noncomputable def E9_commonOf (d : Nat) (a0 : Nat) (a1 : Int) (a2 : Int) (h : zv_H) : zv_O := zv_lim (zv_cs zv_prog d) mc9_commonOf 0 [some (zv_r a0), some (zv_i a1), some (zv_i a2), none] [] h
noncomputable def L9_commonOf_2 (d : Nat) (a0 : Nat) (a2 : Int) (a3 : Int) (h : zv_H) : zv_O := zv_lim (zv_cs zv_prog d) mc9_commonOf 2 [some (zv_r a0), none, some (zv_i a2), some (zv_i a3)] [] h
noncomputable def C9_wayMany (d : Nat) (a0 : Nat) (a1 : Int) (a2 : Int) (h : zv_H) := (zv_cs zv_prog d).2.1 233 [zv_r a0, zv_i a1, zv_i a2] h
noncomputable def E9_wayMany (d : Nat) (a0 : Nat) (a1 : Int) (a2 : Int) (h : zv_H) : zv_O := zv_lim (zv_cs zv_prog d) mc9_wayMany 0 [some (zv_r a0), some (zv_i a1), some (zv_i a2)] [] h
noncomputable def C9_goNow (d : Nat) (a0 : Nat) (a1 : Int) (h : zv_H) := (zv_cs zv_prog d).2.1 234 [zv_r a0, zv_i a1] h
noncomputable def E9_goNow (d : Nat) (a0 : Nat) (a1 : Int) (h : zv_H) : zv_O := zv_lim (zv_cs zv_prog d) mc9_goNow 0 [some (zv_r a0), some (zv_i a1), none] [] h
noncomputable def C9_nameNow (d : Nat) (a0 : Nat) (h : zv_H) := (zv_cs zv_prog d).2.1 235 [zv_r a0] h
noncomputable def E9_nameNow (d : Nat) (a0 : Nat) (h : zv_H) : zv_O := zv_lim (zv_cs zv_prog d) mc9_nameNow 0 [some (zv_r a0), none, none] [] h
noncomputable def L9_nameNow_58 (d : Nat) (a0 : Nat) (a1 : Int) (a2 : Int) (h : zv_H) : zv_O := zv_lim (zv_cs zv_prog d) mc9_nameNow 58 [some (zv_r a0), some (zv_i a1), some (zv_i a2)] [] h
noncomputable def L9_nameNow_89 (d : Nat) (a0 : Nat) (a1 : Int) (a2 : Int) (h : zv_H) : zv_O := zv_lim (zv_cs zv_prog d) mc9_nameNow 89 [some (zv_r a0), some (zv_i a1), some (zv_i a2)] [] h
noncomputable def L9_nameNow_110 (d : Nat) (a0 : Nat) (a1 : Int) (a2 : Int) (h : zv_H) : zv_O := zv_lim (zv_cs zv_prog d) mc9_nameNow 110 [some (zv_r a0), some (zv_i a1), some (zv_i a2)] [] h
noncomputable def C9_leansOn (d : Nat) (a0 : Nat) (a1 : Int) (a2 : Int) (h : zv_H) := (zv_cs zv_prog d).2.1 236 [zv_r a0, zv_i a1, zv_i a2] h
noncomputable def E9_leansOn (d : Nat) (a0 : Nat) (a1 : Int) (a2 : Int) (h : zv_H) : zv_O := zv_lim (zv_cs zv_prog d) mc9_leansOn 0 [some (zv_r a0), some (zv_i a1), some (zv_i a2), none] [] h
noncomputable def L9_leansOn_28 (d : Nat) (a0 : Nat) (a1 : Int) (a2 : Int) (a3 : Int) (h : zv_H) : zv_O := zv_lim (zv_cs zv_prog d) mc9_leansOn 28 [some (zv_r a0), some (zv_i a1), some (zv_i a2), some (zv_i a3)] [] h
noncomputable def C9_marks (d : Nat) (a0 : Nat) (a1 : Int) (a2 : Int) (h : zv_H) := (zv_cs zv_prog d).1 237 [zv_r a0, zv_i a1, zv_i a2] h
noncomputable def E9_marks (d : Nat) (a0 : Nat) (a1 : Int) (a2 : Int) (h : zv_H) : zv_O := zv_lim (zv_cs zv_prog d) mc9_marks 0 [some (zv_r a0), some (zv_i a1), some (zv_i a2), none, none, none, none] [] h
noncomputable def L9_marks_10 (d : Nat) (a0 : Nat) (a1 : Int) (a2 : Int) (a3 : Int) (h : zv_H) : zv_O := zv_lim (zv_cs zv_prog d) mc9_marks 10 [some (zv_r a0), some (zv_i a1), some (zv_i a2), some (zv_i a3), none, none, none] [] h
noncomputable def L9_marks_40 (d : Nat) (a0 : Nat) (a2 : Int) (a3 : Int) (h : zv_H) : zv_O := zv_lim (zv_cs zv_prog d) mc9_marks 40 [some (zv_r a0), none, some (zv_i a2), some (zv_i a3), none, none, none] [] h
noncomputable def L9_marks_72 (d : Nat) (a0 : Nat) (a2 : Int) (a3 : Int) (a4 : Int) (a5 : Int) (h : zv_H) : zv_O := zv_lim (zv_cs zv_prog d) mc9_marks 72 [some (zv_r a0), none, some (zv_i a2), some (zv_i a3), some (zv_i a4), some (zv_i a5), none] [] h
noncomputable def C9_triesNames (d : Nat) (a0 : Nat) (a1 : Int) (h : zv_H) := (zv_cs zv_prog d).2.1 238 [zv_r a0, zv_i a1] h
noncomputable def E9_triesNames (d : Nat) (a0 : Nat) (a1 : Int) (h : zv_H) : zv_O := zv_lim (zv_cs zv_prog d) mc9_triesNames 0 [some (zv_r a0), some (zv_i a1), none, none] [] h
noncomputable def L9_triesNames_22 (d : Nat) (a0 : Nat) (a1 : Int) (a2 : Int) (a3 : Int) (h : zv_H) : zv_O := zv_lim (zv_cs zv_prog d) mc9_triesNames 22 [some (zv_r a0), some (zv_i a1), some (zv_i a2), some (zv_i a3)] [] h
noncomputable def L9_triesNames_65 (d : Nat) (a0 : Nat) (a1 : Int) (a2 : Int) (a3 : Int) (e0 : Int) (e1 : Int) (h : zv_H) : zv_O := zv_lim (zv_cs zv_prog d) mc9_triesNames 65 [some (zv_r a0), some (zv_i a1), some (zv_i a2), some (zv_i a3)] [zv_i e1, zv_i e0] h
noncomputable def C9_turnNow (d : Nat) (a0 : Nat) (a1 : Int) (a2 : Int) (h : zv_H) := (zv_cs zv_prog d).2.1 239 [zv_r a0, zv_i a1, zv_i a2] h
noncomputable def E9_turnNow (d : Nat) (a0 : Nat) (a1 : Int) (a2 : Int) (h : zv_H) : zv_O := zv_lim (zv_cs zv_prog d) mc9_turnNow 0 [some (zv_r a0), some (zv_i a1), some (zv_i a2), none, none] [] h
noncomputable def L9_turnNow_34 (d : Nat) (a0 : Nat) (h : zv_H) : zv_O := zv_lim (zv_cs zv_prog d) mc9_turnNow 34 [some (zv_r a0), none, none, none, none] [] h
noncomputable def L9_turnNow_65 (d : Nat) (a0 : Nat) (a1 : Int) (a2 : Int) (e0 : Int) (e1 : Int) (h : zv_H) : zv_O := zv_lim (zv_cs zv_prog d) mc9_turnNow 65 [some (zv_r a0), some (zv_i a1), some (zv_i a2), none, none] [zv_i e1, zv_i e0] h
noncomputable def L9_turnNow_101 (d : Nat) (a0 : Nat) (a2 : Int) (e0 : Nat) (e1 : Int) (e2 : Int) (h : zv_H) : zv_O := zv_lim (zv_cs zv_prog d) mc9_turnNow 101 [some (zv_r a0), none, some (zv_i a2), none, none] [zv_i e2, zv_i e1, zv_r e0] h
noncomputable def C9_lays (d : Nat) (a0 : Nat) (a1 : Int) (h : zv_H) := (zv_cs zv_prog d).1 240 [zv_r a0, zv_i a1] h
noncomputable def E9_lays (d : Nat) (a0 : Nat) (a1 : Int) (h : zv_H) : zv_O := zv_lim (zv_cs zv_prog d) mc9_lays 0 [some (zv_r a0), some (zv_i a1), none] [] h
noncomputable def L9_lays_3 (d : Nat) (a0 : Nat) (a1 : Int) (a2 : Int) (h : zv_H) : zv_O := zv_lim (zv_cs zv_prog d) mc9_lays 3 [some (zv_r a0), some (zv_i a1), some (zv_i a2)] [] h
noncomputable def C9_feed (d : Nat) (a0 : Nat) (a1 : Int) (a2 : Int) (a3 : Int) (a4 : Int) (a5 : Int) (h : zv_H) := (zv_cs zv_prog d).2.1 241 [zv_r a0, zv_i a1, zv_i a2, zv_i a3, zv_i a4, zv_i a5] h
noncomputable def E9_feed (d : Nat) (a0 : Nat) (a1 : Int) (a2 : Int) (a3 : Int) (a4 : Int) (a5 : Int) (h : zv_H) : zv_O := zv_lim (zv_cs zv_prog d) mc9_feed 0 [some (zv_r a0), some (zv_i a1), some (zv_i a2), some (zv_i a3), some (zv_i a4), some (zv_i a5)] [] h
noncomputable def C9_isOf (d : Nat) (a0 : Nat) (a1 : Int) (a2 : Int) (a3 : Int) (h : zv_H) := (zv_cs zv_prog d).2.1 242 [zv_r a0, zv_i a1, zv_i a2, zv_i a3] h
noncomputable def E9_isOf (d : Nat) (a0 : Nat) (a1 : Int) (a2 : Int) (a3 : Int) (h : zv_H) : zv_O := zv_lim (zv_cs zv_prog d) mc9_isOf 0 [some (zv_r a0), some (zv_i a1), some (zv_i a2), some (zv_i a3)] [] h
noncomputable def C9_reads (d : Nat) (a0 : Nat) (h : zv_H) := (zv_cs zv_prog d).1 243 [zv_r a0] h
noncomputable def E9_reads (d : Nat) (a0 : Nat) (h : zv_H) : zv_O := zv_lim (zv_cs zv_prog d) mc9_reads 0 [some (zv_r a0)] [] h
noncomputable def L9_reads_8 (d : Nat) (a0 : Nat) (h : zv_H) : zv_O := zv_lim (zv_cs zv_prog d) mc9_reads 8 [some (zv_r a0)] [] h
noncomputable def L9_reads_60 (d : Nat) (a0 : Nat) (h : zv_H) : zv_O := zv_lim (zv_cs zv_prog d) mc9_reads 60 [some (zv_r a0)] [] h
noncomputable def L9_reads_110 (d : Nat) (a0 : Nat) (e0 : Nat) (e1 : Int) (h : zv_H) : zv_O := zv_lim (zv_cs zv_prog d) mc9_reads 110 [some (zv_r a0)] [zv_i e1, zv_r e0] h
noncomputable def L9_reads_146 (d : Nat) (a0 : Nat) (h : zv_H) : zv_O := zv_lim (zv_cs zv_prog d) mc9_reads 146 [some (zv_r a0)] [] h
noncomputable def L9_reads_250 (d : Nat) (a0 : Nat) (h : zv_H) : zv_O := zv_lim (zv_cs zv_prog d) mc9_reads 250 [some (zv_r a0)] [] h
noncomputable def C9_must (d : Nat) (a0 : Nat) (a1 : Int) (a2 : Int) (h : zv_H) := (zv_cs zv_prog d).1 244 [zv_r a0, zv_i a1, zv_i a2] h
noncomputable def E9_must (d : Nat) (a0 : Nat) (a1 : Int) (a2 : Int) (h : zv_H) : zv_O := zv_lim (zv_cs zv_prog d) mc9_must 0 [some (zv_r a0), some (zv_i a1), some (zv_i a2)] [] h
noncomputable def C9_which (d : Nat) (a0 : Nat) (a1 : Nat) (h : zv_H) := (zv_cs zv_prog d).2.1 245 [zv_r a0, zv_r a1] h
noncomputable def E9_which (d : Nat) (a0 : Nat) (a1 : Nat) (h : zv_H) : zv_O := zv_lim (zv_cs zv_prog d) mc9_which 0 [some (zv_r a0), some (zv_r a1), none] [] h
noncomputable def L9_which_2 (d : Nat) (a0 : Nat) (a1 : Nat) (a2 : Int) (h : zv_H) : zv_O := zv_lim (zv_cs zv_prog d) mc9_which 2 [some (zv_r a0), some (zv_r a1), some (zv_i a2)] [] h
noncomputable def C9_isSign (d : Nat) (a0 : Nat) (a1 : Int) (h : zv_H) := (zv_cs zv_prog d).2.1 246 [zv_r a0, zv_i a1] h
noncomputable def E9_isSign (d : Nat) (a0 : Nat) (a1 : Int) (h : zv_H) : zv_O := zv_lim (zv_cs zv_prog d) mc9_isSign 0 [some (zv_r a0), some (zv_i a1)] [] h
noncomputable def C9_takes (d : Nat) (a0 : Nat) (a1 : Int) (h : zv_H) := (zv_cs zv_prog d).1 247 [zv_r a0, zv_i a1] h
noncomputable def E9_takes (d : Nat) (a0 : Nat) (a1 : Int) (h : zv_H) : zv_O := zv_lim (zv_cs zv_prog d) mc9_takes 0 [some (zv_r a0), some (zv_i a1)] [] h
noncomputable def C9_takesNumber (d : Nat) (a0 : Nat) (h : zv_H) := (zv_cs zv_prog d).2.1 248 [zv_r a0] h
noncomputable def E9_takesNumber (d : Nat) (a0 : Nat) (h : zv_H) : zv_O := zv_lim (zv_cs zv_prog d) mc9_takesNumber 0 [some (zv_r a0), none] [] h
noncomputable def L9_takesNumber_14 (d : Nat) (a0 : Nat) (e0 : Nat) (e1 : Int) (h : zv_H) : zv_O := zv_lim (zv_cs zv_prog d) mc9_takesNumber 14 [some (zv_r a0), none] [zv_i e1, zv_r e0] h
noncomputable def C9_takesWord (d : Nat) (a0 : Nat) (a1 : Int) (h : zv_H) := (zv_cs zv_prog d).1 249 [zv_r a0, zv_i a1] h
noncomputable def E9_takesWord (d : Nat) (a0 : Nat) (a1 : Int) (h : zv_H) : zv_O := zv_lim (zv_cs zv_prog d) mc9_takesWord 0 [some (zv_r a0), some (zv_i a1), none] [] h
noncomputable def L9_takesWord_14 (d : Nat) (a0 : Nat) (a1 : Int) (e0 : Nat) (e1 : Int) (h : zv_H) : zv_O := zv_lim (zv_cs zv_prog d) mc9_takesWord 14 [some (zv_r a0), some (zv_i a1), none] [zv_i e1, zv_r e0] h
noncomputable def L9_takesWord_37 (d : Nat) (a0 : Nat) (e0 : Nat) (e1 : Int) (h : zv_H) : zv_O := zv_lim (zv_cs zv_prog d) mc9_takesWord 37 [some (zv_r a0), none, none] [zv_i e1, zv_r e0] h
noncomputable def L9_takesWord_64 (d : Nat) (a0 : Nat) (a2 : Int) (h : zv_H) : zv_O := zv_lim (zv_cs zv_prog d) mc9_takesWord 64 [some (zv_r a0), none, some (zv_i a2)] [] h
noncomputable def C9_emits (d : Nat) (a0 : Nat) (a1 : Int) (h : zv_H) := (zv_cs zv_prog d).1 250 [zv_r a0, zv_i a1] h
noncomputable def E9_emits (d : Nat) (a0 : Nat) (a1 : Int) (h : zv_H) : zv_O := zv_lim (zv_cs zv_prog d) mc9_emits 0 [some (zv_r a0), some (zv_i a1)] [] h
noncomputable def C9_test (d : Nat) (a0 : Nat) (h : zv_H) := (zv_cs zv_prog d).1 251 [zv_r a0] h
noncomputable def E9_test (d : Nat) (a0 : Nat) (h : zv_H) : zv_O := zv_lim (zv_cs zv_prog d) mc9_test 0 [some (zv_r a0)] [] h
noncomputable def L9_test_4 (d : Nat) (a0 : Nat) (h : zv_H) : zv_O := zv_lim (zv_cs zv_prog d) mc9_test 4 [some (zv_r a0)] [] h
noncomputable def C9_side (d : Nat) (a0 : Nat) (h : zv_H) := (zv_cs zv_prog d).1 252 [zv_r a0] h
noncomputable def E9_side (d : Nat) (a0 : Nat) (h : zv_H) : zv_O := zv_lim (zv_cs zv_prog d) mc9_side 0 [some (zv_r a0)] [] h
noncomputable def L9_side_4 (d : Nat) (a0 : Nat) (h : zv_H) : zv_O := zv_lim (zv_cs zv_prog d) mc9_side 4 [some (zv_r a0)] [] h
noncomputable def C9_fact (d : Nat) (a0 : Nat) (h : zv_H) := (zv_cs zv_prog d).1 253 [zv_r a0] h
noncomputable def E9_fact (d : Nat) (a0 : Nat) (h : zv_H) : zv_O := zv_lim (zv_cs zv_prog d) mc9_fact 0 [some (zv_r a0), none, none, none, none] [] h
noncomputable def L9_fact_17 (d : Nat) (a0 : Nat) (e0 : Int) (h : zv_H) : zv_O := zv_lim (zv_cs zv_prog d) mc9_fact 17 [some (zv_r a0), none, none, none, none] [zv_i e0] h
noncomputable def L9_fact_38 (d : Nat) (a0 : Nat) (a1 : Int) (h : zv_H) : zv_O := zv_lim (zv_cs zv_prog d) mc9_fact 38 [some (zv_r a0), some (zv_i a1), none, none, none] [] h
noncomputable def L9_fact_53 (d : Nat) (a0 : Nat) (a1 : Int) (e0 : Nat) (e1 : Int) (h : zv_H) : zv_O := zv_lim (zv_cs zv_prog d) mc9_fact 53 [some (zv_r a0), some (zv_i a1), none, none, none] [zv_i e1, zv_r e0] h
noncomputable def L9_fact_117 (d : Nat) (a0 : Nat) (h : zv_H) : zv_O := zv_lim (zv_cs zv_prog d) mc9_fact 117 [some (zv_r a0), none, none, none, none] [] h
noncomputable def L9_fact_136 (d : Nat) (a0 : Nat) (a2 : Int) (e0 : Nat) (e1 : Int) (h : zv_H) : zv_O := zv_lim (zv_cs zv_prog d) mc9_fact 136 [some (zv_r a0), none, some (zv_i a2), none, none] [zv_i e1, zv_r e0] h
noncomputable def L9_fact_192 (d : Nat) (a0 : Nat) (a2 : Int) (e0 : Int) (h : zv_H) : zv_O := zv_lim (zv_cs zv_prog d) mc9_fact 192 [some (zv_r a0), none, some (zv_i a2), none, none] [zv_i e0] h
noncomputable def L9_fact_203 (d : Nat) (a0 : Nat) (a2 : Int) (a3 : Int) (e0 : Nat) (e1 : Int) (h : zv_H) : zv_O := zv_lim (zv_cs zv_prog d) mc9_fact 203 [some (zv_r a0), none, some (zv_i a2), some (zv_i a3), none] [zv_i e1, zv_r e0] h
noncomputable def L9_fact_218 (d : Nat) (a0 : Nat) (a2 : Int) (a3 : Int) (h : zv_H) : zv_O := zv_lim (zv_cs zv_prog d) mc9_fact 218 [some (zv_r a0), none, some (zv_i a2), some (zv_i a3), none] [] h
noncomputable def C9_readsLine (d : Nat) (a0 : Nat) (h : zv_H) := (zv_cs zv_prog d).1 254 [zv_r a0] h
noncomputable def E9_readsLine (d : Nat) (a0 : Nat) (h : zv_H) : zv_O := zv_lim (zv_cs zv_prog d) mc9_readsLine 0 [some (zv_r a0), none] [] h
noncomputable def L9_readsLine_19 (d : Nat) (a0 : Nat) (a1 : Int) (e0 : Nat) (e1 : Int) (h : zv_H) : zv_O := zv_lim (zv_cs zv_prog d) mc9_readsLine 19 [some (zv_r a0), some (zv_i a1)] [zv_i e1, zv_r e0] h
noncomputable def L9_readsLine_61 (d : Nat) (a0 : Nat) (a1 : Int) (h : zv_H) : zv_O := zv_lim (zv_cs zv_prog d) mc9_readsLine 61 [some (zv_r a0), some (zv_i a1)] [] h
noncomputable def L9_readsLine_69 (d : Nat) (a0 : Nat) (a1 : Int) (h : zv_H) : zv_O := zv_lim (zv_cs zv_prog d) mc9_readsLine 69 [some (zv_r a0), some (zv_i a1)] [] h
noncomputable def L9_readsLine_82 (d : Nat) (a0 : Nat) (a1 : Int) (h : zv_H) : zv_O := zv_lim (zv_cs zv_prog d) mc9_readsLine 82 [some (zv_r a0), some (zv_i a1)] [] h
noncomputable def L9_readsLine_92 (d : Nat) (a0 : Nat) (a1 : Int) (h : zv_H) : zv_O := zv_lim (zv_cs zv_prog d) mc9_readsLine 92 [some (zv_r a0), some (zv_i a1)] [] h
noncomputable def L9_readsLine_104 (d : Nat) (a0 : Nat) (a1 : Int) (h : zv_H) : zv_O := zv_lim (zv_cs zv_prog d) mc9_readsLine 104 [some (zv_r a0), some (zv_i a1)] [] h
noncomputable def L9_readsLine_131 (d : Nat) (a0 : Nat) (a1 : Int) (e0 : Nat) (h : zv_H) : zv_O := zv_lim (zv_cs zv_prog d) mc9_readsLine 131 [some (zv_r a0), some (zv_i a1)] [zv_r e0] h
noncomputable def L9_readsLine_132 (d : Nat) (a0 : Nat) (a1 : Int) (e0 : Nat) (e1 : Int) (h : zv_H) : zv_O := zv_lim (zv_cs zv_prog d) mc9_readsLine 132 [some (zv_r a0), some (zv_i a1)] [zv_i e1, zv_r e0] h
noncomputable def L9_readsLine_158 (d : Nat) (a0 : Nat) (e0 : Nat) (e1 : Int) (h : zv_H) : zv_O := zv_lim (zv_cs zv_prog d) mc9_readsLine 158 [some (zv_r a0), none] [zv_i e1, zv_r e0] h
noncomputable def C9_does (d : Nat) (a0 : Nat) (a1 : Int) (h : zv_H) := (zv_cs zv_prog d).2.1 255 [zv_r a0, zv_i a1] h
noncomputable def E9_does (d : Nat) (a0 : Nat) (a1 : Int) (h : zv_H) : zv_O := zv_lim (zv_cs zv_prog d) mc9_does 0 [some (zv_r a0), some (zv_i a1)] [] h
noncomputable def C9_load (d : Nat) (a0 : Nat) (a1 : Int) (h : zv_H) := (zv_cs zv_prog d).2.1 256 [zv_r a0, zv_i a1] h
noncomputable def E9_load (d : Nat) (a0 : Nat) (a1 : Int) (h : zv_H) : zv_O := zv_lim (zv_cs zv_prog d) mc9_load 0 [some (zv_r a0), some (zv_i a1), none] [] h
noncomputable def L9_load_18 (d : Nat) (a0 : Nat) (a1 : Int) (e0 : Nat) (e1 : Int) (h : zv_H) : zv_O := zv_lim (zv_cs zv_prog d) mc9_load 18 [some (zv_r a0), some (zv_i a1), none] [zv_i e1, zv_r e0] h
noncomputable def L9_load_48 (d : Nat) (a0 : Nat) (a2 : Int) (h : zv_H) : zv_O := zv_lim (zv_cs zv_prog d) mc9_load 48 [some (zv_r a0), none, some (zv_i a2)] [] h
noncomputable def L9_load_104 (d : Nat) (a0 : Nat) (a2 : Int) (h : zv_H) : zv_O := zv_lim (zv_cs zv_prog d) mc9_load 104 [some (zv_r a0), none, some (zv_i a2)] [] h
noncomputable def L9_load_140 (d : Nat) (a0 : Nat) (h : zv_H) : zv_O := zv_lim (zv_cs zv_prog d) mc9_load 140 [some (zv_r a0), none, none] [] h
noncomputable def L9_load_156 (d : Nat) (a0 : Nat) (h : zv_H) : zv_O := zv_lim (zv_cs zv_prog d) mc9_load 156 [some (zv_r a0), none, none] [] h
noncomputable def L9_load_182 (d : Nat) (a0 : Nat) (h : zv_H) : zv_O := zv_lim (zv_cs zv_prog d) mc9_load 182 [some (zv_r a0), none, none] [] h
noncomputable def L9_load_203 (d : Nat) (a0 : Nat) (h : zv_H) : zv_O := zv_lim (zv_cs zv_prog d) mc9_load 203 [some (zv_r a0), none, none] [] h
noncomputable def L9_load_232 (d : Nat) (a0 : Nat) (e0 : Nat) (e1 : Int) (h : zv_H) : zv_O := zv_lim (zv_cs zv_prog d) mc9_load 232 [some (zv_r a0), none, none] [zv_i e1, zv_r e0] h
noncomputable def L9_load_254 (d : Nat) (a0 : Nat) (a2 : Int) (h : zv_H) : zv_O := zv_lim (zv_cs zv_prog d) mc9_load 254 [some (zv_r a0), none, some (zv_i a2)] [] h
noncomputable def C9_fault (d : Nat) (a0 : Nat) (a1 : Int) (h : zv_H) := (zv_cs zv_prog d).2.1 257 [zv_r a0, zv_i a1] h
noncomputable def E9_fault (d : Nat) (a0 : Nat) (a1 : Int) (h : zv_H) : zv_O := zv_lim (zv_cs zv_prog d) mc9_fault 0 [some (zv_r a0), some (zv_i a1)] [] h
noncomputable def C9_leaves (d : Nat) (a0 : Nat) (h : zv_H) := (zv_cs zv_prog d).2.1 258 [zv_r a0] h
noncomputable def E9_leaves (d : Nat) (a0 : Nat) (h : zv_H) : zv_O := zv_lim (zv_cs zv_prog d) mc9_leaves 0 [some (zv_r a0), none, none] [] h
noncomputable def L9_leaves_4 (d : Nat) (a0 : Nat) (a1 : Int) (a2 : Int) (h : zv_H) : zv_O := zv_lim (zv_cs zv_prog d) mc9_leaves 4 [some (zv_r a0), some (zv_i a1), some (zv_i a2)] [] h
noncomputable def C9_groups (d : Nat) (a0 : Nat) (h : zv_H) := (zv_cs zv_prog d).2.1 259 [zv_r a0] h
noncomputable def E9_groups (d : Nat) (a0 : Nat) (h : zv_H) : zv_O := zv_lim (zv_cs zv_prog d) mc9_groups 0 [some (zv_r a0), none, none] [] h
noncomputable def L9_groups_7 (d : Nat) (a0 : Nat) (a1 : Int) (a2 : Int) (h : zv_H) : zv_O := zv_lim (zv_cs zv_prog d) mc9_groups 7 [some (zv_r a0), some (zv_i a1), some (zv_i a2)] [] h
noncomputable def L9_groups_28 (d : Nat) (a0 : Nat) (a2 : Int) (e0 : Int) (e1 : Int) (h : zv_H) : zv_O := zv_lim (zv_cs zv_prog d) mc9_groups 28 [some (zv_r a0), none, some (zv_i a2)] [zv_i e1, zv_i e0] h
noncomputable def C9_gone (d : Nat) (a0 : Nat) (h : zv_H) := (zv_cs zv_prog d).2.1 260 [zv_r a0] h
noncomputable def E9_gone (d : Nat) (a0 : Nat) (h : zv_H) : zv_O := zv_lim (zv_cs zv_prog d) mc9_gone 0 [some (zv_r a0), none, none] [] h
noncomputable def L9_gone_12 (d : Nat) (a0 : Nat) (a1 : Int) (a2 : Int) (h : zv_H) : zv_O := zv_lim (zv_cs zv_prog d) mc9_gone 12 [some (zv_r a0), some (zv_i a1), some (zv_i a2)] [] h
noncomputable def C9_many (d : Nat) (a0 : Nat) (a1 : Int) (h : zv_H) := (zv_cs zv_prog d).2.1 261 [zv_r a0, zv_i a1] h
noncomputable def E9_many (d : Nat) (a0 : Nat) (a1 : Int) (h : zv_H) : zv_O := zv_lim (zv_cs zv_prog d) mc9_many 0 [some (zv_r a0), some (zv_i a1)] [] h
noncomputable def L9_many_16 (d : Nat) (a0 : Nat) (a1 : Int) (e0 : Nat) (e1 : Int) (h : zv_H) : zv_O := zv_lim (zv_cs zv_prog d) mc9_many 16 [some (zv_r a0), some (zv_i a1)] [zv_i e1, zv_r e0] h
noncomputable def C9_letter (d : Nat) (a0 : Nat) (a1 : Int) (a2 : Int) (h : zv_H) := (zv_cs zv_prog d).2.1 262 [zv_r a0, zv_i a1, zv_i a2] h
noncomputable def E9_letter (d : Nat) (a0 : Nat) (a1 : Int) (a2 : Int) (h : zv_H) : zv_O := zv_lim (zv_cs zv_prog d) mc9_letter 0 [some (zv_r a0), some (zv_i a1), some (zv_i a2)] [] h
noncomputable def L9_letter_22 (d : Nat) (a0 : Nat) (a1 : Int) (a2 : Int) (e0 : Nat) (e1 : Int) (h : zv_H) : zv_O := zv_lim (zv_cs zv_prog d) mc9_letter 22 [some (zv_r a0), some (zv_i a1), some (zv_i a2)] [zv_i e1, zv_r e0] h
noncomputable def C9_namesOf (d : Nat) (a0 : Nat) (a1 : Int) (h : zv_H) := (zv_cs zv_prog d).2.1 263 [zv_r a0, zv_i a1] h
noncomputable def E9_namesOf (d : Nat) (a0 : Nat) (a1 : Int) (h : zv_H) : zv_O := zv_lim (zv_cs zv_prog d) mc9_namesOf 0 [some (zv_r a0), some (zv_i a1), none, none] [] h
noncomputable def L9_namesOf_4 (d : Nat) (a0 : Nat) (a1 : Int) (a2 : Int) (a3 : Int) (h : zv_H) : zv_O := zv_lim (zv_cs zv_prog d) mc9_namesOf 4 [some (zv_r a0), some (zv_i a1), some (zv_i a2), some (zv_i a3)] [] h
noncomputable def C9_state (d : Nat) (a0 : Nat) (a1 : Int) (a2 : Int) (h : zv_H) := (zv_cs zv_prog d).2.1 264 [zv_r a0, zv_i a1, zv_i a2] h
noncomputable def E9_state (d : Nat) (a0 : Nat) (a1 : Int) (a2 : Int) (h : zv_H) : zv_O := zv_lim (zv_cs zv_prog d) mc9_state 0 [some (zv_r a0), some (zv_i a1), some (zv_i a2)] [] h
noncomputable def L9_state_28 (d : Nat) (a0 : Nat) (a1 : Int) (a2 : Int) (e0 : Nat) (e1 : Int) (h : zv_H) : zv_O := zv_lim (zv_cs zv_prog d) mc9_state 28 [some (zv_r a0), some (zv_i a1), some (zv_i a2)] [zv_i e1, zv_r e0] h
noncomputable def C9_child (d : Nat) (a0 : Nat) (a1 : Int) (a2 : Int) (h : zv_H) := (zv_cs zv_prog d).2.1 265 [zv_r a0, zv_i a1, zv_i a2] h
noncomputable def E9_child (d : Nat) (a0 : Nat) (a1 : Int) (a2 : Int) (h : zv_H) : zv_O := zv_lim (zv_cs zv_prog d) mc9_child 0 [some (zv_r a0), some (zv_i a1), some (zv_i a2), none] [] h
noncomputable def L9_child_22 (d : Nat) (a0 : Nat) (a1 : Int) (a2 : Int) (e0 : Nat) (e1 : Int) (h : zv_H) : zv_O := zv_lim (zv_cs zv_prog d) mc9_child 22 [some (zv_r a0), some (zv_i a1), some (zv_i a2), none] [zv_i e1, zv_r e0] h
noncomputable def L9_child_46 (d : Nat) (a0 : Nat) (e0 : Int) (h : zv_H) : zv_O := zv_lim (zv_cs zv_prog d) mc9_child 46 [some (zv_r a0), none, none, none] [zv_i e0] h
noncomputable def C9_force (d : Nat) (a0 : Nat) (a1 : Int) (a2 : Int) (h : zv_H) := (zv_cs zv_prog d).2.1 266 [zv_r a0, zv_i a1, zv_i a2] h
noncomputable def E9_force (d : Nat) (a0 : Nat) (a1 : Int) (a2 : Int) (h : zv_H) : zv_O := zv_lim (zv_cs zv_prog d) mc9_force 0 [some (zv_r a0), some (zv_i a1), some (zv_i a2)] [] h
noncomputable def L9_force_17 (d : Nat) (a0 : Nat) (a1 : Int) (a2 : Int) (e0 : Nat) (h : zv_H) : zv_O := zv_lim (zv_cs zv_prog d) mc9_force 17 [some (zv_r a0), some (zv_i a1), some (zv_i a2)] [zv_r e0] h
noncomputable def L9_force_38 (d : Nat) (a0 : Nat) (a1 : Int) (a2 : Int) (e0 : Nat) (h : zv_H) : zv_O := zv_lim (zv_cs zv_prog d) mc9_force 38 [some (zv_r a0), some (zv_i a1), some (zv_i a2)] [zv_r e0] h
noncomputable def L9_force_43 (d : Nat) (a0 : Nat) (a1 : Int) (a2 : Int) (e0 : Nat) (e1 : Int) (h : zv_H) : zv_O := zv_lim (zv_cs zv_prog d) mc9_force 43 [some (zv_r a0), some (zv_i a1), some (zv_i a2)] [zv_i e1, zv_r e0] h
noncomputable def C9_blame (d : Nat) (a0 : Nat) (a1 : Int) (a2 : Int) (h : zv_H) := (zv_cs zv_prog d).2.1 267 [zv_r a0, zv_i a1, zv_i a2] h
noncomputable def E9_blame (d : Nat) (a0 : Nat) (a1 : Int) (a2 : Int) (h : zv_H) : zv_O := zv_lim (zv_cs zv_prog d) mc9_blame 0 [some (zv_r a0), some (zv_i a1), some (zv_i a2), none] [] h
noncomputable def L9_blame_18 (d : Nat) (a0 : Nat) (a1 : Int) (a2 : Int) (e0 : Nat) (h : zv_H) : zv_O := zv_lim (zv_cs zv_prog d) mc9_blame 18 [some (zv_r a0), some (zv_i a1), some (zv_i a2), none] [zv_r e0] h
noncomputable def L9_blame_19 (d : Nat) (a0 : Nat) (a1 : Int) (a2 : Int) (e0 : Nat) (e1 : Int) (h : zv_H) : zv_O := zv_lim (zv_cs zv_prog d) mc9_blame 19 [some (zv_r a0), some (zv_i a1), some (zv_i a2), none] [zv_i e1, zv_r e0] h
noncomputable def C9_cutsOf (d : Nat) (a0 : Nat) (a1 : Int) (a2 : Int) (a3 : Int) (h : zv_H) := (zv_cs zv_prog d).2.1 268 [zv_r a0, zv_i a1, zv_i a2, zv_i a3] h
noncomputable def E9_cutsOf (d : Nat) (a0 : Nat) (a1 : Int) (a2 : Int) (a3 : Int) (h : zv_H) : zv_O := zv_lim (zv_cs zv_prog d) mc9_cutsOf 0 [some (zv_r a0), some (zv_i a1), some (zv_i a2), some (zv_i a3), none, none, none, none] [] h
noncomputable def L9_cutsOf_14 (d : Nat) (a0 : Nat) (a1 : Int) (a2 : Int) (a3 : Int) (a4 : Int) (a5 : Int) (h : zv_H) : zv_O := zv_lim (zv_cs zv_prog d) mc9_cutsOf 14 [some (zv_r a0), some (zv_i a1), some (zv_i a2), some (zv_i a3), some (zv_i a4), some (zv_i a5), none, none] [] h
noncomputable def L9_cutsOf_49 (d : Nat) (a0 : Nat) (a1 : Int) (a2 : Int) (a3 : Int) (a4 : Int) (a5 : Int) (a6 : Int) (a7 : Int) (h : zv_H) : zv_O := zv_lim (zv_cs zv_prog d) mc9_cutsOf 49 [some (zv_r a0), some (zv_i a1), some (zv_i a2), some (zv_i a3), some (zv_i a4), some (zv_i a5), some (zv_i a6), some (zv_i a7)] [] h
noncomputable def C9_row (d : Nat) (a0 : Nat) (a1 : Int) (a2 : Int) (h : zv_H) := (zv_cs zv_prog d).2.1 269 [zv_r a0, zv_i a1, zv_i a2] h
noncomputable def E9_row (d : Nat) (a0 : Nat) (a1 : Int) (a2 : Int) (h : zv_H) : zv_O := zv_lim (zv_cs zv_prog d) mc9_row 0 [some (zv_r a0), some (zv_i a1), some (zv_i a2)] [] h
noncomputable def L9_row_18 (d : Nat) (a0 : Nat) (a1 : Int) (a2 : Int) (e0 : Nat) (h : zv_H) : zv_O := zv_lim (zv_cs zv_prog d) mc9_row 18 [some (zv_r a0), some (zv_i a1), some (zv_i a2)] [zv_r e0] h
noncomputable def L9_row_19 (d : Nat) (a0 : Nat) (a1 : Int) (a2 : Int) (e0 : Nat) (e1 : Int) (h : zv_H) : zv_O := zv_lim (zv_cs zv_prog d) mc9_row 19 [some (zv_r a0), some (zv_i a1), some (zv_i a2)] [zv_i e1, zv_r e0] h
noncomputable def L9_row_120 (d : Nat) (e0 : Nat) (e1 : Int) (e2 : Int) (e3 : Int) (h : zv_H) : zv_O := zv_lim (zv_cs zv_prog d) mc9_row 120 [none, none, none] [zv_i e3, zv_i e2, zv_i e1, zv_r e0] h
noncomputable def C9_visit (d : Nat) (a0 : Nat) (a1 : Int) (a2 : Int) (h : zv_H) := (zv_cs zv_prog d).2.1 270 [zv_r a0, zv_i a1, zv_i a2] h
noncomputable def E9_visit (d : Nat) (a0 : Nat) (a1 : Int) (a2 : Int) (h : zv_H) : zv_O := zv_lim (zv_cs zv_prog d) mc9_visit 0 [some (zv_r a0), some (zv_i a1), some (zv_i a2)] [] h
noncomputable def L9_visit_20 (d : Nat) (a0 : Nat) (a1 : Int) (a2 : Int) (e0 : Nat) (h : zv_H) : zv_O := zv_lim (zv_cs zv_prog d) mc9_visit 20 [some (zv_r a0), some (zv_i a1), some (zv_i a2)] [zv_r e0] h
noncomputable def L9_visit_39 (d : Nat) (a0 : Nat) (a1 : Int) (a2 : Int) (e0 : Nat) (e1 : Int) (h : zv_H) : zv_O := zv_lim (zv_cs zv_prog d) mc9_visit 39 [some (zv_r a0), some (zv_i a1), some (zv_i a2)] [zv_i e1, zv_r e0] h
noncomputable def C9_named (d : Nat) (a0 : Nat) (h : zv_H) := (zv_cs zv_prog d).2.1 271 [zv_r a0] h
noncomputable def E9_named (d : Nat) (a0 : Nat) (h : zv_H) : zv_O := zv_lim (zv_cs zv_prog d) mc9_named 0 [some (zv_r a0), none] [] h
noncomputable def L9_named_19 (d : Nat) (a0 : Nat) (e0 : Nat) (e1 : Int) (h : zv_H) : zv_O := zv_lim (zv_cs zv_prog d) mc9_named 19 [some (zv_r a0), none] [zv_i e1, zv_r e0] h
noncomputable def C9_leans (d : Nat) (a0 : Nat) (a1 : Int) (a2 : Int) (h : zv_H) := (zv_cs zv_prog d).2.1 272 [zv_r a0, zv_i a1, zv_i a2] h
noncomputable def E9_leans (d : Nat) (a0 : Nat) (a1 : Int) (a2 : Int) (h : zv_H) : zv_O := zv_lim (zv_cs zv_prog d) mc9_leans 0 [some (zv_r a0), some (zv_i a1), some (zv_i a2)] [] h
noncomputable def L9_leans_17 (d : Nat) (a0 : Nat) (a1 : Int) (a2 : Int) (e0 : Nat) (h : zv_H) : zv_O := zv_lim (zv_cs zv_prog d) mc9_leans 17 [some (zv_r a0), some (zv_i a1), some (zv_i a2)] [zv_r e0] h
noncomputable def L9_leans_42 (d : Nat) (a0 : Nat) (a1 : Int) (a2 : Int) (e0 : Nat) (h : zv_H) : zv_O := zv_lim (zv_cs zv_prog d) mc9_leans 42 [some (zv_r a0), some (zv_i a1), some (zv_i a2)] [zv_r e0] h
noncomputable def L9_leans_47 (d : Nat) (a0 : Nat) (a1 : Int) (a2 : Int) (e0 : Nat) (e1 : Int) (h : zv_H) : zv_O := zv_lim (zv_cs zv_prog d) mc9_leans 47 [some (zv_r a0), some (zv_i a1), some (zv_i a2)] [zv_i e1, zv_r e0] h
noncomputable def C9_put (d : Nat) (a0 : Nat) (a1 : Int) (h : zv_H) := (zv_cs zv_prog d).2.1 273 [zv_r a0, zv_i a1] h
noncomputable def E9_put (d : Nat) (a0 : Nat) (a1 : Int) (h : zv_H) : zv_O := zv_lim (zv_cs zv_prog d) mc9_put 0 [some (zv_r a0), some (zv_i a1)] [] h
noncomputable def C9_cut (d : Nat) (a0 : Nat) (a1 : Int) (a2 : Int) (h : zv_H) := (zv_cs zv_prog d).2.1 274 [zv_r a0, zv_i a1, zv_i a2] h
noncomputable def E9_cut (d : Nat) (a0 : Nat) (a1 : Int) (a2 : Int) (h : zv_H) : zv_O := zv_lim (zv_cs zv_prog d) mc9_cut 0 [some (zv_r a0), some (zv_i a1), some (zv_i a2)] [] h
noncomputable def C9_wait (d : Nat) (a0 : Nat) (a1 : Int) (h : zv_H) := (zv_cs zv_prog d).2.1 275 [zv_r a0, zv_i a1] h
noncomputable def E9_wait (d : Nat) (a0 : Nat) (a1 : Int) (h : zv_H) : zv_O := zv_lim (zv_cs zv_prog d) mc9_wait 0 [some (zv_r a0), some (zv_i a1)] [] h
noncomputable def L9_wait_17 (d : Nat) (a0 : Nat) (a1 : Int) (e0 : Nat) (e1 : Int) (h : zv_H) : zv_O := zv_lim (zv_cs zv_prog d) mc9_wait 17 [some (zv_r a0), some (zv_i a1)] [zv_i e1, zv_r e0] h
noncomputable def C9_undo (d : Nat) (a0 : Nat) (h : zv_H) := (zv_cs zv_prog d).2.1 276 [zv_r a0] h
noncomputable def E9_undo (d : Nat) (a0 : Nat) (h : zv_H) : zv_O := zv_lim (zv_cs zv_prog d) mc9_undo 0 [some (zv_r a0)] [] h
noncomputable def C9_redo (d : Nat) (a0 : Nat) (h : zv_H) := (zv_cs zv_prog d).2.1 277 [zv_r a0] h
noncomputable def E9_redo (d : Nat) (a0 : Nat) (h : zv_H) : zv_O := zv_lim (zv_cs zv_prog d) mc9_redo 0 [some (zv_r a0)] [] h
noncomputable def C9_go (d : Nat) (a0 : Nat) (a1 : Int) (h : zv_H) := (zv_cs zv_prog d).2.1 278 [zv_r a0, zv_i a1] h
noncomputable def E9_go (d : Nat) (a0 : Nat) (a1 : Int) (h : zv_H) : zv_O := zv_lim (zv_cs zv_prog d) mc9_go 0 [some (zv_r a0), some (zv_i a1)] [] h
noncomputable def C9_name (d : Nat) (a0 : Nat) (h : zv_H) := (zv_cs zv_prog d).2.1 279 [zv_r a0] h
noncomputable def E9_name (d : Nat) (a0 : Nat) (h : zv_H) : zv_O := zv_lim (zv_cs zv_prog d) mc9_name 0 [some (zv_r a0)] [] h
noncomputable def C9_unname (d : Nat) (a0 : Nat) (h : zv_H) := (zv_cs zv_prog d).2.1 280 [zv_r a0] h
noncomputable def E9_unname (d : Nat) (a0 : Nat) (h : zv_H) : zv_O := zv_lim (zv_cs zv_prog d) mc9_unname 0 [some (zv_r a0), none, none] [] h
noncomputable def L9_unname_19 (d : Nat) (a0 : Nat) (e0 : Nat) (e1 : Int) (h : zv_H) : zv_O := zv_lim (zv_cs zv_prog d) mc9_unname 19 [some (zv_r a0), none, none] [zv_i e1, zv_r e0] h
noncomputable def L9_unname_67 (d : Nat) (a0 : Nat) (a2 : Int) (h : zv_H) : zv_O := zv_lim (zv_cs zv_prog d) mc9_unname 67 [some (zv_r a0), none, some (zv_i a2)] [] h
noncomputable def C9_withdraw (d : Nat) (a0 : Nat) (a1 : Int) (h : zv_H) := (zv_cs zv_prog d).2.1 281 [zv_r a0, zv_i a1] h
noncomputable def E9_withdraw (d : Nat) (a0 : Nat) (a1 : Int) (h : zv_H) : zv_O := zv_lim (zv_cs zv_prog d) mc9_withdraw 0 [some (zv_r a0), some (zv_i a1)] [] h
noncomputable def C9_restore (d : Nat) (a0 : Nat) (a1 : Int) (h : zv_H) := (zv_cs zv_prog d).2.1 282 [zv_r a0, zv_i a1] h
noncomputable def E9_restore (d : Nat) (a0 : Nat) (a1 : Int) (h : zv_H) : zv_O := zv_lim (zv_cs zv_prog d) mc9_restore 0 [some (zv_r a0), some (zv_i a1)] [] h
noncomputable def C9_firstOut (d : Nat) (a0 : Nat) (h : zv_H) := (zv_cs zv_prog d).2.1 283 [zv_r a0] h
noncomputable def E9_firstOut (d : Nat) (a0 : Nat) (h : zv_H) : zv_O := zv_lim (zv_cs zv_prog d) mc9_firstOut 0 [some (zv_r a0), none, none] [] h
noncomputable def L9_firstOut_4 (d : Nat) (a0 : Nat) (a1 : Int) (a2 : Int) (h : zv_H) : zv_O := zv_lim (zv_cs zv_prog d) mc9_firstOut 4 [some (zv_r a0), some (zv_i a1), some (zv_i a2)] [] h
noncomputable def C9_carry (d : Nat) (a0 : Nat) (a1 : Int) (h : zv_H) := (zv_cs zv_prog d).2.1 284 [zv_r a0, zv_i a1] h
noncomputable def E9_carry (d : Nat) (a0 : Nat) (a1 : Int) (h : zv_H) : zv_O := zv_lim (zv_cs zv_prog d) mc9_carry 0 [some (zv_r a0), some (zv_i a1)] [] h
noncomputable def C9_merge (d : Nat) (a0 : Nat) (a1 : Int) (h : zv_H) := (zv_cs zv_prog d).2.1 285 [zv_r a0, zv_i a1] h
noncomputable def E9_merge (d : Nat) (a0 : Nat) (a1 : Int) (h : zv_H) : zv_O := zv_lim (zv_cs zv_prog d) mc9_merge 0 [some (zv_r a0), some (zv_i a1)] [] h
noncomputable def C9_prune (d : Nat) (a0 : Nat) (a1 : Int) (h : zv_H) := (zv_cs zv_prog d).2.1 286 [zv_r a0, zv_i a1] h
noncomputable def E9_prune (d : Nat) (a0 : Nat) (a1 : Int) (h : zv_H) : zv_O := zv_lim (zv_cs zv_prog d) mc9_prune 0 [some (zv_r a0), some (zv_i a1)] [] h
noncomputable def C9_pruneNow (d : Nat) (a0 : Nat) (a1 : Int) (h : zv_H) := (zv_cs zv_prog d).2.1 287 [zv_r a0, zv_i a1] h
noncomputable def E9_pruneNow (d : Nat) (a0 : Nat) (a1 : Int) (h : zv_H) : zv_O := zv_lim (zv_cs zv_prog d) mc9_pruneNow 0 [some (zv_r a0), some (zv_i a1), none, none, none] [] h
noncomputable def L9_pruneNow_23 (d : Nat) (a0 : Nat) (a1 : Int) (a2 : Int) (a3 : Int) (h : zv_H) : zv_O := zv_lim (zv_cs zv_prog d) mc9_pruneNow 23 [some (zv_r a0), some (zv_i a1), some (zv_i a2), some (zv_i a3), none] [] h
noncomputable def L9_pruneNow_45 (d : Nat) (a0 : Nat) (a1 : Int) (a2 : Int) (a3 : Int) (a4 : Int) (h : zv_H) : zv_O := zv_lim (zv_cs zv_prog d) mc9_pruneNow 45 [some (zv_r a0), some (zv_i a1), some (zv_i a2), some (zv_i a3), some (zv_i a4)] [] h
noncomputable def C9_common (d : Nat) (a0 : Nat) (a1 : Int) (a2 : Int) (h : zv_H) := (zv_cs zv_prog d).2.1 288 [zv_r a0, zv_i a1, zv_i a2] h
noncomputable def E9_common (d : Nat) (a0 : Nat) (a1 : Int) (a2 : Int) (h : zv_H) : zv_O := zv_lim (zv_cs zv_prog d) mc9_common 0 [some (zv_r a0), some (zv_i a1), some (zv_i a2)] [] h
noncomputable def L9_common_21 (d : Nat) (a0 : Nat) (a1 : Int) (a2 : Int) (e0 : Nat) (h : zv_H) : zv_O := zv_lim (zv_cs zv_prog d) mc9_common 21 [some (zv_r a0), some (zv_i a1), some (zv_i a2)] [zv_r e0] h
noncomputable def L9_common_22 (d : Nat) (a0 : Nat) (a1 : Int) (a2 : Int) (e0 : Nat) (e1 : Int) (h : zv_H) : zv_O := zv_lim (zv_cs zv_prog d) mc9_common 22 [some (zv_r a0), some (zv_i a1), some (zv_i a2)] [zv_i e1, zv_r e0] h
noncomputable def C9_way (d : Nat) (a0 : Nat) (a1 : Int) (a2 : Int) (a3 : Int) (h : zv_H) := (zv_cs zv_prog d).2.1 289 [zv_r a0, zv_i a1, zv_i a2, zv_i a3] h
noncomputable def E9_way (d : Nat) (a0 : Nat) (a1 : Int) (a2 : Int) (a3 : Int) (h : zv_H) : zv_O := zv_lim (zv_cs zv_prog d) mc9_way 0 [some (zv_r a0), some (zv_i a1), some (zv_i a2), some (zv_i a3), none, none, none, none] [] h
noncomputable def L9_way_25 (d : Nat) (a0 : Nat) (a1 : Int) (a2 : Int) (a3 : Int) (e0 : Nat) (h : zv_H) : zv_O := zv_lim (zv_cs zv_prog d) mc9_way 25 [some (zv_r a0), some (zv_i a1), some (zv_i a2), some (zv_i a3), none, none, none, none] [zv_r e0] h
noncomputable def L9_way_30 (d : Nat) (a0 : Nat) (a1 : Int) (a2 : Int) (a3 : Int) (e0 : Nat) (e1 : Int) (h : zv_H) : zv_O := zv_lim (zv_cs zv_prog d) mc9_way 30 [some (zv_r a0), some (zv_i a1), some (zv_i a2), some (zv_i a3), none, none, none, none] [zv_i e1, zv_r e0] h
noncomputable def L9_way_87 (d : Nat) (a0 : Nat) (a3 : Int) (a4 : Int) (a5 : Int) (e0 : Int) (h : zv_H) : zv_O := zv_lim (zv_cs zv_prog d) mc9_way 87 [some (zv_r a0), none, none, some (zv_i a3), some (zv_i a4), some (zv_i a5), none, none] [zv_i e0] h
noncomputable def L9_way_105 (d : Nat) (a0 : Nat) (a6 : Int) (a7 : Int) (h : zv_H) : zv_O := zv_lim (zv_cs zv_prog d) mc9_way 105 [some (zv_r a0), none, none, none, none, none, some (zv_i a6), some (zv_i a7)] [] h
noncomputable def C9_keysOf (d : Nat) (a0 : Nat) (a1 : Int) (h : zv_H) := (zv_cs zv_prog d).2.1 290 [zv_r a0, zv_i a1] h
noncomputable def E9_keysOf (d : Nat) (a0 : Nat) (a1 : Int) (h : zv_H) : zv_O := zv_lim (zv_cs zv_prog d) mc9_keysOf 0 [some (zv_r a0), some (zv_i a1), none, none] [] h
noncomputable def L9_keysOf_9 (d : Nat) (a0 : Nat) (a2 : Int) (a3 : Int) (h : zv_H) : zv_O := zv_lim (zv_cs zv_prog d) mc9_keysOf 9 [some (zv_r a0), none, some (zv_i a2), some (zv_i a3)] [] h
noncomputable def C9_keptOf (d : Nat) (a0 : Nat) (a1 : Int) (a2 : Int) (h : zv_H) := (zv_cs zv_prog d).2.1 291 [zv_r a0, zv_i a1, zv_i a2] h
noncomputable def E9_keptOf (d : Nat) (a0 : Nat) (a1 : Int) (a2 : Int) (h : zv_H) : zv_O := zv_lim (zv_cs zv_prog d) mc9_keptOf 0 [some (zv_r a0), some (zv_i a1), some (zv_i a2), none, none, none, none] [] h
noncomputable def L9_keptOf_17 (d : Nat) (a0 : Nat) (a3 : Int) (a4 : Int) (a5 : Int) (h : zv_H) : zv_O := zv_lim (zv_cs zv_prog d) mc9_keptOf 17 [some (zv_r a0), none, none, some (zv_i a3), some (zv_i a4), some (zv_i a5), none] [] h
noncomputable def L9_keptOf_42 (d : Nat) (a0 : Nat) (a3 : Int) (a4 : Int) (a5 : Int) (a6 : Int) (h : zv_H) : zv_O := zv_lim (zv_cs zv_prog d) mc9_keptOf 42 [some (zv_r a0), none, none, some (zv_i a3), some (zv_i a4), some (zv_i a5), some (zv_i a6)] [] h
noncomputable def C9_differ (d : Nat) (a0 : Nat) (a1 : Int) (a2 : Int) (h : zv_H) := (zv_cs zv_prog d).2.1 292 [zv_r a0, zv_i a1, zv_i a2] h
noncomputable def E9_differ (d : Nat) (a0 : Nat) (a1 : Int) (a2 : Int) (h : zv_H) : zv_O := zv_lim (zv_cs zv_prog d) mc9_differ 0 [some (zv_r a0), some (zv_i a1), some (zv_i a2), none, none, none] [] h
noncomputable def L9_differ_24 (d : Nat) (a0 : Nat) (a3 : Int) (a4 : Int) (a5 : Int) (h : zv_H) : zv_O := zv_lim (zv_cs zv_prog d) mc9_differ 24 [some (zv_r a0), none, none, some (zv_i a3), some (zv_i a4), some (zv_i a5)] [] h
noncomputable def L9_differ_60 (d : Nat) (a3 : Int) (a4 : Int) (a5 : Int) (h : zv_H) : zv_O := zv_lim (zv_cs zv_prog d) mc9_differ 60 [none, none, none, some (zv_i a3), some (zv_i a4), some (zv_i a5)] [] h
noncomputable def C9_between (d : Nat) (a0 : Nat) (a1 : Int) (a2 : Int) (a3 : Int) (h : zv_H) := (zv_cs zv_prog d).2.1 293 [zv_r a0, zv_i a1, zv_i a2, zv_i a3] h
noncomputable def E9_between (d : Nat) (a0 : Nat) (a1 : Int) (a2 : Int) (a3 : Int) (h : zv_H) : zv_O := zv_lim (zv_cs zv_prog d) mc9_between 0 [some (zv_r a0), some (zv_i a1), some (zv_i a2), some (zv_i a3), none] [] h
noncomputable def L9_between_30 (d : Nat) (a0 : Nat) (a1 : Int) (a2 : Int) (a3 : Int) (e0 : Nat) (h : zv_H) : zv_O := zv_lim (zv_cs zv_prog d) mc9_between 30 [some (zv_r a0), some (zv_i a1), some (zv_i a2), some (zv_i a3), none] [zv_r e0] h
noncomputable def L9_between_35 (d : Nat) (a0 : Nat) (a1 : Int) (a2 : Int) (a3 : Int) (e0 : Nat) (e1 : Int) (h : zv_H) : zv_O := zv_lim (zv_cs zv_prog d) mc9_between 35 [some (zv_r a0), some (zv_i a1), some (zv_i a2), some (zv_i a3), none] [zv_i e1, zv_r e0] h
noncomputable def C9_least (d : Nat) (a0 : Nat) (a1 : Int) (a2 : Int) (h : zv_H) := (zv_cs zv_prog d).2.1 294 [zv_r a0, zv_i a1, zv_i a2] h
noncomputable def E9_least (d : Nat) (a0 : Nat) (a1 : Int) (a2 : Int) (h : zv_H) : zv_O := zv_lim (zv_cs zv_prog d) mc9_least 0 [some (zv_r a0), some (zv_i a1), some (zv_i a2), none, none, none, none, none, none, none, none] [] h
noncomputable def L9_least_21 (d : Nat) (a0 : Nat) (a1 : Int) (a2 : Int) (e0 : Nat) (h : zv_H) : zv_O := zv_lim (zv_cs zv_prog d) mc9_least 21 [some (zv_r a0), some (zv_i a1), some (zv_i a2), none, none, none, none, none, none, none, none] [zv_r e0] h
noncomputable def L9_least_22 (d : Nat) (a0 : Nat) (a1 : Int) (a2 : Int) (e0 : Nat) (e1 : Int) (h : zv_H) : zv_O := zv_lim (zv_cs zv_prog d) mc9_least 22 [some (zv_r a0), some (zv_i a1), some (zv_i a2), none, none, none, none, none, none, none, none] [zv_i e1, zv_r e0] h
noncomputable def L9_least_58 (d : Nat) (a0 : Nat) (a3 : Int) (a4 : Int) (a5 : Int) (a6 : Int) (h : zv_H) : zv_O := zv_lim (zv_cs zv_prog d) mc9_least 58 [some (zv_r a0), none, none, some (zv_i a3), some (zv_i a4), some (zv_i a5), some (zv_i a6), none, none, none, none] [] h
noncomputable def L9_least_67 (d : Nat) (a0 : Nat) (a3 : Int) (a4 : Int) (a5 : Int) (a6 : Int) (a7 : Int) (h : zv_H) : zv_O := zv_lim (zv_cs zv_prog d) mc9_least 67 [some (zv_r a0), none, none, some (zv_i a3), some (zv_i a4), some (zv_i a5), some (zv_i a6), some (zv_i a7), none, none, none] [] h
noncomputable def C9_merges (d : Nat) (a0 : Nat) (a1 : Int) (a2 : Int) (h : zv_H) := (zv_cs zv_prog d).2.1 295 [zv_r a0, zv_i a1, zv_i a2] h
noncomputable def E9_merges (d : Nat) (a0 : Nat) (a1 : Int) (a2 : Int) (h : zv_H) : zv_O := zv_lim (zv_cs zv_prog d) mc9_merges 0 [some (zv_r a0), some (zv_i a1), some (zv_i a2), none, none] [] h
noncomputable def L9_merges_15 (d : Nat) (a0 : Nat) (a1 : Int) (a2 : Int) (e0 : Nat) (e1 : Int) (h : zv_H) : zv_O := zv_lim (zv_cs zv_prog d) mc9_merges 15 [some (zv_r a0), some (zv_i a1), some (zv_i a2), none, none] [zv_i e1, zv_r e0] h
noncomputable def L9_merges_25 (d : Nat) (a0 : Nat) (a1 : Int) (a2 : Int) (a3 : Int) (h : zv_H) : zv_O := zv_lim (zv_cs zv_prog d) mc9_merges 25 [some (zv_r a0), some (zv_i a1), some (zv_i a2), some (zv_i a3), none] [] h
noncomputable def L9_merges_94 (d : Nat) (a0 : Nat) (a3 : Int) (a4 : Int) (h : zv_H) : zv_O := zv_lim (zv_cs zv_prog d) mc9_merges 94 [some (zv_r a0), none, none, some (zv_i a3), some (zv_i a4)] [] h
noncomputable def C9_tells (d : Nat) (a0 : Nat) (a1 : Int) (h : zv_H) := (zv_cs zv_prog d).1 296 [zv_r a0, zv_i a1] h
noncomputable def E9_tells (d : Nat) (a0 : Nat) (a1 : Int) (h : zv_H) : zv_O := zv_lim (zv_cs zv_prog d) mc9_tells 0 [some (zv_r a0), some (zv_i a1)] [] h
noncomputable def C9_tellsNumber (d : Nat) (a0 : Nat) (a1 : Int) (h : zv_H) := (zv_cs zv_prog d).1 297 [zv_r a0, zv_i a1] h
noncomputable def E9_tellsNumber (d : Nat) (a0 : Nat) (a1 : Int) (h : zv_H) : zv_O := zv_lim (zv_cs zv_prog d) mc9_tellsNumber 0 [some (zv_r a0), some (zv_i a1)] [] h
noncomputable def L9_tellsNumber_17 (d : Nat) (a0 : Nat) (a1 : Int) (h : zv_H) : zv_O := zv_lim (zv_cs zv_prog d) mc9_tellsNumber 17 [some (zv_r a0), some (zv_i a1)] [] h
noncomputable def C9_tellsNames (d : Nat) (a0 : Nat) (h : zv_H) := (zv_cs zv_prog d).1 298 [zv_r a0] h
noncomputable def E9_tellsNames (d : Nat) (a0 : Nat) (h : zv_H) : zv_O := zv_lim (zv_cs zv_prog d) mc9_tellsNames 0 [some (zv_r a0), none, none, none] [] h
noncomputable def L9_tellsNames_2 (d : Nat) (a0 : Nat) (a1 : Int) (h : zv_H) : zv_O := zv_lim (zv_cs zv_prog d) mc9_tellsNames 2 [some (zv_r a0), some (zv_i a1), none, none] [] h
noncomputable def L9_tellsNames_38 (d : Nat) (a0 : Nat) (a1 : Int) (a2 : Int) (a3 : Int) (h : zv_H) : zv_O := zv_lim (zv_cs zv_prog d) mc9_tellsNames 38 [some (zv_r a0), some (zv_i a1), some (zv_i a2), some (zv_i a3)] [] h
noncomputable def C9_tell (d : Nat) (a0 : Nat) (a1 : Int) (h : zv_H) := (zv_cs zv_prog d).2.1 299 [zv_r a0, zv_i a1] h
noncomputable def E9_tell (d : Nat) (a0 : Nat) (a1 : Int) (h : zv_H) : zv_O := zv_lim (zv_cs zv_prog d) mc9_tell 0 [some (zv_r a0), some (zv_i a1), none] [] h
noncomputable def L9_tell_15 (d : Nat) (a0 : Nat) (a1 : Int) (e0 : Nat) (e1 : Int) (h : zv_H) : zv_O := zv_lim (zv_cs zv_prog d) mc9_tell 15 [some (zv_r a0), some (zv_i a1), none] [zv_i e1, zv_r e0] h
noncomputable def L9_tell_38 (d : Nat) (a0 : Nat) (a1 : Int) (a2 : Int) (h : zv_H) : zv_O := zv_lim (zv_cs zv_prog d) mc9_tell 38 [some (zv_r a0), some (zv_i a1), some (zv_i a2)] [] h
noncomputable def L9_tell_79 (d : Nat) (a0 : Nat) (a1 : Int) (a2 : Int) (h : zv_H) : zv_O := zv_lim (zv_cs zv_prog d) mc9_tell 79 [some (zv_r a0), some (zv_i a1), some (zv_i a2)] [] h
noncomputable def L9_tell_102 (d : Nat) (a0 : Nat) (a1 : Int) (a2 : Int) (h : zv_H) : zv_O := zv_lim (zv_cs zv_prog d) mc9_tell 102 [some (zv_r a0), some (zv_i a1), some (zv_i a2)] [] h
noncomputable def L9_tell_118 (d : Nat) (a0 : Nat) (a1 : Int) (h : zv_H) : zv_O := zv_lim (zv_cs zv_prog d) mc9_tell 118 [some (zv_r a0), some (zv_i a1), none] [] h
noncomputable def C9_out (d : Nat) (a0 : Nat) (a1 : Int) (h : zv_H) := (zv_cs zv_prog d).2.1 300 [zv_r a0, zv_i a1] h
noncomputable def E9_out (d : Nat) (a0 : Nat) (a1 : Int) (h : zv_H) : zv_O := zv_lim (zv_cs zv_prog d) mc9_out 0 [some (zv_r a0), some (zv_i a1)] [] h
noncomputable def L9_out_22 (d : Nat) (a0 : Nat) (a1 : Int) (e0 : Nat) (e1 : Int) (h : zv_H) : zv_O := zv_lim (zv_cs zv_prog d) mc9_out 22 [some (zv_r a0), some (zv_i a1)] [zv_i e1, zv_r e0] h
noncomputable def C9_leaning (d : Nat) (a0 : Nat) (a1 : Int) (a2 : Int) (h : zv_H) := (zv_cs zv_prog d).2.1 301 [zv_r a0, zv_i a1, zv_i a2] h
noncomputable def E9_leaning (d : Nat) (a0 : Nat) (a1 : Int) (a2 : Int) (h : zv_H) : zv_O := zv_lim (zv_cs zv_prog d) mc9_leaning 0 [some (zv_r a0), some (zv_i a1), some (zv_i a2), none, none] [] h
noncomputable def L9_leaning_46 (d : Nat) (a0 : Nat) (a1 : Int) (a2 : Int) (e0 : Nat) (h : zv_H) : zv_O := zv_lim (zv_cs zv_prog d) mc9_leaning 46 [some (zv_r a0), some (zv_i a1), some (zv_i a2), none, none] [zv_r e0] h
noncomputable def L9_leaning_52 (d : Nat) (a0 : Nat) (a1 : Int) (a2 : Int) (e0 : Nat) (e1 : Int) (h : zv_H) : zv_O := zv_lim (zv_cs zv_prog d) mc9_leaning 52 [some (zv_r a0), some (zv_i a1), some (zv_i a2), none, none] [zv_i e1, zv_r e0] h
noncomputable def L9_leaning_89 (d : Nat) (a0 : Nat) (a2 : Int) (a3 : Int) (a4 : Int) (h : zv_H) : zv_O := zv_lim (zv_cs zv_prog d) mc9_leaning 89 [some (zv_r a0), none, some (zv_i a2), some (zv_i a3), some (zv_i a4)] [] h
noncomputable def L9_leaning_154 (d : Nat) (a0 : Nat) (a2 : Int) (a3 : Int) (a4 : Int) (h : zv_H) : zv_O := zv_lim (zv_cs zv_prog d) mc9_leaning 154 [some (zv_r a0), none, some (zv_i a2), some (zv_i a3), some (zv_i a4)] [] h
noncomputable def C9_placeIn (d : Nat) (a0 : Nat) (a1 : Int) (h : zv_H) := (zv_cs zv_prog d).2.1 302 [zv_r a0, zv_i a1] h
noncomputable def E9_placeIn (d : Nat) (a0 : Nat) (a1 : Int) (h : zv_H) : zv_O := zv_lim (zv_cs zv_prog d) mc9_placeIn 0 [some (zv_r a0), some (zv_i a1), none, none, none, none] [] h
noncomputable def L9_placeIn_12 (d : Nat) (a0 : Nat) (a2 : Int) (a3 : Int) (h : zv_H) : zv_O := zv_lim (zv_cs zv_prog d) mc9_placeIn 12 [some (zv_r a0), none, some (zv_i a2), some (zv_i a3), none, none] [] h
noncomputable def L9_placeIn_28 (d : Nat) (a0 : Nat) (a2 : Int) (a3 : Int) (a4 : Int) (a5 : Int) (h : zv_H) : zv_O := zv_lim (zv_cs zv_prog d) mc9_placeIn 28 [some (zv_r a0), none, some (zv_i a2), some (zv_i a3), some (zv_i a4), some (zv_i a5)] [] h
noncomputable def L9_placeIn_74 (d : Nat) (a0 : Nat) (a2 : Int) (a3 : Int) (a4 : Int) (h : zv_H) : zv_O := zv_lim (zv_cs zv_prog d) mc9_placeIn 74 [some (zv_r a0), none, some (zv_i a2), some (zv_i a3), some (zv_i a4), none] [] h
noncomputable def C9_find (d : Nat) (a0 : Nat) (a1 : Int) (h : zv_H) := (zv_cs zv_prog d).2.1 303 [zv_r a0, zv_i a1] h
noncomputable def E9_find (d : Nat) (a0 : Nat) (a1 : Int) (h : zv_H) : zv_O := zv_lim (zv_cs zv_prog d) mc9_find 0 [some (zv_r a0), some (zv_i a1), none, none, none] [] h
noncomputable def L9_find_21 (d : Nat) (a0 : Nat) (a1 : Int) (e0 : Nat) (h : zv_H) : zv_O := zv_lim (zv_cs zv_prog d) mc9_find 21 [some (zv_r a0), some (zv_i a1), none, none, none] [zv_r e0] h
noncomputable def L9_find_22 (d : Nat) (a0 : Nat) (a1 : Int) (e0 : Nat) (e1 : Int) (h : zv_H) : zv_O := zv_lim (zv_cs zv_prog d) mc9_find 22 [some (zv_r a0), some (zv_i a1), none, none, none] [zv_i e1, zv_r e0] h
noncomputable def L9_find_38 (d : Nat) (a0 : Nat) (a1 : Int) (a2 : Int) (a3 : Int) (a4 : Int) (h : zv_H) : zv_O := zv_lim (zv_cs zv_prog d) mc9_find 38 [some (zv_r a0), some (zv_i a1), some (zv_i a2), some (zv_i a3), some (zv_i a4)] [] h
noncomputable def L9_find_81 (d : Nat) (a0 : Nat) (a1 : Int) (a2 : Int) (a3 : Int) (h : zv_H) : zv_O := zv_lim (zv_cs zv_prog d) mc9_find 81 [some (zv_r a0), some (zv_i a1), some (zv_i a2), some (zv_i a3), none] [] h
noncomputable def L9_find_107 (d : Nat) (a0 : Nat) (e0 : Int) (h : zv_H) : zv_O := zv_lim (zv_cs zv_prog d) mc9_find 107 [some (zv_r a0), none, none, none, none] [zv_i e0] h
noncomputable def C9_first (d : Nat) (a0 : Nat) (h : zv_H) := (zv_cs zv_prog d).2.1 304 [zv_r a0] h
noncomputable def E9_first (d : Nat) (a0 : Nat) (h : zv_H) : zv_O := zv_lim (zv_cs zv_prog d) mc9_first 0 [some (zv_r a0), none] [] h
noncomputable def C9_twin (d : Nat) (a0 : Nat) (a1 : Int) (h : zv_H) := (zv_cs zv_prog d).2.1 305 [zv_r a0, zv_i a1] h
noncomputable def E9_twin (d : Nat) (a0 : Nat) (a1 : Int) (h : zv_H) : zv_O := zv_lim (zv_cs zv_prog d) mc9_twin 0 [some (zv_r a0), some (zv_i a1), none] [] h
noncomputable def L9_twin_14 (d : Nat) (a0 : Nat) (a1 : Int) (e0 : Nat) (e1 : Int) (h : zv_H) : zv_O := zv_lim (zv_cs zv_prog d) mc9_twin 14 [some (zv_r a0), some (zv_i a1), none] [zv_i e1, zv_r e0] h
noncomputable def L9_twin_24 (d : Nat) (a0 : Nat) (a1 : Int) (a2 : Int) (h : zv_H) : zv_O := zv_lim (zv_cs zv_prog d) mc9_twin 24 [some (zv_r a0), some (zv_i a1), some (zv_i a2)] [] h
noncomputable def C9_back (d : Nat) (a0 : Nat) (a1 : Int) (h : zv_H) := (zv_cs zv_prog d).2.1 306 [zv_r a0, zv_i a1] h
noncomputable def E9_back (d : Nat) (a0 : Nat) (a1 : Int) (h : zv_H) : zv_O := zv_lim (zv_cs zv_prog d) mc9_back 0 [some (zv_r a0), some (zv_i a1), none, none] [] h
noncomputable def L9_back_16 (d : Nat) (a0 : Nat) (a1 : Int) (e0 : Nat) (e1 : Int) (h : zv_H) : zv_O := zv_lim (zv_cs zv_prog d) mc9_back 16 [some (zv_r a0), some (zv_i a1), none, none] [zv_i e1, zv_r e0] h
noncomputable def L9_back_31 (d : Nat) (a0 : Nat) (a1 : Int) (a2 : Int) (a3 : Int) (h : zv_H) : zv_O := zv_lim (zv_cs zv_prog d) mc9_back 31 [some (zv_r a0), some (zv_i a1), some (zv_i a2), some (zv_i a3)] [] h
noncomputable def EL_law (d : Nat) (a0 : Nat) (h : zv_H) : zv_O := zv_lim (zv_cs zv_prog d) mcL_law 0 [some (zv_r a0), none, none, none] [] h
noncomputable def LL_law_18 (d : Nat) (a0 : Nat) (a1 : Nat) (a2 : Nat) (a3 : Int) (h : zv_H) : zv_O := zv_lim (zv_cs zv_prog d) mcL_law 18 [some (zv_r a0), some (zv_r a1), some (zv_r a2), some (zv_i a3)] [] h
end
section
set_option maxRecDepth 100000 in
theorem qE0_init (d : Nat) (a0 : Nat) (h : zv_H) : E0_init d a0 h =
  (if a0 = 0 then none else
  ((zv_nO h 5).bind fun g1 =>
  ((C5_init d (zv_n h + 1) (0 : Int) g1).bind fun g2 =>
  ((zv_pR g2 a0 0 0 (zv_n h + 1)).bind fun g3 =>
  ((zv_nA g3 6 (48 : Int)).bind fun g4 =>
  ((zv_pR g4 a0 0 1 (zv_n g3 + 1)).bind fun g5 =>
  ((zv_nA g5 2 (604 : Int)).bind fun g6 =>
  ((zv_pR g6 a0 0 2 (zv_n g5 + 1)).bind fun g7 =>
  ((zv_nA g7 2 (48 : Int)).bind fun g8 =>
  ((zv_pR g8 a0 0 3 (zv_n g7 + 1)).bind fun g9 =>
  ((zv_nA g9 2 (121 : Int)).bind fun g10 =>
  ((zv_pR g10 a0 0 4 (zv_n g9 + 1)).bind fun g11 =>
  ((zv_nO g11 4).bind fun g12 =>
  ((C4_init d (zv_n g11 + 1) g12).bind fun g13 =>
  ((zv_pR g13 a0 0 5 (zv_n g11 + 1)).bind fun g14 =>
  ((zv_nO g14 2).bind fun g15 =>
  ((C2_init d (zv_n g14 + 1) g15).bind fun g16 =>
  ((zv_pR g16 a0 0 6 (zv_n g14 + 1)).bind fun g17 =>
  ((zv_nO g17 6).bind fun g18 =>
  ((C6_init d (zv_n g17 + 1) g18).bind fun g19 =>
  ((zv_pR g19 a0 0 7 (zv_n g17 + 1)).bind fun g20 =>
  ((zv_nO g20 1).bind fun g21 =>
  ((C1_init d (zv_n g20 + 1) g21).bind fun g22 =>
  ((zv_pR g22 a0 0 8 (zv_n g20 + 1)).bind fun g23 =>
  ((zv_nO g23 7).bind fun g24 =>
  ((C7_init d (zv_n g23 + 1) g24).bind fun g25 =>
  ((zv_pR g25 a0 0 9 (zv_n g23 + 1)).bind fun g26 =>
  ((zv_gR g26 a0 0 0).bind fun v27 =>
  ((zv_pR g26 a0 0 10 v27).bind fun g28 =>
  ((zv_gR g28 a0 0 1).bind fun v29 =>
  ((zv_gR g28 a0 0 0).bind fun v30 =>
  ((zv_wR g28 v29 (0 : Int) v30).bind fun g31 =>
  L0_init_125 d a0 (1 : Int) g31)))))))))))))))))))))))))))))))) := (zv_lim_eq _ _ _ _ _ _).trans rfl
set_option maxRecDepth 100000 in
theorem qL0_init_125 (d : Nat) (a0 : Nat) (a1 : Int) (h : zv_H) : L0_init_125 d a0 a1 h =
  (if a1 < (48 : Int) then
    ((zv_gR h a0 0 1).bind fun v1 =>
    ((zv_nO h 5).bind fun g2 =>
    ((C5_init d (zv_n h + 1) a1 g2).bind fun g3 =>
    ((zv_wR g3 v1 a1 (zv_n h + 1)).bind fun g4 =>
    L0_init_125 d a0 (zv_w (a1 + 1)) g4))))
  else
    ((C0_begin d a0 h).bind fun g5 =>
    (some (none, g5)))) := (zv_lim_eq _ _ _ _ _ _).trans rfl
set_option maxRecDepth 100000 in
theorem qE0_begin (d : Nat) (a0 : Nat) (h : zv_H) : E0_begin d a0 h =
  L0_begin_2 d a0 (0 : Int) h := (zv_lim_eq _ _ _ _ _ _).trans rfl
set_option maxRecDepth 100000 in
theorem qL0_begin_2 (d : Nat) (a0 : Nat) (a1 : Int) (h : zv_H) : L0_begin_2 d a0 a1 h =
  (if a1 < (48 : Int) then
    ((zv_gR h a0 0 1).bind fun v1 =>
    ((zv_aR h v1 a1).bind fun v2 =>
    (if v2 = 0 then
      L0_begin_2 d a0 (zv_w (a1 + 1)) h
    else
      ((zv_gR h a0 0 1).bind fun v3 =>
      ((zv_aR h v3 a1).bind fun v4 =>
      ((C5_open d v4 0 (-1 : Int) (-1 : Int) (0 : Int) h).bind fun g5 =>
      ((zv_gR g5 a0 0 1).bind fun v6 =>
      ((zv_aR g5 v6 a1).bind fun v7 =>
      (if a1 = 0 then
        ((zv_pZ g5 v7 5 3 (1 : Int)).bind fun g8 =>
        L0_begin_2 d a0 (zv_w (a1 + 1)) g8)
      else
        ((zv_pZ g5 v7 5 3 (0 : Int)).bind fun g9 =>
        L0_begin_2 d a0 (zv_w (a1 + 1)) g9))))))))))
  else
    ((zv_gR h a0 0 0).bind fun v10 =>
    ((zv_pR h a0 0 10 v10).bind fun g11 =>
    ((zv_pI g11 a0 0 11 (0 : Int)).bind fun g12 =>
    ((zv_pI g12 a0 0 12 (1 : Int)).bind fun g13 =>
    ((zv_gR g13 a0 0 6).bind fun v14 =>
    ((zv_pI g13 v14 2 2 (0 : Int)).bind fun g15 =>
    ((zv_gR g15 a0 0 7).bind fun v16 =>
    ((zv_pI g15 v16 6 4 (0 : Int)).bind fun g17 =>
    ((zv_gR g17 a0 0 8).bind fun v18 =>
    ((C1_usual d v18 g17).bind fun g19 =>
    (some (none, g19))))))))))))) := (zv_lim_eq _ _ _ _ _ _).trans rfl
set_option maxRecDepth 100000 in
theorem qE0_startWith (d : Nat) (a0 : Nat) (a1 : Nat) (h : zv_H) : E0_startWith d a0 a1 h =
  ((zv_gR h a0 0 0).bind fun v1 =>
  ((zv_gI h a1 7 1).bind fun v2 =>
  ((zv_pI h v1 5 9 v2).bind fun g3 =>
  ((zv_gR g3 a0 0 0).bind fun v4 =>
  ((zv_pI g3 v4 5 12 (0 : Int)).bind fun g5 =>
  L0_startWith_21 d a0 a1 (0 : Int) g5))))) := (zv_lim_eq _ _ _ _ _ _).trans rfl
set_option maxRecDepth 100000 in
theorem qL0_startWith_21 (d : Nat) (a0 : Nat) (a1 : Nat) (a2 : Int) (h : zv_H) : L0_startWith_21 d a0 a1 a2 h =
  ((zv_gI h a1 7 1).bind fun v1 =>
  (if a2 < v1 then
    ((C4_id d (0 : Int) a2 h).bind fun q2 =>
    ((C7_at d a1 a2 q2.2).bind fun q3 =>
    ((C0_setGlyph d a0 q2.1 q3.1 q3.2).bind fun g4 =>
    ((zv_gR g4 a0 0 0).bind fun v5 =>
    ((C5_addId d v5 q2.1 g4).bind fun g6 =>
    L0_startWith_21 d a0 a1 (zv_w (a2 + 1)) g6)))))
  else
    (some (none, h)))) := (zv_lim_eq _ _ _ _ _ _).trans rfl
set_option maxRecDepth 100000 in
theorem qE0_at (d : Nat) (a0 : Nat) (a1 : Int) (h : zv_H) : E0_at d a0 a1 h =
  (if a1 < 0 then
    (some (some (zv_r 0), h))
  else
    (if a1 < (48 : Int) then
      ((zv_gR h a0 0 1).bind fun v1 =>
      ((zv_aR h v1 a1).bind fun v2 =>
      (if v2 = 0 then
        (some (some (zv_r 0), h))
      else
        ((zv_gI h v2 5 3).bind fun v3 =>
        (if v3 = 0 then
          (some (some (zv_r 0), h))
        else
          (some (some (zv_r v2), h)))))))
    else
      (some (some (zv_r 0), h)))) := (zv_lim_eq _ _ _ _ _ _).trans rfl
set_option maxRecDepth 100000 in
theorem qE0_glyph (d : Nat) (a0 : Nat) (a1 : Int) (h : zv_H) : E0_glyph d a0 a1 h =
  (if a1 < 0 then
    (some (some (zv_i (-1 : Int)), h))
  else
    (if a1 < (604 : Int) then
      ((zv_gR h a0 0 2).bind fun v1 =>
      ((zv_aI h v1 a1).bind fun v2 =>
      (some (some (zv_i v2), h))))
    else
      (some (some (zv_i (-1 : Int)), h)))) := (zv_lim_eq _ _ _ _ _ _).trans rfl
set_option maxRecDepth 100000 in
theorem qE0_setGlyph (d : Nat) (a0 : Nat) (a1 : Int) (a2 : Int) (h : zv_H) : E0_setGlyph d a0 a1 a2 h =
  (if a1 < 0 then
    (some (none, h))
  else
    (if a1 < (604 : Int) then
      ((zv_gR h a0 0 2).bind fun v1 =>
      ((zv_wI h v1 a1 a2).bind fun g2 =>
      (some (none, g2))))
    else
      (some (none, h)))) := (zv_lim_eq _ _ _ _ _ _).trans rfl
set_option maxRecDepth 100000 in
theorem qE0_letterAt (d : Nat) (a0 : Nat) (a1 : Nat) (a2 : Int) (h : zv_H) : E0_letterAt d a0 a1 a2 h =
  ((C5_idAt d a1 a2 h).bind fun q1 =>
  ((C0_glyph d a0 q1.1 q1.2).bind fun q2 =>
  (some (some (zv_i q2.1), q2.2)))) := (zv_lim_eq _ _ _ _ _ _).trans rfl
set_option maxRecDepth 100000 in
theorem qE0_rowOfHere (d : Nat) (a0 : Nat) (h : zv_H) : E0_rowOfHere d a0 h =
  ((zv_gR h a0 0 5).bind fun v1 =>
  ((zv_gR h a0 0 10).bind fun v2 =>
  ((C4_lay d v1 v2 h).bind fun g3 =>
  ((zv_gR g3 a0 0 5).bind fun v4 =>
  (some (some (zv_r v4), g3)))))) := (zv_lim_eq _ _ _ _ _ _).trans rfl
set_option maxRecDepth 100000 in
theorem qE0_leaves (d : Nat) (a0 : Nat) (h : zv_H) : E0_leaves d a0 h =
  L0_leaves_4 d a0 (0 : Int) (0 : Int) h := (zv_lim_eq _ _ _ _ _ _).trans rfl
set_option maxRecDepth 100000 in
theorem qL0_leaves_4 (d : Nat) (a0 : Nat) (a1 : Int) (a2 : Int) (h : zv_H) : L0_leaves_4 d a0 a1 a2 h =
  (if a2 < (48 : Int) then
    ((C0_at d a0 a2 h).bind fun q1 =>
    (if q1.1 = 0 then
      L0_leaves_4 d a0 (zv_w (a1 + (0 : Int))) (zv_w (a2 + 1)) q1.2
    else
      ((zv_gI q1.2 q1.1 5 11).bind fun v2 =>
      (if v2 = 0 then
        L0_leaves_4 d a0 (zv_w (a1 + (1 : Int))) (zv_w (a2 + 1)) q1.2
      else
        L0_leaves_4 d a0 (zv_w (a1 + (0 : Int))) (zv_w (a2 + 1)) q1.2))))
  else
    (some (some (zv_i a1), h))) := (zv_lim_eq _ _ _ _ _ _).trans rfl
set_option maxRecDepth 100000 in
theorem qE0_groups (d : Nat) (a0 : Nat) (h : zv_H) : E0_groups d a0 h =
  ((zv_gR h a0 0 10).bind fun v1 =>
  L0_groups_7 d a0 (0 : Int) v1 h) := (zv_lim_eq _ _ _ _ _ _).trans rfl
set_option maxRecDepth 100000 in
theorem qL0_groups_7 (d : Nat) (a0 : Nat) (a1 : Int) (a2 : Nat) (h : zv_H) : L0_groups_7 d a0 a1 a2 h =
  (if a2 = 0 then
    (some (some (zv_i a1), h))
  else
    ((zv_gR h a0 0 0).bind fun v1 =>
    (if 1000000 ≤ a2 ∨ 1000000 ≤ v1 then none else
    if a2 = v1 then
      ((zv_gR h a2 5 4).bind fun v2 =>
      L0_groups_7 d a0 (zv_w (a1 + (0 : Int))) v2 h)
    else
      ((zv_gR h a2 5 5).bind fun v3 =>
      (if 1000000 ≤ v3 ∨ 1000000 ≤ a2 then none else
      if v3 = a2 then
        ((zv_gR h a2 5 4).bind fun v4 =>
        L0_groups_7 d a0 (zv_w (a1 + (1 : Int))) v4 h)
      else
        ((zv_gR h a2 5 4).bind fun v5 =>
        L0_groups_7 d a0 (zv_w (a1 + (0 : Int))) v5 h)))))) := (zv_lim_eq _ _ _ _ _ _).trans rfl
set_option maxRecDepth 100000 in
theorem qE0_childOf (d : Nat) (a0 : Nat) (a1 : Nat) (a2 : Int) (h : zv_H) : E0_childOf d a0 a1 a2 h =
  (if a2 < 0 then
    (some (some (zv_r 0), h))
  else
    ((zv_gI h a1 5 11).bind fun v1 =>
    (if a2 < v1 then
      ((C0_findNewest d a0 h).bind fun g2 =>
      ((zv_gR g2 a0 0 7).bind fun v3 =>
      ((zv_gI g2 v3 6 4).bind fun v4 =>
      L0_childOf_34 d a0 a1 a2 0 (zv_w (v4 + (1 : Int))) (0 : Int) g2)))
    else
      (some (some (zv_r 0), h))))) := (zv_lim_eq _ _ _ _ _ _).trans rfl
set_option maxRecDepth 100000 in
theorem qL0_childOf_34 (d : Nat) (a0 : Nat) (a1 : Nat) (a2 : Int) (a3 : Nat) (a4 : Int) (a5 : Int) (h : zv_H) : L0_childOf_34 d a0 a1 a2 a3 a4 a5 h =
  (if a5 ≤ a2 then
    ((C0_newestChild d a0 a1 a4 h).bind fun q1 =>
    (if q1.1 = 0 then
      (some (some (zv_r 0), q1.2))
    else
      ((zv_gI q1.2 q1.1 5 14).bind fun v2 =>
      L0_childOf_34 d a0 a1 a2 q1.1 v2 (zv_w (a5 + 1)) q1.2)))
  else
    (some (some (zv_r a3), h))) := (zv_lim_eq _ _ _ _ _ _).trans rfl
set_option maxRecDepth 100000 in
theorem qE0_findNewest (d : Nat) (a0 : Nat) (h : zv_H) : E0_findNewest d a0 h =
  L0_findNewest_2 d a0 (0 : Int) h := (zv_lim_eq _ _ _ _ _ _).trans rfl
set_option maxRecDepth 100000 in
theorem qL0_findNewest_2 (d : Nat) (a0 : Nat) (a1 : Int) (h : zv_H) : L0_findNewest_2 d a0 a1 h =
  (if a1 < (48 : Int) then
    ((zv_gR h a0 0 1).bind fun v1 =>
    ((zv_aR h v1 a1).bind fun v2 =>
    (if v2 = 0 then
      L0_findNewest_2 d a0 (zv_w (a1 + 1)) h
    else
      ((zv_gR h a0 0 1).bind fun v3 =>
      ((zv_aR h v3 a1).bind fun v4 =>
      ((zv_pI h v4 5 14 (0 : Int)).bind fun g5 =>
      L0_findNewest_2 d a0 (zv_w (a1 + 1)) g5))))))
  else
    L0_findNewest_35 d a0 (0 : Int) h) := (zv_lim_eq _ _ _ _ _ _).trans rfl
set_option maxRecDepth 100000 in
theorem qL0_findNewest_35 (d : Nat) (a0 : Nat) (a1 : Int) (h : zv_H) : L0_findNewest_35 d a0 a1 h =
  (if a1 < (48 : Int) then
    ((C0_at d a0 a1 h).bind fun q1 =>
    L0_findNewest_49 d a0 a1 q1.1 q1.1 q1.2)
  else
    (some (none, h))) := (zv_lim_eq _ _ _ _ _ _).trans rfl
set_option maxRecDepth 100000 in
theorem qL0_findNewest_49 (d : Nat) (a0 : Nat) (a1 : Int) (a2 : Nat) (a3 : Nat) (h : zv_H) : L0_findNewest_49 d a0 a1 a2 a3 h =
  (if a3 = 0 then
    L0_findNewest_35 d a0 (zv_w (a1 + 1)) h
  else
    ((zv_gI h a3 5 14).bind fun v1 =>
    ((zv_gI h a2 5 13).bind fun v2 =>
    ((CJ_max d v1 v2 h).bind fun q3 =>
    ((zv_pI q3.2 a3 5 14 q3.1).bind fun g4 =>
    ((zv_gR g4 a3 5 4).bind fun v5 =>
    L0_findNewest_49 d a0 a1 a2 v5 g4)))))) := (zv_lim_eq _ _ _ _ _ _).trans rfl
set_option maxRecDepth 100000 in
theorem qE0_newestChild (d : Nat) (a0 : Nat) (a1 : Nat) (a2 : Int) (h : zv_H) : E0_newestChild d a0 a1 a2 h =
  L0_newestChild_5 d a0 a1 a2 0 (0 : Int) h := (zv_lim_eq _ _ _ _ _ _).trans rfl
set_option maxRecDepth 100000 in
theorem qL0_newestChild_5 (d : Nat) (a0 : Nat) (a1 : Nat) (a2 : Int) (a3 : Nat) (a4 : Int) (h : zv_H) : L0_newestChild_5 d a0 a1 a2 a3 a4 h =
  (if a4 < (48 : Int) then
    ((C0_at d a0 a4 h).bind fun q1 =>
    (if q1.1 = 0 then
      L0_newestChild_5 d a0 a1 a2 a3 (zv_w (a4 + 1)) q1.2
    else
      ((zv_gR q1.2 q1.1 5 4).bind fun v2 =>
      (if 1000000 ≤ v2 ∨ 1000000 ≤ a1 then none else
      if v2 = a1 then
        ((zv_gI q1.2 q1.1 5 14).bind fun v3 =>
        (if v3 < a2 then
          (if a3 = 0 then
            L0_newestChild_5 d a0 a1 a2 q1.1 (zv_w (a4 + 1)) q1.2
          else
            ((zv_gI q1.2 q1.1 5 14).bind fun v4 =>
            ((zv_gI q1.2 a3 5 14).bind fun v5 =>
            (if v4 ≤ v5 then
              L0_newestChild_5 d a0 a1 a2 a3 (zv_w (a4 + 1)) q1.2
            else
              L0_newestChild_5 d a0 a1 a2 q1.1 (zv_w (a4 + 1)) q1.2))))
        else
          L0_newestChild_5 d a0 a1 a2 a3 (zv_w (a4 + 1)) q1.2))
      else
        L0_newestChild_5 d a0 a1 a2 a3 (zv_w (a4 + 1)) q1.2))))
  else
    (some (some (zv_r a3), h))) := (zv_lim_eq _ _ _ _ _ _).trans rfl
set_option maxRecDepth 100000 in
theorem qE0_onLine (d : Nat) (a0 : Nat) (a1 : Nat) (h : zv_H) : E0_onLine d a0 a1 h =
  L0_onLine_2 d a0 a1 h := (zv_lim_eq _ _ _ _ _ _).trans rfl
set_option maxRecDepth 100000 in
theorem qL0_onLine_2 (d : Nat) (a0 : Nat) (a2 : Nat) (h : zv_H) : L0_onLine_2 d a0 a2 h =
  (if a2 = 0 then
    L0_onLine_25 d a0 a2 h
  else
    ((zv_gI h a2 5 10).bind fun v1 =>
    ((zv_gI h a0 5 10).bind fun v2 =>
    (if v1 ≤ v2 then
      L0_onLine_25 d a0 a2 h
    else
      ((zv_gR h a2 5 4).bind fun v3 =>
      L0_onLine_2 d a0 v3 h))))) := (zv_lim_eq _ _ _ _ _ _).trans rfl
set_option maxRecDepth 100000 in
theorem qL0_onLine_25 (d : Nat) (a0 : Nat) (a2 : Nat) (h : zv_H) : L0_onLine_25 d a0 a2 h =
  (if 1000000 ≤ a2 ∨ 1000000 ≤ a0 then none else
  if a2 = a0 then
    (some (some (zv_i (1 : Int)), h))
  else
    (some (some (zv_i (0 : Int)), h))) := (zv_lim_eq _ _ _ _ _ _).trans rfl
set_option maxRecDepth 100000 in
theorem qE0_above (d : Nat) (a0 : Nat) (a1 : Int) (h : zv_H) : E0_above d a0 a1 h =
  L0_above_2 d a1 a0 h := (zv_lim_eq _ _ _ _ _ _).trans rfl
set_option maxRecDepth 100000 in
theorem qL0_above_2 (d : Nat) (a1 : Int) (a2 : Nat) (h : zv_H) : L0_above_2 d a1 a2 h =
  (if a2 = 0 then
    (some (some (zv_r a2), h))
  else
    ((zv_gI h a2 5 10).bind fun v1 =>
    (if v1 ≤ a1 then
      (some (some (zv_r a2), h))
    else
      ((zv_gR h a2 5 4).bind fun v2 =>
      L0_above_2 d a1 v2 h)))) := (zv_lim_eq _ _ _ _ _ _).trans rfl
set_option maxRecDepth 100000 in
theorem qE0_lettersOfHereBy (d : Nat) (a0 : Nat) (a1 : Int64) (h : zv_H) : E0_lettersOfHereBy d a0 a1 h =
  L0_lettersOfHereBy_5 d a0 a1 (0 : Int) (0 : Int) h := (zv_lim_eq _ _ _ _ _ _).trans rfl
set_option maxRecDepth 100000 in
theorem qL0_lettersOfHereBy_5 (d : Nat) (a0 : Nat) (a1 : Int64) (a3 : Int) (a4 : Int) (h : zv_H) : L0_lettersOfHereBy_5 d a0 a1 a3 a4 h =
  ((zv_gR h a0 0 10).bind fun v1 =>
  ((zv_gI h v1 5 12).bind fun v2 =>
  (if a4 < v2 then
    ((zv_gR h a0 0 10).bind fun v3 =>
    ((C5_idAt d v3 a4 h).bind fun q4 =>
    ((C4_putter d q4.1 q4.2).bind fun q5 =>
    (if (zv_lcmp ((zv_lushr a1 q5.1) &&& (Int64.ofNat 1)) (Int64.ofNat 0)) = 0 then
      L0_lettersOfHereBy_5 d a0 a1 (zv_w (a3 + (0 : Int))) (zv_w (a4 + 1)) q5.2
    else
      L0_lettersOfHereBy_5 d a0 a1 (zv_w (a3 + (1 : Int))) (zv_w (a4 + 1)) q5.2))))
  else
    (some (some (zv_i a3), h))))) := (zv_lim_eq _ _ _ _ _ _).trans rfl
set_option maxRecDepth 100000 in
theorem qE0_moveTo (d : Nat) (a0 : Nat) (a1 : Nat) (h : zv_H) : E0_moveTo d a0 a1 h =
  ((zv_pR h a0 0 10 a1).bind fun g1 =>
  ((zv_gR g1 a0 0 7).bind fun v2 =>
  ((zv_gI g1 a0 0 11).bind fun v3 =>
  ((C6_add d v2 a1 v3 g1).bind fun g4 =>
  (some (none, g4)))))) := (zv_lim_eq _ _ _ _ _ _).trans rfl
set_option maxRecDepth 100000 in
theorem qE0_grow (d : Nat) (a0 : Nat) (a1 : Int) (a2 : Int) (a3 : Int) (h : zv_H) : E0_grow d a0 a1 a2 a3 h =
  L0_grow_3 d a0 a1 a2 a3 (0 : Int) h := (zv_lim_eq _ _ _ _ _ _).trans rfl
set_option maxRecDepth 100000 in
theorem qL0_grow_3 (d : Nat) (a0 : Nat) (a1 : Int) (a2 : Int) (a3 : Int) (a4 : Int) (h : zv_H) : L0_grow_3 d a0 a1 a2 a3 a4 h =
  (if a4 < (48 : Int) then
    ((C0_at d a0 a4 h).bind fun q1 =>
    (if q1.1 = 0 then
      L0_grow_25 d a0 a1 a2 a3 a4 q1.2
    else
      L0_grow_3 d a0 a1 a2 a3 (zv_w (a4 + 1)) q1.2))
  else
    L0_grow_25 d a0 a1 a2 a3 a4 h) := (zv_lim_eq _ _ _ _ _ _).trans rfl
set_option maxRecDepth 100000 in
theorem qL0_grow_25 (d : Nat) (a0 : Nat) (a1 : Int) (a2 : Int) (a3 : Int) (a4 : Int) (h : zv_H) : L0_grow_25 d a0 a1 a2 a3 a4 h =
  (if a4 < (48 : Int) then
    ((zv_gR h a0 0 1).bind fun v1 =>
    ((zv_aR h v1 a4).bind fun v2 =>
    (if v2 = 0 then
      (some (some (zv_r 0), h))
    else
      ((zv_gR h a0 0 1).bind fun v3 =>
      ((zv_aR h v3 a4).bind fun v4 =>
      ((zv_gR h a0 0 10).bind fun v5 =>
      ((C5_open d v4 v5 a1 a2 a3 h).bind fun g6 =>
      ((zv_gI g6 a0 0 11).bind fun v7 =>
      ((zv_pI g6 v4 5 7 v7).bind fun g8 =>
      ((zv_gR g8 a0 0 10).bind fun v9 =>
      ((zv_gI g8 v9 5 11).bind fun v10 =>
      ((zv_pI g8 v9 5 11 (zv_w (v10 + (1 : Int)))).bind fun g11 =>
      ((zv_gI g11 a0 0 12).bind fun v12 =>
      ((zv_pI g11 a0 0 12 (zv_w (v12 + (1 : Int)))).bind fun g13 =>
      ((zv_pR g13 a0 0 10 v4).bind fun g14 =>
      ((zv_gR g14 a0 0 7).bind fun v15 =>
      ((zv_gI g14 a0 0 11).bind fun v16 =>
      ((C6_add d v15 v4 v16 g14).bind fun g17 =>
      (some (some (zv_r v4), g17))))))))))))))))))))
  else
    (some (some (zv_r 0), h))) := (zv_lim_eq _ _ _ _ _ _).trans rfl
set_option maxRecDepth 100000 in
theorem qE0_putWord (d : Nat) (a0 : Nat) (a1 : Int) (a2 : Nat) (h : zv_H) : E0_putWord d a0 a1 a2 h =
  (if a1 < 0 then
    (some (some (zv_i (-1 : Int)), h))
  else
    ((zv_gR h a0 0 10).bind fun v1 =>
    ((zv_gI h v1 5 12).bind fun v2 =>
    (if a1 ≤ v2 then
      ((zv_gI h a2 7 1).bind fun v3 =>
      (if v3 = 0 then
        (some (some (zv_i (-1 : Int)), h))
      else
        ((zv_gI h a0 0 12).bind fun v4 =>
        (if v4 < (48 : Int) then
          ((zv_gR h a0 0 10).bind fun v5 =>
          ((zv_gI h v5 5 12).bind fun v6 =>
          ((zv_gI h a2 7 1).bind fun v7 =>
          (if (zv_w (v6 + v7)) ≤ (120 : Int) then
            ((zv_gR h a0 0 10).bind fun v8 =>
            ((zv_gI h a2 7 1).bind fun v9 =>
            ((C0_grow d a0 (0 : Int) a1 v9 h).bind fun q10 =>
            (if q10.1 = 0 then
              (some (some (zv_i (-3 : Int)), q10.2))
            else
              ((C5_idAt d v8 (zv_w (a1 - (1 : Int))) q10.2).bind fun q11 =>
              ((zv_pI q11.2 q10.1 5 15 q11.1).bind fun g12 =>
              ((zv_gI g12 q10.1 5 15).bind fun v13 =>
              ((C0_baseOf d v13 g12).bind fun q14 =>
              ((zv_pJ q14.2 q10.1 5 17 q14.1).bind fun g15 =>
              L0_putWord_109 d a0 a1 a2 v8 q10.1 (0 : Int) g15)))))))))
          else
            (some (some (zv_i (-6 : Int)), h))))))
        else
          (some (some (zv_i (-3 : Int)), h))))))
    else
      (some (some (zv_i (-1 : Int)), h)))))) := (zv_lim_eq _ _ _ _ _ _).trans rfl
set_option maxRecDepth 100000 in
theorem qL0_putWord_109 (d : Nat) (a0 : Nat) (a1 : Int) (a2 : Nat) (a3 : Nat) (a4 : Nat) (a5 : Int) (h : zv_H) : L0_putWord_109 d a0 a1 a2 a3 a4 a5 h =
  (if a5 < a1 then
    ((C5_idAt d a3 a5 h).bind fun q1 =>
    ((C5_addId d a4 q1.1 q1.2).bind fun g2 =>
    L0_putWord_109 d a0 a1 a2 a3 a4 (zv_w (a5 + 1)) g2))
  else
    L0_putWord_135 d a0 a1 a2 a3 a4 (0 : Int) h) := (zv_lim_eq _ _ _ _ _ _).trans rfl
set_option maxRecDepth 100000 in
theorem qL0_putWord_135 (d : Nat) (a0 : Nat) (a1 : Int) (a2 : Nat) (a3 : Nat) (a4 : Nat) (a5 : Int) (h : zv_H) : L0_putWord_135 d a0 a1 a2 a3 a4 a5 h =
  ((zv_gI h a2 7 1).bind fun v1 =>
  (if a5 < v1 then
    ((zv_gI h a4 5 0).bind fun v2 =>
    ((C4_id d v2 a5 h).bind fun q3 =>
    ((C7_at d a2 a5 q3.2).bind fun q4 =>
    ((C0_setGlyph d a0 q3.1 q4.1 q4.2).bind fun g5 =>
    ((C5_addId d a4 q3.1 g5).bind fun g6 =>
    L0_putWord_135 d a0 a1 a2 a3 a4 (zv_w (a5 + 1)) g6)))))
  else
    L0_putWord_184 d a0 a3 a4 a1 h)) := (zv_lim_eq _ _ _ _ _ _).trans rfl
set_option maxRecDepth 100000 in
theorem qL0_putWord_184 (d : Nat) (a0 : Nat) (a3 : Nat) (a4 : Nat) (a5 : Int) (h : zv_H) : L0_putWord_184 d a0 a3 a4 a5 h =
  ((zv_gI h a3 5 12).bind fun v1 =>
  (if a5 < v1 then
    ((C5_idAt d a3 a5 h).bind fun q2 =>
    ((C5_addId d a4 q2.1 q2.2).bind fun g3 =>
    L0_putWord_184 d a0 a3 a4 (zv_w (a5 + 1)) g3))
  else
    ((C0_joinGroup d a0 a4 a3 h).bind fun g4 =>
    ((zv_gI g4 a4 5 0).bind fun v5 =>
    (some (some (zv_i v5), g4)))))) := (zv_lim_eq _ _ _ _ _ _).trans rfl
set_option maxRecDepth 100000 in
theorem qE0_cutOut (d : Nat) (a0 : Nat) (a1 : Int) (a2 : Int) (h : zv_H) : E0_cutOut d a0 a1 a2 h =
  (if a1 < 0 then
    (some (some (zv_i (-1 : Int)), h))
  else
    ((C8_within d a2 (1 : Int) (12 : Int) h).bind fun q1 =>
    (if q1.1 = 0 then
      (some (some (zv_i (-1 : Int)), q1.2))
    else
      ((zv_gR q1.2 a0 0 10).bind fun v2 =>
      ((zv_gI q1.2 v2 5 12).bind fun v3 =>
      (if a1 ≤ (zv_w (v3 - a2)) then
        ((zv_gI q1.2 a0 0 12).bind fun v4 =>
        (if v4 < (48 : Int) then
          ((zv_gR q1.2 a0 0 10).bind fun v5 =>
          ((C0_grow d a0 (1 : Int) a1 a2 q1.2).bind fun q6 =>
          (if q6.1 = 0 then
            (some (some (zv_i (-3 : Int)), q6.2))
          else
            L0_cutOut_69 d a0 a1 a2 v5 q6.1 (0 : Int) q6.2)))
        else
          (some (some (zv_i (-3 : Int)), q1.2))))
      else
        (some (some (zv_i (-5 : Int)), q1.2)))))))) := (zv_lim_eq _ _ _ _ _ _).trans rfl
set_option maxRecDepth 100000 in
theorem qL0_cutOut_69 (d : Nat) (a0 : Nat) (a1 : Int) (a2 : Int) (a3 : Nat) (a4 : Nat) (a5 : Int) (h : zv_H) : L0_cutOut_69 d a0 a1 a2 a3 a4 a5 h =
  ((zv_gI h a3 5 12).bind fun v1 =>
  (if a5 < v1 then
    ((C5_idAt d a3 a5 h).bind fun q2 =>
    (if (zv_w (a5 - a1)) < 0 then
      L0_cutOut_138 d a0 a1 a2 a3 a4 a5 q2.1 q2.2
    else
      (if (zv_w (a5 - a1)) < a2 then
        (if (zv_w (a5 - a1)) < (12 : Int) then
          ((zv_gR q2.2 a4 5 1).bind fun v3 =>
          ((zv_wI q2.2 v3 (zv_w (a5 - a1)) q2.1).bind fun g4 =>
          ((zv_gJ g4 a4 5 17).bind fun v5 =>
          ((C0_baseOf d q2.1 g4).bind fun q6 =>
          ((zv_pJ q6.2 a4 5 17 (v5 ||| q6.1)).bind fun g7 =>
          L0_cutOut_69 d a0 a1 a2 a3 a4 (zv_w (a5 + 1)) g7)))))
        else
          L0_cutOut_138 d a0 a1 a2 a3 a4 a5 q2.1 q2.2)
      else
        L0_cutOut_138 d a0 a1 a2 a3 a4 a5 q2.1 q2.2)))
  else
    ((C0_joinGroup d a0 a4 a3 h).bind fun g8 =>
    ((zv_gI g8 a4 5 0).bind fun v9 =>
    (some (some (zv_i v9), g8)))))) := (zv_lim_eq _ _ _ _ _ _).trans rfl
set_option maxRecDepth 100000 in
theorem qL0_cutOut_138 (d : Nat) (a0 : Nat) (a1 : Int) (a2 : Int) (a3 : Nat) (a4 : Nat) (a5 : Int) (a6 : Int) (h : zv_H) : L0_cutOut_138 d a0 a1 a2 a3 a4 a5 a6 h =
  ((C5_addId d a4 a6 h).bind fun g1 =>
  L0_cutOut_69 d a0 a1 a2 a3 a4 (zv_w (a5 + 1)) g1) := (zv_lim_eq _ _ _ _ _ _).trans rfl
set_option maxRecDepth 100000 in
theorem qE0_baseOf (d : Nat) (a0 : Int) (h : zv_H) : E0_baseOf d a0 h =
  (if a0 = (-1 : Int) then
    (some (some (zv_j (Int64.ofNat 0)), h))
  else
    ((C4_putter d a0 h).bind fun q1 =>
    (if q1.1 = 0 then
      (some (some (zv_j (Int64.ofNat 0)), q1.2))
    else
      ((C4_putter d a0 q1.2).bind fun q2 =>
      (some (some (zv_j (zv_lshl (Int64.ofNat 1) q2.1)), q2.2)))))) := (zv_lim_eq _ _ _ _ _ _).trans rfl
set_option maxRecDepth 100000 in
theorem qE0_joinGroup (d : Nat) (a0 : Nat) (a1 : Nat) (a2 : Nat) (h : zv_H) : E0_joinGroup d a0 a1 a2 h =
  ((C5_edits d a2 h).bind fun q1 =>
  (if q1.1 = 0 then
    (some (none, q1.2))
  else
    ((zv_gR q1.2 a2 5 5).bind fun v2 =>
    (if v2 = 0 then
      (some (none, q1.2))
    else
      ((zv_gR q1.2 a0 0 8).bind fun v3 =>
      ((zv_gI q1.2 a1 5 7).bind fun v4 =>
      ((zv_gI q1.2 a2 5 7).bind fun v5 =>
      ((C1_set d v3 (0 : Int) (zv_w (v4 - v5)) q1.2).bind fun g6 =>
      ((zv_gR g6 a0 0 8).bind fun v7 =>
      ((zv_gI g6 a2 5 10).bind fun v8 =>
      ((zv_gR g6 a2 5 5).bind fun v9 =>
      ((zv_gI g6 v9 5 10).bind fun v10 =>
      ((C1_set d v7 (1 : Int) (zv_w ((zv_w (v8 - v10)) + (1 : Int))) g6).bind fun g11 =>
      ((zv_gR g11 a0 0 8).bind fun v12 =>
      ((zv_gI g11 a1 5 6).bind fun v13 =>
      ((C1_set d v12 (2 : Int) v13 g11).bind fun g14 =>
      ((zv_gR g14 a0 0 8).bind fun v15 =>
      ((zv_gI g14 a1 5 6).bind fun v16 =>
      ((zv_gI g14 a2 5 6).bind fun v17 =>
      (if v16 = v17 then
        L0_joinGroup_87 d a0 a1 a2 v15 (3 : Int) (1 : Int) g14
      else
        L0_joinGroup_87 d a0 a1 a2 v15 (3 : Int) (0 : Int) g14)))))))))))))))))))) := (zv_lim_eq _ _ _ _ _ _).trans rfl
set_option maxRecDepth 100000 in
theorem qL0_joinGroup_87 (d : Nat) (a0 : Nat) (a1 : Nat) (a2 : Nat) (e0 : Nat) (e1 : Int) (e2 : Int) (h : zv_H) : L0_joinGroup_87 d a0 a1 a2 e0 e1 e2 h =
  ((C1_set d e0 e1 e2 h).bind fun g1 =>
  ((zv_gR g1 a0 0 8).bind fun v2 =>
  ((C0_isNear d a1 a2 g1).bind fun q3 =>
  (if q3.1 = 0 then
    L0_joinGroup_108 d a0 a1 a2 v2 (4 : Int) (0 : Int) q3.2
  else
    L0_joinGroup_108 d a0 a1 a2 v2 (4 : Int) (1 : Int) q3.2)))) := (zv_lim_eq _ _ _ _ _ _).trans rfl
set_option maxRecDepth 100000 in
theorem qL0_joinGroup_108 (d : Nat) (a0 : Nat) (a1 : Nat) (a2 : Nat) (e0 : Nat) (e1 : Int) (e2 : Int) (h : zv_H) : L0_joinGroup_108 d a0 a1 a2 e0 e1 e2 h =
  ((C1_set d e0 e1 e2 h).bind fun g1 =>
  ((zv_gR g1 a0 0 8).bind fun v2 =>
  ((zv_gI g1 a1 5 9).bind fun v3 =>
  ((C1_set d v2 (5 : Int) v3 g1).bind fun g4 =>
  ((zv_gR g4 a0 0 8).bind fun v5 =>
  ((C1_holds d v5 g4).bind fun q6 =>
  (if q6.1 = 0 then
    (some (none, q6.2))
  else
    ((zv_gR q6.2 a2 5 5).bind fun v7 =>
    ((zv_pR q6.2 a1 5 5 v7).bind fun g8 =>
    (some (none, g8))))))))))) := (zv_lim_eq _ _ _ _ _ _).trans rfl
set_option maxRecDepth 100000 in
theorem qE0_isNear (d : Nat) (a0 : Nat) (a1 : Nat) (h : zv_H) : E0_isNear d a0 a1 h =
  ((zv_gI h a1 5 6).bind fun v1 =>
  (if v1 = 0 then
    ((zv_gI h a1 5 8).bind fun v2 =>
    ((zv_gI h a1 5 9).bind fun v3 =>
    L0_isNear_23 d a0 a1 (zv_w (v2 + v3)) h))
  else
    ((zv_gI h a1 5 8).bind fun v4 =>
    L0_isNear_23 d a0 a1 v4 h))) := (zv_lim_eq _ _ _ _ _ _).trans rfl
set_option maxRecDepth 100000 in
theorem qL0_isNear_23 (d : Nat) (a0 : Nat) (a1 : Nat) (e0 : Int) (h : zv_H) : L0_isNear_23 d a0 a1 e0 h =
  ((zv_gI h a0 5 6).bind fun v1 =>
  (if v1 = 0 then
    ((zv_gI h a0 5 8).bind fun v2 =>
    (if v2 = e0 then
      (some (some (zv_i (1 : Int)), h))
    else
      (some (some (zv_i (0 : Int)), h))))
  else
    ((zv_gI h a0 5 8).bind fun v3 =>
    ((zv_gI h a0 5 9).bind fun v4 =>
    (if (zv_w (v3 + v4)) = e0 then
      (some (some (zv_i (1 : Int)), h))
    else
      ((zv_gI h a1 5 6).bind fun v5 =>
      (if v5 = (1 : Int) then
        ((zv_gI h a0 5 8).bind fun v6 =>
        (if v6 = e0 then
          (some (some (zv_i (1 : Int)), h))
        else
          (some (some (zv_i (0 : Int)), h))))
      else
        (some (some (zv_i (0 : Int)), h))))))))) := (zv_lim_eq _ _ _ _ _ _).trans rfl
set_option maxRecDepth 100000 in
theorem qE0_passTime (d : Nat) (a0 : Nat) (a1 : Int) (h : zv_H) : E0_passTime d a0 a1 h =
  ((C8_within d a1 (0 : Int) (999 : Int) h).bind fun q1 =>
  (if q1.1 = 0 then
    (some (some (zv_i (-1 : Int)), q1.2))
  else
    ((zv_gI q1.2 a0 0 11).bind fun v2 =>
    ((zv_pI q1.2 a0 0 11 (zv_w (v2 + a1))).bind fun g3 =>
    ((zv_gI g3 a0 0 11).bind fun v4 =>
    (some (some (zv_i v4), g3))))))) := (zv_lim_eq _ _ _ _ _ _).trans rfl
set_option maxRecDepth 100000 in
theorem qE0_behind (d : Nat) (a0 : Nat) (a1 : Int) (h : zv_H) : E0_behind d a0 a1 h =
  ((zv_gR h a0 0 10).bind fun v1 =>
  L0_behind_7 d a1 v1 (0 : Int) h) := (zv_lim_eq _ _ _ _ _ _).trans rfl
set_option maxRecDepth 100000 in
theorem qL0_behind_7 (d : Nat) (a1 : Int) (a2 : Nat) (a3 : Int) (h : zv_H) : L0_behind_7 d a1 a2 a3 h =
  (if a3 < a1 then
    (if a2 = 0 then
      (some (some (zv_r a2), h))
    else
      ((zv_gR h a2 5 5).bind fun v1 =>
      (if v1 = 0 then
        L0_behind_7 d a1 0 (zv_w (a3 + 1)) h
      else
        ((zv_gR h a2 5 5).bind fun v2 =>
        ((zv_gR h v2 5 4).bind fun v3 =>
        L0_behind_7 d a1 v3 (zv_w (a3 + 1)) h)))))
  else
    (some (some (zv_r a2), h))) := (zv_lim_eq _ _ _ _ _ _).trans rfl
set_option maxRecDepth 100000 in
theorem qE0_stepBack (d : Nat) (a0 : Nat) (h : zv_H) : E0_stepBack d a0 h =
  ((C0_behind d a0 (1 : Int) h).bind fun q1 =>
  (if q1.1 = 0 then
    (some (some (zv_i (-5 : Int)), q1.2))
  else
    ((C0_moveTo d a0 q1.1 q1.2).bind fun g2 =>
    ((zv_gI g2 q1.1 5 0).bind fun v3 =>
    (some (some (zv_i v3), g2)))))) := (zv_lim_eq _ _ _ _ _ _).trans rfl
set_option maxRecDepth 100000 in
theorem qE0_stepOn (d : Nat) (a0 : Nat) (h : zv_H) : E0_stepOn d a0 h =
  ((zv_gR h a0 0 10).bind fun v1 =>
  ((C0_childOf d a0 v1 (0 : Int) h).bind fun q2 =>
  (if q2.1 = 0 then
    (some (some (zv_i (-5 : Int)), q2.2))
  else
    ((C0_childOf d a0 q2.1 (0 : Int) q2.2).bind fun q3 =>
    L0_stepOn_26 d a0 q2.1 q3.1 (0 : Int) q3.2)))) := (zv_lim_eq _ _ _ _ _ _).trans rfl
set_option maxRecDepth 100000 in
theorem qL0_stepOn_26 (d : Nat) (a0 : Nat) (a1 : Nat) (a2 : Nat) (a3 : Int) (h : zv_H) : L0_stepOn_26 d a0 a1 a2 a3 h =
  (if a3 < (48 : Int) then
    (if a2 = 0 then
      L0_stepOn_62 d a0 a1 h
    else
      ((zv_gR h a2 5 5).bind fun v1 =>
      ((zv_gR h a1 5 5).bind fun v2 =>
      (if 1000000 ≤ v1 ∨ 1000000 ≤ v2 then none else
      if v1 = v2 then
        ((C0_childOf d a0 a2 (0 : Int) h).bind fun q3 =>
        L0_stepOn_26 d a0 a2 q3.1 (zv_w (a3 + 1)) q3.2)
      else
        L0_stepOn_62 d a0 a1 h))))
  else
    L0_stepOn_62 d a0 a1 h) := (zv_lim_eq _ _ _ _ _ _).trans rfl
set_option maxRecDepth 100000 in
theorem qL0_stepOn_62 (d : Nat) (a0 : Nat) (a1 : Nat) (h : zv_H) : L0_stepOn_62 d a0 a1 h =
  ((C0_moveTo d a0 a1 h).bind fun g1 =>
  ((zv_gI g1 a1 5 0).bind fun v2 =>
  (some (some (zv_i v2), g1)))) := (zv_lim_eq _ _ _ _ _ _).trans rfl
set_option maxRecDepth 100000 in
theorem qE0_goTo (d : Nat) (a0 : Nat) (a1 : Int) (h : zv_H) : E0_goTo d a0 a1 h =
  ((C0_at d a0 a1 h).bind fun q1 =>
  (if q1.1 = 0 then
    (some (some (zv_i (-2 : Int)), q1.2))
  else
    ((zv_gR q1.2 a0 0 10).bind fun v2 =>
    (if 1000000 ≤ q1.1 ∨ 1000000 ≤ v2 then none else
    if q1.1 = v2 then
      (some (some (zv_i (-4 : Int)), q1.2))
    else
      ((zv_gR q1.2 a0 0 10).bind fun v3 =>
      ((C0_wayLength d v3 q1.1 q1.2).bind fun q4 =>
      ((C0_moveTo d a0 q1.1 q4.2).bind fun g5 =>
      (some (some (zv_i q4.1), g5))))))))) := (zv_lim_eq _ _ _ _ _ _).trans rfl
set_option maxRecDepth 100000 in
theorem qE0_nameHere (d : Nat) (a0 : Nat) (a1 : Int) (h : zv_H) : E0_nameHere d a0 a1 h =
  (if a1 = 0 then
    (some (some (zv_i (-1 : Int)), h))
  else
    ((zv_gR h a0 0 6).bind fun v1 =>
    ((C2_indexOf d v1 a1 h).bind fun q2 =>
    (if q2.1 = (-1 : Int) then
      ((zv_gR q2.2 a0 0 6).bind fun v3 =>
      ((zv_gI q2.2 v3 2 2).bind fun v4 =>
      (if v4 < (12 : Int) then
        L0_nameHere_35 d a0 a1 q2.1 q2.2
      else
        (some (some (zv_i (-3 : Int)), q2.2)))))
    else
      L0_nameHere_35 d a0 a1 q2.1 q2.2)))) := (zv_lim_eq _ _ _ _ _ _).trans rfl
set_option maxRecDepth 100000 in
theorem qL0_nameHere_35 (d : Nat) (a0 : Nat) (a1 : Int) (a2 : Int) (h : zv_H) : L0_nameHere_35 d a0 a1 a2 h =
  (if a2 = (-1 : Int) then
    L0_nameHere_61 d a0 a1 h
  else
    ((zv_gR h a0 0 6).bind fun v1 =>
    ((C2_ownerAt d v1 a2 h).bind fun q2 =>
    ((zv_gR q2.2 a0 0 10).bind fun v3 =>
    ((zv_gI q2.2 v3 5 0).bind fun v4 =>
    (if q2.1 = v4 then
      (some (some (zv_i (-4 : Int)), q2.2))
    else
      L0_nameHere_61 d a0 a1 q2.2)))))) := (zv_lim_eq _ _ _ _ _ _).trans rfl
set_option maxRecDepth 100000 in
theorem qL0_nameHere_61 (d : Nat) (a0 : Nat) (a1 : Int) (h : zv_H) : L0_nameHere_61 d a0 a1 h =
  ((zv_gR h a0 0 6).bind fun v1 =>
  ((zv_gR h a0 0 10).bind fun v2 =>
  ((zv_gI h v2 5 0).bind fun v3 =>
  ((C2_own d v1 a1 v3 h).bind fun g4 =>
  ((zv_gR g4 a0 0 6).bind fun v5 =>
  ((zv_gI g4 v5 2 2).bind fun v6 =>
  (some (some (zv_i v6), g4)))))))) := (zv_lim_eq _ _ _ _ _ _).trans rfl
set_option maxRecDepth 100000 in
theorem qE0_dropName (d : Nat) (a0 : Nat) (a1 : Int) (h : zv_H) : E0_dropName d a0 a1 h =
  (if a1 = 0 then
    (some (some (zv_i (-1 : Int)), h))
  else
    ((zv_gR h a0 0 6).bind fun v1 =>
    ((C2_indexOf d v1 a1 h).bind fun q2 =>
    (if q2.1 = (-1 : Int) then
      (some (some (zv_i (-5 : Int)), q2.2))
    else
      ((zv_gR q2.2 a0 0 6).bind fun v3 =>
      ((C2_drop d v3 q2.1 q2.2).bind fun g4 =>
      ((zv_gR g4 a0 0 6).bind fun v5 =>
      ((zv_gI g4 v5 2 2).bind fun v6 =>
      (some (some (zv_i v6), g4)))))))))) := (zv_lim_eq _ _ _ _ _ _).trans rfl
set_option maxRecDepth 100000 in
theorem qE0_takeBack (d : Nat) (a0 : Nat) (a1 : Int) (h : zv_H) : E0_takeBack d a0 a1 h =
  ((C0_at d a0 a1 h).bind fun q1 =>
  (if q1.1 = 0 then
    (some (some (zv_i (-2 : Int)), q1.2))
  else
    ((zv_gR q1.2 a0 0 5).bind fun v2 =>
    ((zv_gR q1.2 a0 0 10).bind fun v3 =>
    ((C4_lay d v2 v3 q1.2).bind fun g4 =>
    ((zv_gR g4 a0 0 5).bind fun v5 =>
    ((zv_gJ g4 v5 4 8).bind fun v6 =>
    ((C5_bit d q1.1 g4).bind fun q7 =>
    (if (zv_lcmp (v6 &&& q7.1) (Int64.ofNat 0)) = 0 then
      (some (some (zv_i (-7 : Int)), q7.2))
    else
      ((zv_gR q7.2 a0 0 5).bind fun v8 =>
      ((zv_gJ q7.2 v8 4 9).bind fun v9 =>
      ((C5_bit d q1.1 q7.2).bind fun q10 =>
      (if (zv_lcmp (v9 &&& q10.1) (Int64.ofNat 0)) = 0 then
        (some (some (zv_i (-4 : Int)), q10.2))
      else
        ((zv_gR q10.2 a0 0 5).bind fun v11 =>
        ((C4_leaningOn d v11 q1.1 q10.2).bind fun q12 =>
        ((zv_gR q12.2 a0 0 5).bind fun v13 =>
        ((zv_gJ q12.2 v13 4 9).bind fun v14 =>
        ((zv_gR q12.2 a0 0 5).bind fun v15 =>
        ((zv_gJ q12.2 v15 4 9).bind fun v16 =>
        ((C0_turn d a0 (2 : Int) (q12.1 &&& v14) (v16 &&& ((q12.1 &&& v14) ^^^ (-1 : Int64))) q12.2).bind fun q17 =>
        (some (some (zv_i q17.1), q17.2)))))))))))))))))))))) := (zv_lim_eq _ _ _ _ _ _).trans rfl
set_option maxRecDepth 100000 in
theorem qE0_giveBack (d : Nat) (a0 : Nat) (a1 : Int) (h : zv_H) : E0_giveBack d a0 a1 h =
  ((C0_at d a0 a1 h).bind fun q1 =>
  (if q1.1 = 0 then
    (some (some (zv_i (-2 : Int)), q1.2))
  else
    ((zv_gR q1.2 a0 0 5).bind fun v2 =>
    ((zv_gR q1.2 a0 0 10).bind fun v3 =>
    ((C4_lay d v2 v3 q1.2).bind fun g4 =>
    ((zv_gR g4 a0 0 5).bind fun v5 =>
    ((zv_gJ g4 v5 4 8).bind fun v6 =>
    ((C5_bit d q1.1 g4).bind fun q7 =>
    (if (zv_lcmp (v6 &&& q7.1) (Int64.ofNat 0)) = 0 then
      (some (some (zv_i (-7 : Int)), q7.2))
    else
      ((zv_gR q7.2 a0 0 5).bind fun v8 =>
      ((zv_gJ q7.2 v8 4 9).bind fun v9 =>
      ((C5_bit d q1.1 q7.2).bind fun q10 =>
      (if (zv_lcmp (v9 &&& q10.1) (Int64.ofNat 0)) = 0 then
        ((zv_gR q10.2 a0 0 5).bind fun v11 =>
        ((C4_groundOf d v11 q1.1 q10.2).bind fun q12 =>
        ((zv_gR q12.2 a0 0 5).bind fun v13 =>
        ((zv_gJ q12.2 v13 4 9).bind fun v14 =>
        ((zv_gR q12.2 a0 0 5).bind fun v15 =>
        ((zv_gJ q12.2 v15 4 9).bind fun v16 =>
        ((C0_turn d a0 (3 : Int) (q12.1 &&& (v14 ^^^ (-1 : Int64))) (v16 ||| (q12.1 &&& (v14 ^^^ (-1 : Int64)))) q12.2).bind fun q17 =>
        (some (some (zv_i q17.1), q17.2)))))))))
      else
        (some (some (zv_i (-4 : Int)), q10.2))))))))))))))) := (zv_lim_eq _ _ _ _ _ _).trans rfl
set_option maxRecDepth 100000 in
theorem qE0_turn (d : Nat) (a0 : Nat) (a1 : Int) (a2 : Int64) (a4 : Int64) (h : zv_H) : E0_turn d a0 a1 a2 a4 h =
  ((zv_gI h a0 0 12).bind fun v1 =>
  (if v1 < (48 : Int) then
    ((zv_gR h a0 0 5).bind fun v2 =>
    ((C4_look d v2 a4 h).bind fun g3 =>
    ((zv_gR g3 a0 0 5).bind fun v4 =>
    ((zv_gI g3 v4 4 7).bind fun v5 =>
    (if v5 ≤ (120 : Int) then
      ((CJ_bitc d a2 g3).bind fun q6 =>
      ((C0_grow d a0 a1 (-1 : Int) q6.1 q6.2).bind fun q7 =>
      (if q7.1 = 0 then
        (some (some (zv_i (-3 : Int)), q7.2))
      else
        ((zv_pJ q7.2 q7.1 5 16 a2).bind fun g8 =>
        L0_turn_65 d a0 q7.1 (0 : Int) g8))))
    else
      (some (some (zv_i (-6 : Int)), g3)))))))
  else
    (some (some (zv_i (-3 : Int)), h)))) := (zv_lim_eq _ _ _ _ _ _).trans rfl
set_option maxRecDepth 100000 in
theorem qL0_turn_65 (d : Nat) (a0 : Nat) (a6 : Nat) (a7 : Int) (h : zv_H) : L0_turn_65 d a0 a6 a7 h =
  ((zv_gR h a0 0 5).bind fun v1 =>
  ((zv_gI h v1 4 6).bind fun v2 =>
  (if a7 < v2 then
    ((zv_gR h a0 0 5).bind fun v3 =>
    ((C4_seesAt d v3 a7 h).bind fun q4 =>
    (if q4.1 = 0 then
      L0_turn_65 d a0 a6 (zv_w (a7 + 1)) q4.2
    else
      ((zv_gR q4.2 a0 0 5).bind fun v5 =>
      ((C4_idAt d v5 a7 q4.2).bind fun q6 =>
      ((C5_addId d a6 q6.1 q6.2).bind fun g7 =>
      L0_turn_65 d a0 a6 (zv_w (a7 + 1)) g7))))))
  else
    ((zv_gI h a6 5 0).bind fun v8 =>
    (some (some (zv_i v8), h)))))) := (zv_lim_eq _ _ _ _ _ _).trans rfl
set_option maxRecDepth 100000 in
theorem qE0_carryOver (d : Nat) (a0 : Nat) (a1 : Int) (h : zv_H) : E0_carryOver d a0 a1 h =
  ((C0_at d a0 a1 h).bind fun q1 =>
  (if q1.1 = 0 then
    (some (some (zv_i (-2 : Int)), q1.2))
  else
    ((C5_edits d q1.1 q1.2).bind fun q2 =>
    (if q2.1 = 0 then
      (some (some (zv_i (-7 : Int)), q2.2))
    else
      ((zv_gR q2.2 a0 0 10).bind fun v3 =>
      ((C0_onLine d q1.1 v3 q2.2).bind fun q4 =>
      (if q4.1 = 0 then
        ((C0_standForThemselves d a0 q4.2).bind fun g5 =>
        ((C0_carryOne d a0 q1.1 g5).bind fun q6 =>
        (some (some (zv_i q6.1), q6.2))))
      else
        (some (some (zv_i (-7 : Int)), q4.2))))))))) := (zv_lim_eq _ _ _ _ _ _).trans rfl
set_option maxRecDepth 100000 in
theorem qE0_standForThemselves (d : Nat) (a0 : Nat) (h : zv_H) : E0_standForThemselves d a0 h =
  L0_standForThemselves_2 d a0 (0 : Int) h := (zv_lim_eq _ _ _ _ _ _).trans rfl
set_option maxRecDepth 100000 in
theorem qL0_standForThemselves_2 (d : Nat) (a0 : Nat) (a1 : Int) (h : zv_H) : L0_standForThemselves_2 d a0 a1 h =
  (if a1 < (48 : Int) then
    ((zv_gR h a0 0 3).bind fun v1 =>
    ((zv_wI h v1 a1 a1).bind fun g2 =>
    L0_standForThemselves_2 d a0 (zv_w (a1 + 1)) g2))
  else
    (some (none, h))) := (zv_lim_eq _ _ _ _ _ _).trans rfl
set_option maxRecDepth 100000 in
theorem qE0_standOf (d : Nat) (a0 : Nat) (a1 : Int) (h : zv_H) : E0_standOf d a0 a1 h =
  ((C4_putter d a1 h).bind fun q1 =>
  (if a1 < 0 then
    (some (some (zv_i (-1 : Int)), q1.2))
  else
    (if q1.1 < 0 then
      (some (some (zv_i (-1 : Int)), q1.2))
    else
      (if q1.1 < (48 : Int) then
        ((zv_gR q1.2 a0 0 3).bind fun v2 =>
        ((zv_aI q1.2 v2 q1.1).bind fun v3 =>
        ((C4_order d a1 q1.2).bind fun q4 =>
        ((C4_id d v3 q4.1 q4.2).bind fun q5 =>
        (some (some (zv_i q5.1), q5.2))))))
      else
        (some (some (zv_i (-1 : Int)), q1.2)))))) := (zv_lim_eq _ _ _ _ _ _).trans rfl
set_option maxRecDepth 100000 in
theorem qE0_carryOne (d : Nat) (a0 : Nat) (a1 : Nat) (h : zv_H) : E0_carryOne d a0 a1 h =
  ((zv_gI h a1 5 6).bind fun v1 =>
  (if v1 = (1 : Int) then
    ((C0_firstTaken d a0 a1 h).bind fun q2 =>
    ((C0_takenFrom d a0 a1 q2.1 q2.2).bind fun q3 =>
    (if q3.1 = 0 then
      (some (some (zv_i (-10 : Int)), q3.2))
    else
      ((C0_cutOut d a0 q2.1 q3.1 q3.2).bind fun q4 =>
      (some (some (zv_i q4.1), q4.2))))))
  else
    ((zv_gI h a1 5 15).bind fun v5 =>
    (if v5 = (-1 : Int) then
      L0_carryOne_74 d a0 a1 (0 : Int) h
    else
      ((zv_gR h a0 0 5).bind fun v6 =>
      ((zv_gR h a0 0 10).bind fun v7 =>
      ((C4_lay d v6 v7 h).bind fun g8 =>
      ((zv_gR g8 a0 0 5).bind fun v9 =>
      ((zv_gI g8 a1 5 15).bind fun v10 =>
      ((C0_standOf d a0 v10 g8).bind fun q11 =>
      ((C4_seenUpTo d v9 q11.1 q11.2).bind fun q12 =>
      L0_carryOne_74 d a0 a1 q12.1 q12.2))))))))))) := (zv_lim_eq _ _ _ _ _ _).trans rfl
set_option maxRecDepth 100000 in
theorem qL0_carryOne_74 (d : Nat) (a0 : Nat) (a1 : Nat) (a2 : Int) (h : zv_H) : L0_carryOne_74 d a0 a1 a2 h =
  (if a2 = (-1 : Int) then
    (some (some (zv_i (-10 : Int)), h))
  else
    ((zv_gR h a0 0 9).bind fun v1 =>
    ((C7_clear d v1 h).bind fun g2 =>
    L0_carryOne_91 d a0 a1 a2 (0 : Int) g2))) := (zv_lim_eq _ _ _ _ _ _).trans rfl
set_option maxRecDepth 100000 in
theorem qL0_carryOne_91 (d : Nat) (a0 : Nat) (a1 : Nat) (a2 : Int) (a3 : Int) (h : zv_H) : L0_carryOne_91 d a0 a1 a2 a3 h =
  ((zv_gI h a1 5 9).bind fun v1 =>
  (if a3 < v1 then
    ((zv_gR h a0 0 9).bind fun v2 =>
    ((zv_gI h a1 5 0).bind fun v3 =>
    ((C4_id d v3 a3 h).bind fun q4 =>
    ((C0_glyph d a0 q4.1 q4.2).bind fun q5 =>
    ((C7_add d v2 q5.1 q5.2).bind fun g6 =>
    L0_carryOne_91 d a0 a1 a2 (zv_w (a3 + 1)) g6)))))
  else
    ((zv_gR h a0 0 9).bind fun v7 =>
    ((C0_putWord d a0 a2 v7 h).bind fun q8 =>
    (some (some (zv_i q8.1), q8.2)))))) := (zv_lim_eq _ _ _ _ _ _).trans rfl
set_option maxRecDepth 100000 in
theorem qE0_firstTaken (d : Nat) (a0 : Nat) (a1 : Nat) (h : zv_H) : E0_firstTaken d a0 a1 h =
  L0_firstTaken_2 d a0 a1 (0 : Int) h := (zv_lim_eq _ _ _ _ _ _).trans rfl
set_option maxRecDepth 100000 in
theorem qL0_firstTaken_2 (d : Nat) (a0 : Nat) (a1 : Nat) (a2 : Int) (h : zv_H) : L0_firstTaken_2 d a0 a1 a2 h =
  ((zv_gR h a0 0 10).bind fun v1 =>
  ((zv_gI h v1 5 12).bind fun v2 =>
  (if a2 < v2 then
    ((zv_gR h a0 0 10).bind fun v3 =>
    ((C5_idAt d v3 a2 h).bind fun q4 =>
    ((C0_takes d a0 a1 q4.1 q4.2).bind fun q5 =>
    (if q5.1 = 0 then
      L0_firstTaken_2 d a0 a1 (zv_w (a2 + 1)) q5.2
    else
      (some (some (zv_i a2), q5.2))))))
  else
    (some (some (zv_i (-1 : Int)), h))))) := (zv_lim_eq _ _ _ _ _ _).trans rfl
set_option maxRecDepth 100000 in
theorem qE0_takenFrom (d : Nat) (a0 : Nat) (a1 : Nat) (a2 : Int) (h : zv_H) : E0_takenFrom d a0 a1 a2 h =
  ((CJ_max d a2 (0 : Int) h).bind fun q1 =>
  L0_takenFrom_9 d a0 a1 a2 (0 : Int) q1.1 q1.2) := (zv_lim_eq _ _ _ _ _ _).trans rfl
set_option maxRecDepth 100000 in
theorem qL0_takenFrom_9 (d : Nat) (a0 : Nat) (a1 : Nat) (a2 : Int) (a3 : Int) (a4 : Int) (h : zv_H) : L0_takenFrom_9 d a0 a1 a2 a3 a4 h =
  ((zv_gR h a0 0 10).bind fun v1 =>
  ((zv_gI h v1 5 12).bind fun v2 =>
  (if a4 < v2 then
    ((zv_gR h a0 0 10).bind fun v3 =>
    ((C5_idAt d v3 a4 h).bind fun q4 =>
    ((C0_takes d a0 a1 q4.1 q4.2).bind fun q5 =>
    (if q5.1 = 0 then
      L0_takenFrom_9 d a0 a1 a2 a3 (zv_w (a4 + 1)) q5.2
    else
      (if a4 = (zv_w (a2 + a3)) then
        L0_takenFrom_9 d a0 a1 a2 (zv_w (a3 + 1)) (zv_w (a4 + 1)) q5.2
      else
        (some (some (zv_i (0 : Int)), q5.2)))))))
  else
    (some (some (zv_i a3), h))))) := (zv_lim_eq _ _ _ _ _ _).trans rfl
set_option maxRecDepth 100000 in
theorem qE0_takes (d : Nat) (a0 : Nat) (a1 : Nat) (a2 : Int) (h : zv_H) : E0_takes d a0 a1 a2 h =
  L0_takes_2 d a0 a1 a2 (0 : Int) h := (zv_lim_eq _ _ _ _ _ _).trans rfl
set_option maxRecDepth 100000 in
theorem qL0_takes_2 (d : Nat) (a0 : Nat) (a1 : Nat) (a2 : Int) (a3 : Int) (h : zv_H) : L0_takes_2 d a0 a1 a2 a3 h =
  ((zv_gI h a1 5 9).bind fun v1 =>
  (if a3 < v1 then
    (if a2 = (-1 : Int) then
      L0_takes_2 d a0 a1 a2 (zv_w (a3 + 1)) h
    else
      ((C5_tookAt d a1 a3 h).bind fun q2 =>
      ((C0_standOf d a0 q2.1 q2.2).bind fun q3 =>
      (if q3.1 = a2 then
        (some (some (zv_i (1 : Int)), q3.2))
      else
        L0_takes_2 d a0 a1 a2 (zv_w (a3 + 1)) q3.2))))
  else
    (some (some (zv_i (0 : Int)), h)))) := (zv_lim_eq _ _ _ _ _ _).trans rfl
set_option maxRecDepth 100000 in
theorem qE0_mergeIn (d : Nat) (a0 : Nat) (a1 : Int) (h : zv_H) : E0_mergeIn d a0 a1 h =
  ((C0_at d a0 a1 h).bind fun q1 =>
  (if q1.1 = 0 then
    (some (some (zv_i (-2 : Int)), q1.2))
  else
    ((zv_gR q1.2 a0 0 10).bind fun v2 =>
    ((C0_onLine d q1.1 v2 q1.2).bind fun q3 =>
    (if q3.1 = 0 then
      ((zv_gR q3.2 a0 0 5).bind fun v4 =>
      ((zv_gR q3.2 a0 0 10).bind fun v5 =>
      ((C4_walk d v4 v5 q3.2).bind fun g6 =>
      ((zv_gR g6 a0 0 5).bind fun v7 =>
      ((zv_gJ g6 v7 4 8).bind fun v8 =>
      ((zv_gR g6 a0 0 5).bind fun v9 =>
      ((C4_walk d v9 q1.1 g6).bind fun g10 =>
      ((zv_gR g10 a0 0 5).bind fun v11 =>
      ((zv_gJ g10 v11 4 9).bind fun v12 =>
      ((C0_standForThemselves d a0 g10).bind fun g13 =>
      ((zv_pI g13 a0 0 13 (0 : Int)).bind fun g14 =>
      L0_mergeIn_84 d a0 q1.1 (v12 &&& (v8 ^^^ (-1 : Int64))) (0 : Int) (1 : Int) g14)))))))))))
    else
      (some (some (zv_i (-4 : Int)), q3.2))))))) := (zv_lim_eq _ _ _ _ _ _).trans rfl
set_option maxRecDepth 100000 in
theorem qL0_mergeIn_84 (d : Nat) (a0 : Nat) (a2 : Nat) (a5 : Int64) (a7 : Int) (a8 : Int) (h : zv_H) : L0_mergeIn_84 d a0 a2 a5 a7 a8 h =
  ((zv_gI h a2 5 10).bind fun v1 =>
  (if a8 ≤ v1 then
    ((C0_above d a2 a8 h).bind fun q2 =>
    (if q2.1 = 0 then
      L0_mergeIn_84 d a0 a2 a5 a7 (zv_w (a8 + 1)) q2.2
    else
      ((C5_bit d q2.1 q2.2).bind fun q3 =>
      (if (zv_lcmp (a5 &&& q3.1) (Int64.ofNat 0)) = 0 then
        L0_mergeIn_84 d a0 a2 a5 a7 (zv_w (a8 + 1)) q3.2
      else
        ((C0_carryOne d a0 q2.1 q3.2).bind fun q4 =>
        (if q4.1 < 0 then
          ((zv_gI q4.2 a0 0 13).bind fun v5 =>
          ((zv_pI q4.2 a0 0 13 (zv_w (v5 + (1 : Int)))).bind fun g6 =>
          L0_mergeIn_84 d a0 a2 a5 a7 (zv_w (a8 + 1)) g6))
        else
          ((zv_gI q4.2 q2.1 5 0).bind fun v7 =>
          (if v7 < (48 : Int) then
            ((zv_gR q4.2 a0 0 3).bind fun v8 =>
            ((zv_gI q4.2 q2.1 5 0).bind fun v9 =>
            ((zv_wI q4.2 v8 v9 q4.1).bind fun g10 =>
            L0_mergeIn_84 d a0 a2 a5 (zv_w (a7 + 1)) (zv_w (a8 + 1)) g10)))
          else
            ((zv_gI q4.2 a0 0 13).bind fun v11 =>
            ((zv_pI q4.2 a0 0 13 (zv_w (v11 + (1 : Int)))).bind fun g12 =>
            L0_mergeIn_84 d a0 a2 a5 a7 (zv_w (a8 + 1)) g12))))))))))
  else
    (some (some (zv_i a7), h)))) := (zv_lim_eq _ _ _ _ _ _).trans rfl
set_option maxRecDepth 100000 in
theorem qE0_mergeOnPaper (d : Nat) (a0 : Nat) (a1 : Int) (a2 : Int) (h : zv_H) : E0_mergeOnPaper d a0 a1 a2 h =
  ((zv_gR h a0 0 10).bind fun v1 =>
  ((zv_gR h a0 0 7).bind fun v2 =>
  ((C6_keep d v2 h).bind fun g3 =>
  ((C0_mergeIn d a0 a1 g3).bind fun q4 =>
  (if q4.1 < 0 then
    (some (some (zv_i q4.1), q4.2))
  else
    (if a2 = 0 then
      L0_mergeOnPaper_60 d a0 v1 q4.1 q4.1 (0 : Int) q4.2
    else
      (if a2 = (1 : Int) then
        ((zv_gI q4.2 a0 0 13).bind fun v5 =>
        L0_mergeOnPaper_60 d a0 v1 q4.1 v5 (0 : Int) q4.2)
      else
        ((zv_gR q4.2 a0 0 10).bind fun v6 =>
        ((zv_gI q4.2 v6 5 12).bind fun v7 =>
        L0_mergeOnPaper_60 d a0 v1 q4.1 v7 (0 : Int) q4.2))))))))) := (zv_lim_eq _ _ _ _ _ _).trans rfl
set_option maxRecDepth 100000 in
theorem qL0_mergeOnPaper_60 (d : Nat) (a0 : Nat) (a3 : Nat) (a4 : Int) (a5 : Int) (a6 : Int) (h : zv_H) : L0_mergeOnPaper_60 d a0 a3 a4 a5 a6 h =
  (if a6 < a4 then
    ((zv_gR h a0 0 10).bind fun v1 =>
    (if 1000000 ≤ v1 ∨ 1000000 ≤ a3 then none else
    if v1 = a3 then
      L0_mergeOnPaper_112 d a0 a5 h
    else
      ((zv_gR h a0 0 10).bind fun v2 =>
      ((zv_gR h v2 5 4).bind fun v3 =>
      (if v3 = 0 then
        L0_mergeOnPaper_112 d a0 a5 h
      else
        ((zv_gR h a0 0 10).bind fun v4 =>
        ((zv_gR h v4 5 4).bind fun v5 =>
        ((zv_pR h a0 0 10 v5).bind fun g6 =>
        ((C0_remove d a0 v4 g6).bind fun g7 =>
        L0_mergeOnPaper_60 d a0 a3 a4 a5 (zv_w (a6 + 1)) g7)))))))))
  else
    L0_mergeOnPaper_112 d a0 a5 h) := (zv_lim_eq _ _ _ _ _ _).trans rfl
set_option maxRecDepth 100000 in
theorem qL0_mergeOnPaper_112 (d : Nat) (a0 : Nat) (a5 : Int) (h : zv_H) : L0_mergeOnPaper_112 d a0 a5 h =
  ((zv_gR h a0 0 7).bind fun v1 =>
  ((C6_giveBack d v1 h).bind fun g2 =>
  (some (some (zv_i a5), g2)))) := (zv_lim_eq _ _ _ _ _ _).trans rfl
set_option maxRecDepth 100000 in
theorem qE0_remove (d : Nat) (a0 : Nat) (a1 : Nat) (h : zv_H) : E0_remove d a0 a1 h =
  ((zv_pZ h a1 5 3 (0 : Int)).bind fun g1 =>
  ((zv_gR g1 a1 5 4).bind fun v2 =>
  (if v2 = 0 then
    L0_remove_25 d a0 a1 g1
  else
    ((zv_gR g1 a1 5 4).bind fun v3 =>
    ((zv_gI g1 v3 5 11).bind fun v4 =>
    ((zv_pI g1 v3 5 11 (zv_w (v4 - (1 : Int)))).bind fun g5 =>
    L0_remove_25 d a0 a1 g5)))))) := (zv_lim_eq _ _ _ _ _ _).trans rfl
set_option maxRecDepth 100000 in
theorem qL0_remove_25 (d : Nat) (a0 : Nat) (a1 : Nat) (h : zv_H) : L0_remove_25 d a0 a1 h =
  ((zv_pR h a1 5 4 0).bind fun g1 =>
  ((zv_gR g1 a0 0 7).bind fun v2 =>
  ((zv_gI g1 a1 5 0).bind fun v3 =>
  ((C6_forget d v2 v3 g1).bind fun g4 =>
  ((zv_gI g4 a0 0 12).bind fun v5 =>
  ((zv_pI g4 a0 0 12 (zv_w (v5 - (1 : Int)))).bind fun g6 =>
  (some (none, g6)))))))) := (zv_lim_eq _ _ _ _ _ _).trans rfl
set_option maxRecDepth 100000 in
theorem qE0_nextToGo (d : Nat) (a0 : Nat) (h : zv_H) : E0_nextToGo d a0 h =
  L0_nextToGo_4 d a0 0 (1 : Int) h := (zv_lim_eq _ _ _ _ _ _).trans rfl
set_option maxRecDepth 100000 in
theorem qL0_nextToGo_4 (d : Nat) (a0 : Nat) (a1 : Nat) (a2 : Int) (h : zv_H) : L0_nextToGo_4 d a0 a1 a2 h =
  (if a2 < (48 : Int) then
    ((C0_at d a0 a2 h).bind fun q1 =>
    (if q1.1 = 0 then
      L0_nextToGo_4 d a0 a1 (zv_w (a2 + 1)) q1.2
    else
      ((zv_gR q1.2 a0 0 10).bind fun v2 =>
      (if 1000000 ≤ q1.1 ∨ 1000000 ≤ v2 then none else
      if q1.1 = v2 then
        L0_nextToGo_4 d a0 a1 (zv_w (a2 + 1)) q1.2
      else
        ((zv_gI q1.2 q1.1 5 11).bind fun v3 =>
        (if v3 = 0 then
          ((zv_gR q1.2 a0 0 6).bind fun v4 =>
          ((C2_countOf d v4 a2 q1.2).bind fun q5 =>
          (if q5.1 = 0 then
            (if a1 = 0 then
              L0_nextToGo_4 d a0 q1.1 (zv_w (a2 + 1)) q5.2
            else
              ((zv_gI q5.2 q1.1 5 13).bind fun v6 =>
              ((zv_gI q5.2 a1 5 13).bind fun v7 =>
              (if v6 < v7 then
                L0_nextToGo_4 d a0 q1.1 (zv_w (a2 + 1)) q5.2
              else
                L0_nextToGo_4 d a0 a1 (zv_w (a2 + 1)) q5.2))))
          else
            L0_nextToGo_4 d a0 a1 (zv_w (a2 + 1)) q5.2)))
        else
          L0_nextToGo_4 d a0 a1 (zv_w (a2 + 1)) q1.2))))))
  else
    (some (some (zv_r a1), h))) := (zv_lim_eq _ _ _ _ _ _).trans rfl
set_option maxRecDepth 100000 in
theorem qE0_pruneTo (d : Nat) (a0 : Nat) (a1 : Int) (h : zv_H) : E0_pruneTo d a0 a1 h =
  ((C8_within d a1 (1 : Int) (48 : Int) h).bind fun q1 =>
  (if q1.1 = 0 then
    (some (some (zv_i (-1 : Int)), q1.2))
  else
    L0_pruneTo_14 d a0 a1 (0 : Int) q1.2)) := (zv_lim_eq _ _ _ _ _ _).trans rfl
set_option maxRecDepth 100000 in
theorem qL0_pruneTo_14 (d : Nat) (a0 : Nat) (a1 : Int) (a2 : Int) (h : zv_H) : L0_pruneTo_14 d a0 a1 a2 h =
  ((zv_gI h a0 0 12).bind fun v1 =>
  (if v1 ≤ a1 then
    (some (some (zv_i a2), h))
  else
    (if a2 < (48 : Int) then
      ((C0_nextToGo d a0 h).bind fun q2 =>
      (if q2.1 = 0 then
        (some (some (zv_i a2), q2.2))
      else
        ((C0_remove d a0 q2.1 q2.2).bind fun g3 =>
        L0_pruneTo_14 d a0 a1 (zv_w (a2 + 1)) g3)))
    else
      (some (some (zv_i a2), h))))) := (zv_lim_eq _ _ _ _ _ _).trans rfl
set_option maxRecDepth 100000 in
theorem qE0_nearest (d : Nat) (a0 : Nat) (a1 : Nat) (h : zv_H) : E0_nearest d a0 a1 h =
  L0_nearest_2 d a1 a0 h := (zv_lim_eq _ _ _ _ _ _).trans rfl
set_option maxRecDepth 100000 in
theorem qL0_nearest_2 (d : Nat) (a1 : Nat) (a2 : Nat) (h : zv_H) : L0_nearest_2 d a1 a2 h =
  ((zv_gR h a2 5 4).bind fun v1 =>
  (if v1 = 0 then
    (some (some (zv_r a2), h))
  else
    ((C0_onLine d a2 a1 h).bind fun q2 =>
    (if q2.1 = 0 then
      ((zv_gR q2.2 a2 5 4).bind fun v3 =>
      L0_nearest_2 d a1 v3 q2.2)
    else
      (some (some (zv_r a2), q2.2)))))) := (zv_lim_eq _ _ _ _ _ _).trans rfl
set_option maxRecDepth 100000 in
theorem qE0_wayLength (d : Nat) (a0 : Nat) (a1 : Nat) (h : zv_H) : E0_wayLength d a0 a1 h =
  ((zv_gI h a0 5 10).bind fun v1 =>
  ((zv_gI h a1 5 10).bind fun v2 =>
  ((C0_nearest d a0 a1 h).bind fun q3 =>
  ((zv_gI q3.2 q3.1 5 10).bind fun v4 =>
  (some (some (zv_i (zv_w ((zv_w (v1 + v2)) - (zv_w ((2 : Int) * v4))))), q3.2)))))) := (zv_lim_eq _ _ _ _ _ _).trans rfl
set_option maxRecDepth 100000 in
theorem qE0_onWay (d : Nat) (a0 : Nat) (a1 : Nat) (a2 : Int) (h : zv_H) : E0_onWay d a0 a1 a2 h =
  ((zv_gI h a0 5 10).bind fun v1 =>
  ((C0_nearest d a0 a1 h).bind fun q2 =>
  ((zv_gI q2.2 q2.1 5 10).bind fun v3 =>
  ((C0_wayLength d a0 a1 q2.2).bind fun q4 =>
  (if a2 < 0 then
    (some (some (zv_r 0), q4.2))
  else
    (if a2 ≤ q4.1 then
      (if a2 ≤ (zv_w (v1 - v3)) then
        ((zv_gI q4.2 a0 5 10).bind fun v5 =>
        ((C0_above d a0 (zv_w (v5 - a2)) q4.2).bind fun q6 =>
        (some (some (zv_r q6.1), q6.2))))
      else
        ((zv_gI q4.2 a1 5 10).bind fun v7 =>
        ((C0_above d a1 (zv_w (v7 - (zv_w (q4.1 - a2)))) q4.2).bind fun q8 =>
        (some (some (zv_r q8.1), q8.2)))))
    else
      (some (some (zv_r 0), q4.2)))))))) := (zv_lim_eq _ _ _ _ _ _).trans rfl
set_option maxRecDepth 100000 in
theorem qE0_keptOf (d : Nat) (a0 : Nat) (a1 : Nat) (a2 : Nat) (h : zv_H) : E0_keptOf d a0 a1 a2 h =
  L0_keptOf_5 d a1 a2 (0 : Int) (0 : Int) h := (zv_lim_eq _ _ _ _ _ _).trans rfl
set_option maxRecDepth 100000 in
theorem qL0_keptOf_5 (d : Nat) (a1 : Nat) (a2 : Nat) (a3 : Int) (a4 : Int) (h : zv_H) : L0_keptOf_5 d a1 a2 a3 a4 h =
  ((zv_gI h a1 5 12).bind fun v1 =>
  (if a4 < v1 then
    L0_keptOf_17 d a1 a2 a3 a4 (0 : Int) h
  else
    (some (some (zv_i a3), h)))) := (zv_lim_eq _ _ _ _ _ _).trans rfl
set_option maxRecDepth 100000 in
theorem qL0_keptOf_17 (d : Nat) (a1 : Nat) (a2 : Nat) (a3 : Int) (a4 : Int) (a5 : Int) (h : zv_H) : L0_keptOf_17 d a1 a2 a3 a4 a5 h =
  ((zv_gI h a2 5 12).bind fun v1 =>
  (if a5 < v1 then
    ((C5_idAt d a1 a4 h).bind fun q2 =>
    ((C5_idAt d a2 a5 q2.2).bind fun q3 =>
    (if q2.1 = q3.1 then
      L0_keptOf_17 d a1 a2 (zv_w (a3 + (1 : Int))) a4 (zv_w (a5 + 1)) q3.2
    else
      L0_keptOf_17 d a1 a2 (zv_w (a3 + (0 : Int))) a4 (zv_w (a5 + 1)) q3.2)))
  else
    L0_keptOf_5 d a1 a2 a3 (zv_w (a4 + 1)) h)) := (zv_lim_eq _ _ _ _ _ _).trans rfl
set_option maxRecDepth 100000 in
theorem qE0_firstDifference (d : Nat) (a0 : Nat) (a1 : Nat) (a2 : Nat) (h : zv_H) : E0_firstDifference d a0 a1 a2 h =
  ((zv_gI h a1 5 12).bind fun v1 =>
  ((zv_gI h a2 5 12).bind fun v2 =>
  ((CJ_max d v1 v2 h).bind fun q3 =>
  L0_firstDifference_15 d a0 a1 a2 q3.1 (0 : Int) q3.2))) := (zv_lim_eq _ _ _ _ _ _).trans rfl
set_option maxRecDepth 100000 in
theorem qL0_firstDifference_15 (d : Nat) (a0 : Nat) (a1 : Nat) (a2 : Nat) (a3 : Int) (a4 : Int) (h : zv_H) : L0_firstDifference_15 d a0 a1 a2 a3 a4 h =
  (if a4 < a3 then
    ((C0_letterAt d a0 a1 a4 h).bind fun q1 =>
    ((C0_letterAt d a0 a2 a4 q1.2).bind fun q2 =>
    (if q1.1 = q2.1 then
      L0_firstDifference_15 d a0 a1 a2 a3 (zv_w (a4 + 1)) q2.2
    else
      (some (some (zv_i a4), q2.2)))))
  else
    (some (some (zv_i (-1 : Int)), h))) := (zv_lim_eq _ _ _ _ _ _).trans rfl
set_option maxRecDepth 100000 in
theorem qE0_longestCommon (d : Nat) (a0 : Nat) (a1 : Nat) (a2 : Nat) (h : zv_H) : E0_longestCommon d a0 a1 a2 h =
  L0_longestCommon_2 d a0 a1 a2 (0 : Int) h := (zv_lim_eq _ _ _ _ _ _).trans rfl
set_option maxRecDepth 100000 in
theorem qL0_longestCommon_2 (d : Nat) (a0 : Nat) (a1 : Nat) (a2 : Nat) (a3 : Int) (h : zv_H) : L0_longestCommon_2 d a0 a1 a2 a3 h =
  (if a3 ≤ (120 : Int) then
    ((zv_gR h a0 0 4).bind fun v1 =>
    ((zv_wI h v1 a3 (0 : Int)).bind fun g2 =>
    L0_longestCommon_2 d a0 a1 a2 (zv_w (a3 + 1)) g2))
  else
    ((zv_gI h a2 5 12).bind fun v3 =>
    ((CJ_min d v3 (120 : Int) h).bind fun q4 =>
    L0_longestCommon_34 d a0 a1 a2 q4.1 (0 : Int) q4.2))) := (zv_lim_eq _ _ _ _ _ _).trans rfl
set_option maxRecDepth 100000 in
theorem qL0_longestCommon_34 (d : Nat) (a0 : Nat) (a1 : Nat) (a2 : Nat) (a3 : Int) (a4 : Int) (h : zv_H) : L0_longestCommon_34 d a0 a1 a2 a3 a4 h =
  ((zv_gI h a1 5 12).bind fun v1 =>
  (if a4 < v1 then
    ((C0_letterAt d a0 a1 a4 h).bind fun q2 =>
    L0_longestCommon_58 d a0 a1 a2 a3 a4 q2.1 (0 : Int) (1 : Int) q2.2)
  else
    ((zv_gR h a0 0 4).bind fun v3 =>
    ((CJ_max d a3 (0 : Int) h).bind fun q4 =>
    ((zv_aI q4.2 v3 q4.1).bind fun v5 =>
    (some (some (zv_i v5), q4.2))))))) := (zv_lim_eq _ _ _ _ _ _).trans rfl
set_option maxRecDepth 100000 in
theorem qL0_longestCommon_58 (d : Nat) (a0 : Nat) (a1 : Nat) (a2 : Nat) (a3 : Int) (a4 : Int) (a5 : Int) (a6 : Int) (a7 : Int) (h : zv_H) : L0_longestCommon_58 d a0 a1 a2 a3 a4 a5 a6 a7 h =
  (if a7 ≤ a3 then
    ((zv_gR h a0 0 4).bind fun v1 =>
    ((zv_aI h v1 a7).bind fun v2 =>
    ((zv_gR h a0 0 4).bind fun v3 =>
    ((C0_letterAt d a0 a2 (zv_w (a7 - (1 : Int))) h).bind fun q4 =>
    (if a5 = q4.1 then
      ((zv_wI q4.2 v3 a7 (zv_w (a6 + (1 : Int)))).bind fun g5 =>
      L0_longestCommon_58 d a0 a1 a2 a3 a4 a5 v2 (zv_w (a7 + 1)) g5)
    else
      ((zv_gR q4.2 a0 0 4).bind fun v6 =>
      ((zv_aI q4.2 v6 (zv_w (a7 - (1 : Int)))).bind fun v7 =>
      ((CJ_max d v2 v7 q4.2).bind fun q8 =>
      ((zv_wI q8.2 v3 a7 q8.1).bind fun g9 =>
      L0_longestCommon_58 d a0 a1 a2 a3 a4 a5 v2 (zv_w (a7 + 1)) g9)))))))))
  else
    L0_longestCommon_34 d a0 a1 a2 a3 (zv_w (a4 + 1)) h) := (zv_lim_eq _ _ _ _ _ _).trans rfl
set_option maxRecDepth 100000 in
theorem qE0_placeIn (d : Nat) (a0 : Nat) (a1 : Nat) (a2 : Nat) (h : zv_H) : E0_placeIn d a0 a1 a2 h =
  L0_placeIn_2 d a0 a1 a2 (0 : Int) h := (zv_lim_eq _ _ _ _ _ _).trans rfl
set_option maxRecDepth 100000 in
theorem qL0_placeIn_2 (d : Nat) (a0 : Nat) (a1 : Nat) (a2 : Nat) (a3 : Int) (h : zv_H) : L0_placeIn_2 d a0 a1 a2 a3 h =
  ((zv_gI h a2 7 1).bind fun v1 =>
  ((zv_gI h a1 5 12).bind fun v2 =>
  (if (zv_w (a3 + v1)) ≤ v2 then
    L0_placeIn_18 d a0 a1 a2 a3 (0 : Int) h
  else
    (some (some (zv_i (-1 : Int)), h))))) := (zv_lim_eq _ _ _ _ _ _).trans rfl
set_option maxRecDepth 100000 in
theorem qL0_placeIn_18 (d : Nat) (a0 : Nat) (a1 : Nat) (a2 : Nat) (a3 : Int) (a4 : Int) (h : zv_H) : L0_placeIn_18 d a0 a1 a2 a3 a4 h =
  ((zv_gI h a2 7 1).bind fun v1 =>
  (if a4 < v1 then
    ((C0_letterAt d a0 a1 (zv_w (a3 + a4)) h).bind fun q2 =>
    ((C7_at d a2 a4 q2.2).bind fun q3 =>
    (if q2.1 = q3.1 then
      L0_placeIn_18 d a0 a1 a2 a3 (zv_w (a4 + 1)) q3.2
    else
      L0_placeIn_51 d a0 a1 a2 a3 a4 q3.2)))
  else
    L0_placeIn_51 d a0 a1 a2 a3 a4 h)) := (zv_lim_eq _ _ _ _ _ _).trans rfl
set_option maxRecDepth 100000 in
theorem qL0_placeIn_51 (d : Nat) (a0 : Nat) (a1 : Nat) (a2 : Nat) (a3 : Int) (a4 : Int) (h : zv_H) : L0_placeIn_51 d a0 a1 a2 a3 a4 h =
  ((zv_gI h a2 7 1).bind fun v1 =>
  (if a4 = v1 then
    (some (some (zv_i a3), h))
  else
    L0_placeIn_2 d a0 a1 a2 (zv_w (a3 + 1)) h)) := (zv_lim_eq _ _ _ _ _ _).trans rfl
set_option maxRecDepth 100000 in
theorem qE0_leastWith (d : Nat) (a0 : Nat) (a1 : Nat) (h : zv_H) : E0_leastWith d a0 a1 h =
  L0_leastWith_2 d a0 a1 (0 : Int) h := (zv_lim_eq _ _ _ _ _ _).trans rfl
set_option maxRecDepth 100000 in
theorem qL0_leastWith_2 (d : Nat) (a0 : Nat) (a1 : Nat) (a2 : Int) (h : zv_H) : L0_leastWith_2 d a0 a1 a2 h =
  (if a2 < (48 : Int) then
    ((C0_at d a0 a2 h).bind fun q1 =>
    (if q1.1 = 0 then
      L0_leastWith_2 d a0 a1 (zv_w (a2 + 1)) q1.2
    else
      ((C0_placeIn d a0 q1.1 a1 q1.2).bind fun q2 =>
      (if q2.1 = (-1 : Int) then
        L0_leastWith_2 d a0 a1 (zv_w (a2 + 1)) q2.2
      else
        (some (some (zv_i a2), q2.2))))))
  else
    (some (some (zv_i (-1 : Int)), h))) := (zv_lim_eq _ _ _ _ _ _).trans rfl
set_option maxRecDepth 100000 in
theorem qE0_statesWith (d : Nat) (a0 : Nat) (a1 : Nat) (h : zv_H) : E0_statesWith d a0 a1 h =
  L0_statesWith_4 d a0 a1 (0 : Int) (0 : Int) h := (zv_lim_eq _ _ _ _ _ _).trans rfl
set_option maxRecDepth 100000 in
theorem qL0_statesWith_4 (d : Nat) (a0 : Nat) (a1 : Nat) (a2 : Int) (a3 : Int) (h : zv_H) : L0_statesWith_4 d a0 a1 a2 a3 h =
  (if a3 < (48 : Int) then
    ((C0_at d a0 a3 h).bind fun q1 =>
    (if q1.1 = 0 then
      L0_statesWith_4 d a0 a1 (zv_w (a2 + (0 : Int))) (zv_w (a3 + 1)) q1.2
    else
      ((C0_placeIn d a0 q1.1 a1 q1.2).bind fun q2 =>
      (if q2.1 = (-1 : Int) then
        L0_statesWith_4 d a0 a1 (zv_w (a2 + (0 : Int))) (zv_w (a3 + 1)) q2.2
      else
        L0_statesWith_4 d a0 a1 (zv_w (a2 + (1 : Int))) (zv_w (a3 + 1)) q2.2))))
  else
    (some (some (zv_i a2), h))) := (zv_lim_eq _ _ _ _ _ _).trans rfl
set_option maxRecDepth 100000 in
theorem qE0_twinOf (d : Nat) (a0 : Nat) (a1 : Nat) (h : zv_H) : E0_twinOf d a0 a1 h =
  L0_twinOf_2 d a0 a1 (0 : Int) h := (zv_lim_eq _ _ _ _ _ _).trans rfl
set_option maxRecDepth 100000 in
theorem qL0_twinOf_2 (d : Nat) (a0 : Nat) (a1 : Nat) (a2 : Int) (h : zv_H) : L0_twinOf_2 d a0 a1 a2 h =
  (if a2 < (48 : Int) then
    ((C0_at d a0 a2 h).bind fun q1 =>
    (if q1.1 = 0 then
      L0_twinOf_2 d a0 a1 (zv_w (a2 + 1)) q1.2
    else
      (if 1000000 ≤ q1.1 ∨ 1000000 ≤ a1 then none else
      if q1.1 = a1 then
        L0_twinOf_2 d a0 a1 (zv_w (a2 + 1)) q1.2
      else
        ((C0_firstDifference d a0 a1 q1.1 q1.2).bind fun q2 =>
        (if q2.1 = (-1 : Int) then
          (some (some (zv_i a2), q2.2))
        else
          L0_twinOf_2 d a0 a1 (zv_w (a2 + 1)) q2.2)))))
  else
    (some (some (zv_i (-1 : Int)), h))) := (zv_lim_eq _ _ _ _ _ _).trans rfl
end
section
set_option maxRecDepth 100000 in
theorem qEL_law (d : Nat) (a0 : Nat) (h : zv_H) : EL_law d a0 h =
  ((zv_nO h 8).bind fun g1 =>
  ((C8_init d (zv_n h + 1) g1).bind fun g2 =>
  ((zv_nO g2 9).bind fun g3 =>
  ((C9_init d (zv_n g2 + 1) g3).bind fun g4 =>
  LL_law_18 d a0 (zv_n h + 1) (zv_n g2 + 1) (0 : Int) g4)))) := (zv_lim_eq _ _ _ _ _ _).trans rfl
set_option maxRecDepth 100000 in
theorem qLL_law_18 (d : Nat) (a0 : Nat) (a1 : Nat) (a2 : Nat) (a3 : Int) (h : zv_H) : LL_law_18 d a0 a1 a2 a3 h =
  ((zv_al h a0).bind fun v1 =>
  (if a3 ≤ (zv_w (v1 - (6 : Int))) then
    ((zv_aI h a0 a3).bind fun v2 =>
    (if (zv_and v2 (63 : Int)) = (0 : Int) then
      ((C8_status d a1 h).bind fun q3 =>
      ((C9_status d a2 q3.2).bind fun q4 =>
      LL_law_18 d a0 a1 a2 (zv_w (a3 + 6)) q4.2))
    else
    if (zv_and v2 (63 : Int)) = (1 : Int) then
      ((zv_aI h a0 (zv_w (a3 + (1 : Int)))).bind fun v5 =>
      ((zv_aI h a0 (zv_w (a3 + (2 : Int)))).bind fun v6 =>
      ((zv_aI h a0 (zv_w (a3 + (3 : Int)))).bind fun v7 =>
      ((zv_aI h a0 (zv_w (a3 + (4 : Int)))).bind fun v8 =>
      ((zv_aI h a0 (zv_w (a3 + (5 : Int)))).bind fun v9 =>
      ((C8_feed d a1 v5 v6 v7 v8 v9 h).bind fun q10 =>
      ((zv_aI q10.2 a0 (zv_w (a3 + (1 : Int)))).bind fun v11 =>
      ((zv_aI q10.2 a0 (zv_w (a3 + (2 : Int)))).bind fun v12 =>
      ((zv_aI q10.2 a0 (zv_w (a3 + (3 : Int)))).bind fun v13 =>
      ((zv_aI q10.2 a0 (zv_w (a3 + (4 : Int)))).bind fun v14 =>
      ((zv_aI q10.2 a0 (zv_w (a3 + (5 : Int)))).bind fun v15 =>
      ((C9_feed d a2 v11 v12 v13 v14 v15 q10.2).bind fun q16 =>
      (if q10.1 = q16.1 then
        LL_law_18 d a0 a1 a2 (zv_w (a3 + 6)) q16.2
      else
        (some (some (zv_i (0 : Int)), q16.2)))))))))))))))
    else
    if (zv_and v2 (63 : Int)) = (2 : Int) then
      ((zv_aI h a0 (zv_w (a3 + (1 : Int)))).bind fun v17 =>
      ((C8_load d a1 v17 h).bind fun q18 =>
      ((zv_aI q18.2 a0 (zv_w (a3 + (1 : Int)))).bind fun v19 =>
      ((C9_load d a2 v19 q18.2).bind fun q20 =>
      LL_law_18 d a0 a1 a2 (zv_w (a3 + 6)) q20.2))))
    else
    if (zv_and v2 (63 : Int)) = (3 : Int) then
      ((zv_aI h a0 (zv_w (a3 + (1 : Int)))).bind fun v21 =>
      ((C8_fault d a1 v21 h).bind fun q22 =>
      ((zv_aI q22.2 a0 (zv_w (a3 + (1 : Int)))).bind fun v23 =>
      ((C9_fault d a2 v23 q22.2).bind fun q24 =>
      LL_law_18 d a0 a1 a2 (zv_w (a3 + 6)) q24.2))))
    else
    if (zv_and v2 (63 : Int)) = (4 : Int) then
      ((zv_aI h a0 (zv_w (a3 + (1 : Int)))).bind fun v25 =>
      ((zv_aI h a0 (zv_w (a3 + (2 : Int)))).bind fun v26 =>
      ((C8_type d a1 v25 v26 h).bind fun q27 =>
      ((zv_aI q27.2 a0 (zv_w (a3 + (1 : Int)))).bind fun v28 =>
      ((zv_aI q27.2 a0 (zv_w (a3 + (2 : Int)))).bind fun v29 =>
      ((C9_type d a2 v28 v29 q27.2).bind fun q30 =>
      LL_law_18 d a0 a1 a2 (zv_w (a3 + 6)) q30.2))))))
    else
    if (zv_and v2 (63 : Int)) = (5 : Int) then
      ((zv_aI h a0 (zv_w (a3 + (1 : Int)))).bind fun v31 =>
      ((C8_many d a1 v31 h).bind fun q32 =>
      ((zv_aI q32.2 a0 (zv_w (a3 + (1 : Int)))).bind fun v33 =>
      ((C9_many d a2 v33 q32.2).bind fun q34 =>
      LL_law_18 d a0 a1 a2 (zv_w (a3 + 6)) q34.2))))
    else
    if (zv_and v2 (63 : Int)) = (6 : Int) then
      ((zv_aI h a0 (zv_w (a3 + (1 : Int)))).bind fun v35 =>
      ((zv_aI h a0 (zv_w (a3 + (2 : Int)))).bind fun v36 =>
      ((C8_letter d a1 v35 v36 h).bind fun q37 =>
      ((zv_aI q37.2 a0 (zv_w (a3 + (1 : Int)))).bind fun v38 =>
      ((zv_aI q37.2 a0 (zv_w (a3 + (2 : Int)))).bind fun v39 =>
      ((C9_letter d a2 v38 v39 q37.2).bind fun q40 =>
      LL_law_18 d a0 a1 a2 (zv_w (a3 + 6)) q40.2))))))
    else
    if (zv_and v2 (63 : Int)) = (7 : Int) then
      ((zv_aI h a0 (zv_w (a3 + (1 : Int)))).bind fun v41 =>
      ((zv_aI h a0 (zv_w (a3 + (2 : Int)))).bind fun v42 =>
      ((C8_state d a1 v41 v42 h).bind fun q43 =>
      ((zv_aI q43.2 a0 (zv_w (a3 + (1 : Int)))).bind fun v44 =>
      ((zv_aI q43.2 a0 (zv_w (a3 + (2 : Int)))).bind fun v45 =>
      ((C9_state d a2 v44 v45 q43.2).bind fun q46 =>
      LL_law_18 d a0 a1 a2 (zv_w (a3 + 6)) q46.2))))))
    else
    if (zv_and v2 (63 : Int)) = (8 : Int) then
      ((zv_aI h a0 (zv_w (a3 + (1 : Int)))).bind fun v47 =>
      ((zv_aI h a0 (zv_w (a3 + (2 : Int)))).bind fun v48 =>
      ((C8_child d a1 v47 v48 h).bind fun q49 =>
      ((zv_aI q49.2 a0 (zv_w (a3 + (1 : Int)))).bind fun v50 =>
      ((zv_aI q49.2 a0 (zv_w (a3 + (2 : Int)))).bind fun v51 =>
      ((C9_child d a2 v50 v51 q49.2).bind fun q52 =>
      LL_law_18 d a0 a1 a2 (zv_w (a3 + 6)) q52.2))))))
    else
    if (zv_and v2 (63 : Int)) = (9 : Int) then
      ((zv_aI h a0 (zv_w (a3 + (1 : Int)))).bind fun v53 =>
      ((zv_aI h a0 (zv_w (a3 + (2 : Int)))).bind fun v54 =>
      ((C8_force d a1 v53 v54 h).bind fun q55 =>
      ((zv_aI q55.2 a0 (zv_w (a3 + (1 : Int)))).bind fun v56 =>
      ((zv_aI q55.2 a0 (zv_w (a3 + (2 : Int)))).bind fun v57 =>
      ((C9_force d a2 v56 v57 q55.2).bind fun q58 =>
      LL_law_18 d a0 a1 a2 (zv_w (a3 + 6)) q58.2))))))
    else
    if (zv_and v2 (63 : Int)) = (10 : Int) then
      ((zv_aI h a0 (zv_w (a3 + (1 : Int)))).bind fun v59 =>
      ((zv_aI h a0 (zv_w (a3 + (2 : Int)))).bind fun v60 =>
      ((C8_blame d a1 v59 v60 h).bind fun q61 =>
      ((zv_aI q61.2 a0 (zv_w (a3 + (1 : Int)))).bind fun v62 =>
      ((zv_aI q61.2 a0 (zv_w (a3 + (2 : Int)))).bind fun v63 =>
      ((C9_blame d a2 v62 v63 q61.2).bind fun q64 =>
      LL_law_18 d a0 a1 a2 (zv_w (a3 + 6)) q64.2))))))
    else
    if (zv_and v2 (63 : Int)) = (11 : Int) then
      ((zv_aI h a0 (zv_w (a3 + (1 : Int)))).bind fun v65 =>
      ((zv_aI h a0 (zv_w (a3 + (2 : Int)))).bind fun v66 =>
      ((C8_row d a1 v65 v66 h).bind fun q67 =>
      ((zv_aI q67.2 a0 (zv_w (a3 + (1 : Int)))).bind fun v68 =>
      ((zv_aI q67.2 a0 (zv_w (a3 + (2 : Int)))).bind fun v69 =>
      ((C9_row d a2 v68 v69 q67.2).bind fun q70 =>
      LL_law_18 d a0 a1 a2 (zv_w (a3 + 6)) q70.2))))))
    else
    if (zv_and v2 (63 : Int)) = (12 : Int) then
      ((zv_aI h a0 (zv_w (a3 + (1 : Int)))).bind fun v71 =>
      ((zv_aI h a0 (zv_w (a3 + (2 : Int)))).bind fun v72 =>
      ((C8_visit d a1 v71 v72 h).bind fun q73 =>
      ((zv_aI q73.2 a0 (zv_w (a3 + (1 : Int)))).bind fun v74 =>
      ((zv_aI q73.2 a0 (zv_w (a3 + (2 : Int)))).bind fun v75 =>
      ((C9_visit d a2 v74 v75 q73.2).bind fun q76 =>
      LL_law_18 d a0 a1 a2 (zv_w (a3 + 6)) q76.2))))))
    else
    if (zv_and v2 (63 : Int)) = (13 : Int) then
      ((C8_named d a1 h).bind fun q77 =>
      ((C9_named d a2 q77.2).bind fun q78 =>
      LL_law_18 d a0 a1 a2 (zv_w (a3 + 6)) q78.2))
    else
    if (zv_and v2 (63 : Int)) = (14 : Int) then
      ((zv_aI h a0 (zv_w (a3 + (1 : Int)))).bind fun v79 =>
      ((zv_aI h a0 (zv_w (a3 + (2 : Int)))).bind fun v80 =>
      ((C8_leans d a1 v79 v80 h).bind fun q81 =>
      ((zv_aI q81.2 a0 (zv_w (a3 + (1 : Int)))).bind fun v82 =>
      ((zv_aI q81.2 a0 (zv_w (a3 + (2 : Int)))).bind fun v83 =>
      ((C9_leans d a2 v82 v83 q81.2).bind fun q84 =>
      LL_law_18 d a0 a1 a2 (zv_w (a3 + 6)) q84.2))))))
    else
    if (zv_and v2 (63 : Int)) = (15 : Int) then
      ((zv_aI h a0 (zv_w (a3 + (1 : Int)))).bind fun v85 =>
      ((C8_put d a1 v85 h).bind fun q86 =>
      ((zv_aI q86.2 a0 (zv_w (a3 + (1 : Int)))).bind fun v87 =>
      ((C9_put d a2 v87 q86.2).bind fun q88 =>
      LL_law_18 d a0 a1 a2 (zv_w (a3 + 6)) q88.2))))
    else
    if (zv_and v2 (63 : Int)) = (16 : Int) then
      ((zv_aI h a0 (zv_w (a3 + (1 : Int)))).bind fun v89 =>
      ((zv_aI h a0 (zv_w (a3 + (2 : Int)))).bind fun v90 =>
      ((C8_cut d a1 v89 v90 h).bind fun q91 =>
      ((zv_aI q91.2 a0 (zv_w (a3 + (1 : Int)))).bind fun v92 =>
      ((zv_aI q91.2 a0 (zv_w (a3 + (2 : Int)))).bind fun v93 =>
      ((C9_cut d a2 v92 v93 q91.2).bind fun q94 =>
      LL_law_18 d a0 a1 a2 (zv_w (a3 + 6)) q94.2))))))
    else
    if (zv_and v2 (63 : Int)) = (17 : Int) then
      ((zv_aI h a0 (zv_w (a3 + (1 : Int)))).bind fun v95 =>
      ((C8_wait d a1 v95 h).bind fun q96 =>
      ((zv_aI q96.2 a0 (zv_w (a3 + (1 : Int)))).bind fun v97 =>
      ((C9_wait d a2 v97 q96.2).bind fun q98 =>
      LL_law_18 d a0 a1 a2 (zv_w (a3 + 6)) q98.2))))
    else
    if (zv_and v2 (63 : Int)) = (18 : Int) then
      ((C8_undo d a1 h).bind fun q99 =>
      ((C9_undo d a2 q99.2).bind fun q100 =>
      LL_law_18 d a0 a1 a2 (zv_w (a3 + 6)) q100.2))
    else
    if (zv_and v2 (63 : Int)) = (19 : Int) then
      ((C8_redo d a1 h).bind fun q101 =>
      ((C9_redo d a2 q101.2).bind fun q102 =>
      LL_law_18 d a0 a1 a2 (zv_w (a3 + 6)) q102.2))
    else
    if (zv_and v2 (63 : Int)) = (20 : Int) then
      ((zv_aI h a0 (zv_w (a3 + (1 : Int)))).bind fun v103 =>
      ((C8_go d a1 v103 h).bind fun q104 =>
      ((zv_aI q104.2 a0 (zv_w (a3 + (1 : Int)))).bind fun v105 =>
      ((C9_go d a2 v105 q104.2).bind fun q106 =>
      LL_law_18 d a0 a1 a2 (zv_w (a3 + 6)) q106.2))))
    else
    if (zv_and v2 (63 : Int)) = (21 : Int) then
      ((C8_name d a1 h).bind fun q107 =>
      ((C9_name d a2 q107.2).bind fun q108 =>
      LL_law_18 d a0 a1 a2 (zv_w (a3 + 6)) q108.2))
    else
    if (zv_and v2 (63 : Int)) = (22 : Int) then
      ((C8_unname d a1 h).bind fun q109 =>
      ((C9_unname d a2 q109.2).bind fun q110 =>
      LL_law_18 d a0 a1 a2 (zv_w (a3 + 6)) q110.2))
    else
    if (zv_and v2 (63 : Int)) = (23 : Int) then
      ((zv_aI h a0 (zv_w (a3 + (1 : Int)))).bind fun v111 =>
      ((C8_withdraw d a1 v111 h).bind fun q112 =>
      ((zv_aI q112.2 a0 (zv_w (a3 + (1 : Int)))).bind fun v113 =>
      ((C9_withdraw d a2 v113 q112.2).bind fun q114 =>
      LL_law_18 d a0 a1 a2 (zv_w (a3 + 6)) q114.2))))
    else
    if (zv_and v2 (63 : Int)) = (24 : Int) then
      ((zv_aI h a0 (zv_w (a3 + (1 : Int)))).bind fun v115 =>
      ((C8_restore d a1 v115 h).bind fun q116 =>
      ((zv_aI q116.2 a0 (zv_w (a3 + (1 : Int)))).bind fun v117 =>
      ((C9_restore d a2 v117 q116.2).bind fun q118 =>
      LL_law_18 d a0 a1 a2 (zv_w (a3 + 6)) q118.2))))
    else
    if (zv_and v2 (63 : Int)) = (25 : Int) then
      ((zv_aI h a0 (zv_w (a3 + (1 : Int)))).bind fun v119 =>
      ((C8_carry d a1 v119 h).bind fun q120 =>
      ((zv_aI q120.2 a0 (zv_w (a3 + (1 : Int)))).bind fun v121 =>
      ((C9_carry d a2 v121 q120.2).bind fun q122 =>
      LL_law_18 d a0 a1 a2 (zv_w (a3 + 6)) q122.2))))
    else
    if (zv_and v2 (63 : Int)) = (26 : Int) then
      ((zv_aI h a0 (zv_w (a3 + (1 : Int)))).bind fun v123 =>
      ((C8_merge d a1 v123 h).bind fun q124 =>
      ((zv_aI q124.2 a0 (zv_w (a3 + (1 : Int)))).bind fun v125 =>
      ((C9_merge d a2 v125 q124.2).bind fun q126 =>
      LL_law_18 d a0 a1 a2 (zv_w (a3 + 6)) q126.2))))
    else
    if (zv_and v2 (63 : Int)) = (27 : Int) then
      ((zv_aI h a0 (zv_w (a3 + (1 : Int)))).bind fun v127 =>
      ((C8_prune d a1 v127 h).bind fun q128 =>
      ((zv_aI q128.2 a0 (zv_w (a3 + (1 : Int)))).bind fun v129 =>
      ((C9_prune d a2 v129 q128.2).bind fun q130 =>
      LL_law_18 d a0 a1 a2 (zv_w (a3 + 6)) q130.2))))
    else
    if (zv_and v2 (63 : Int)) = (28 : Int) then
      ((zv_aI h a0 (zv_w (a3 + (1 : Int)))).bind fun v131 =>
      ((zv_aI h a0 (zv_w (a3 + (2 : Int)))).bind fun v132 =>
      ((C8_common d a1 v131 v132 h).bind fun q133 =>
      ((zv_aI q133.2 a0 (zv_w (a3 + (1 : Int)))).bind fun v134 =>
      ((zv_aI q133.2 a0 (zv_w (a3 + (2 : Int)))).bind fun v135 =>
      ((C9_common d a2 v134 v135 q133.2).bind fun q136 =>
      LL_law_18 d a0 a1 a2 (zv_w (a3 + 6)) q136.2))))))
    else
    if (zv_and v2 (63 : Int)) = (29 : Int) then
      ((zv_aI h a0 (zv_w (a3 + (1 : Int)))).bind fun v137 =>
      ((zv_aI h a0 (zv_w (a3 + (2 : Int)))).bind fun v138 =>
      ((zv_aI h a0 (zv_w (a3 + (3 : Int)))).bind fun v139 =>
      ((C8_way d a1 v137 v138 v139 h).bind fun q140 =>
      ((zv_aI q140.2 a0 (zv_w (a3 + (1 : Int)))).bind fun v141 =>
      ((zv_aI q140.2 a0 (zv_w (a3 + (2 : Int)))).bind fun v142 =>
      ((zv_aI q140.2 a0 (zv_w (a3 + (3 : Int)))).bind fun v143 =>
      ((C9_way d a2 v141 v142 v143 q140.2).bind fun q144 =>
      LL_law_18 d a0 a1 a2 (zv_w (a3 + 6)) q144.2))))))))
    else
    if (zv_and v2 (63 : Int)) = (30 : Int) then
      ((zv_aI h a0 (zv_w (a3 + (1 : Int)))).bind fun v145 =>
      ((zv_aI h a0 (zv_w (a3 + (2 : Int)))).bind fun v146 =>
      ((zv_aI h a0 (zv_w (a3 + (3 : Int)))).bind fun v147 =>
      ((C8_between d a1 v145 v146 v147 h).bind fun q148 =>
      ((zv_aI q148.2 a0 (zv_w (a3 + (1 : Int)))).bind fun v149 =>
      ((zv_aI q148.2 a0 (zv_w (a3 + (2 : Int)))).bind fun v150 =>
      ((zv_aI q148.2 a0 (zv_w (a3 + (3 : Int)))).bind fun v151 =>
      ((C9_between d a2 v149 v150 v151 q148.2).bind fun q152 =>
      LL_law_18 d a0 a1 a2 (zv_w (a3 + 6)) q152.2))))))))
    else
    if (zv_and v2 (63 : Int)) = (31 : Int) then
      ((zv_aI h a0 (zv_w (a3 + (1 : Int)))).bind fun v153 =>
      ((zv_aI h a0 (zv_w (a3 + (2 : Int)))).bind fun v154 =>
      ((C8_least d a1 v153 v154 h).bind fun q155 =>
      ((zv_aI q155.2 a0 (zv_w (a3 + (1 : Int)))).bind fun v156 =>
      ((zv_aI q155.2 a0 (zv_w (a3 + (2 : Int)))).bind fun v157 =>
      ((C9_least d a2 v156 v157 q155.2).bind fun q158 =>
      LL_law_18 d a0 a1 a2 (zv_w (a3 + 6)) q158.2))))))
    else
    if (zv_and v2 (63 : Int)) = (32 : Int) then
      ((zv_aI h a0 (zv_w (a3 + (1 : Int)))).bind fun v159 =>
      ((zv_aI h a0 (zv_w (a3 + (2 : Int)))).bind fun v160 =>
      ((C8_merges d a1 v159 v160 h).bind fun q161 =>
      ((zv_aI q161.2 a0 (zv_w (a3 + (1 : Int)))).bind fun v162 =>
      ((zv_aI q161.2 a0 (zv_w (a3 + (2 : Int)))).bind fun v163 =>
      ((C9_merges d a2 v162 v163 q161.2).bind fun q164 =>
      LL_law_18 d a0 a1 a2 (zv_w (a3 + 6)) q164.2))))))
    else
    if (zv_and v2 (63 : Int)) = (33 : Int) then
      ((zv_aI h a0 (zv_w (a3 + (1 : Int)))).bind fun v165 =>
      ((C8_tell d a1 v165 h).bind fun q166 =>
      ((zv_aI q166.2 a0 (zv_w (a3 + (1 : Int)))).bind fun v167 =>
      ((C9_tell d a2 v167 q166.2).bind fun q168 =>
      LL_law_18 d a0 a1 a2 (zv_w (a3 + 6)) q168.2))))
    else
    if (zv_and v2 (63 : Int)) = (34 : Int) then
      ((zv_aI h a0 (zv_w (a3 + (1 : Int)))).bind fun v169 =>
      ((C8_out d a1 v169 h).bind fun q170 =>
      ((zv_aI q170.2 a0 (zv_w (a3 + (1 : Int)))).bind fun v171 =>
      ((C9_out d a2 v171 q170.2).bind fun q172 =>
      LL_law_18 d a0 a1 a2 (zv_w (a3 + 6)) q172.2))))
    else
    if (zv_and v2 (63 : Int)) = (35 : Int) then
      ((zv_aI h a0 (zv_w (a3 + (1 : Int)))).bind fun v173 =>
      ((zv_aI h a0 (zv_w (a3 + (2 : Int)))).bind fun v174 =>
      ((C8_leaning d a1 v173 v174 h).bind fun q175 =>
      ((zv_aI q175.2 a0 (zv_w (a3 + (1 : Int)))).bind fun v176 =>
      ((zv_aI q175.2 a0 (zv_w (a3 + (2 : Int)))).bind fun v177 =>
      ((C9_leaning d a2 v176 v177 q175.2).bind fun q178 =>
      LL_law_18 d a0 a1 a2 (zv_w (a3 + 6)) q178.2))))))
    else
    if (zv_and v2 (63 : Int)) = (36 : Int) then
      ((zv_aI h a0 (zv_w (a3 + (1 : Int)))).bind fun v179 =>
      ((C8_find d a1 v179 h).bind fun q180 =>
      ((zv_aI q180.2 a0 (zv_w (a3 + (1 : Int)))).bind fun v181 =>
      ((C9_find d a2 v181 q180.2).bind fun q182 =>
      LL_law_18 d a0 a1 a2 (zv_w (a3 + 6)) q182.2))))
    else
    if (zv_and v2 (63 : Int)) = (37 : Int) then
      ((C8_first d a1 h).bind fun q183 =>
      ((C9_first d a2 q183.2).bind fun q184 =>
      LL_law_18 d a0 a1 a2 (zv_w (a3 + 6)) q184.2))
    else
    if (zv_and v2 (63 : Int)) = (38 : Int) then
      ((zv_aI h a0 (zv_w (a3 + (1 : Int)))).bind fun v185 =>
      ((C8_twin d a1 v185 h).bind fun q186 =>
      ((zv_aI q186.2 a0 (zv_w (a3 + (1 : Int)))).bind fun v187 =>
      ((C9_twin d a2 v187 q186.2).bind fun q188 =>
      LL_law_18 d a0 a1 a2 (zv_w (a3 + 6)) q188.2))))
    else
    if (zv_and v2 (63 : Int)) = (39 : Int) then
      ((zv_aI h a0 (zv_w (a3 + (1 : Int)))).bind fun v189 =>
      ((C8_back d a1 v189 h).bind fun q190 =>
      ((zv_aI q190.2 a0 (zv_w (a3 + (1 : Int)))).bind fun v191 =>
      ((C9_back d a2 v191 q190.2).bind fun q192 =>
      LL_law_18 d a0 a1 a2 (zv_w (a3 + 6)) q192.2))))
    else
      LL_law_18 d a0 a1 a2 (zv_w (a3 + 6)) h))
  else
    (some (some (zv_i (1 : Int)), h)))) := (zv_lim_eq _ _ _ _ _ _).trans rfl
end
section
set_option maxRecDepth 100000 in
theorem qE1_init (d : Nat) (a0 : Nat) (h : zv_H) : E1_init d a0 h =
  (if a0 = 0 then none else
  ((zv_nA h 2 (176 : Int)).bind fun g1 =>
  ((zv_pR g1 a0 1 0 (zv_n h + 1)).bind fun g2 =>
  ((zv_nA g2 2 (176 : Int)).bind fun g3 =>
  ((zv_pR g3 a0 1 1 (zv_n g2 + 1)).bind fun g4 =>
  ((zv_nA g4 2 (6 : Int)).bind fun g5 =>
  ((zv_pR g5 a0 1 2 (zv_n g4 + 1)).bind fun g6 =>
  (some (none, g6))))))))) := (zv_lim_eq _ _ _ _ _ _).trans rfl
set_option maxRecDepth 100000 in
theorem qE1_clear (d : Nat) (a0 : Nat) (h : zv_H) : E1_clear d a0 h =
  ((zv_pI h a0 1 3 (0 : Int)).bind fun g1 =>
  (some (none, g1))) := (zv_lim_eq _ _ _ _ _ _).trans rfl
set_option maxRecDepth 100000 in
theorem qE1_usual (d : Nat) (a0 : Nat) (h : zv_H) : E1_usual d a0 h =
  ((C1_clear d a0 h).bind fun g1 =>
  ((C1_compare d a0 (0 : Int) (0 : Int) (3 : Int) g1).bind fun g2 =>
  ((C1_compare d a0 (3 : Int) (1 : Int) (1 : Int) g2).bind fun g3 =>
  ((C1_add d a0 (19 : Int) (0 : Int) g3).bind fun g4 =>
  ((C1_compare d a0 (4 : Int) (1 : Int) (1 : Int) g4).bind fun g5 =>
  ((C1_add d a0 (19 : Int) (0 : Int) g5).bind fun g6 =>
  ((C1_compare d a0 (1 : Int) (0 : Int) (8 : Int) g6).bind fun g7 =>
  ((C1_add d a0 (19 : Int) (0 : Int) g7).bind fun g8 =>
  (some (none, g8)))))))))) := (zv_lim_eq _ _ _ _ _ _).trans rfl
set_option maxRecDepth 100000 in
theorem qE1_compare (d : Nat) (a0 : Nat) (a1 : Int) (a2 : Int) (a3 : Int) (h : zv_H) : E1_compare d a0 a1 a2 a3 h =
  ((C1_add d a0 (zv_w ((zv_w (a1 * (3 : Int))) + a2)) a3 h).bind fun g1 =>
  (some (none, g1))) := (zv_lim_eq _ _ _ _ _ _).trans rfl
set_option maxRecDepth 100000 in
theorem qE1_add (d : Nat) (a0 : Nat) (a1 : Int) (a2 : Int) (h : zv_H) : E1_add d a0 a1 a2 h =
  ((zv_gI h a0 1 3).bind fun v1 =>
  (if v1 < 0 then
    (some (none, h))
  else
    ((zv_gI h a0 1 3).bind fun v2 =>
    (if v2 < (176 : Int) then
      ((zv_gR h a0 1 0).bind fun v3 =>
      ((zv_gI h a0 1 3).bind fun v4 =>
      ((zv_wI h v3 v4 a1).bind fun g5 =>
      ((zv_gR g5 a0 1 1).bind fun v6 =>
      ((zv_gI g5 a0 1 3).bind fun v7 =>
      ((zv_wI g5 v6 v7 a2).bind fun g8 =>
      ((zv_gI g8 a0 1 3).bind fun v9 =>
      ((zv_pI g8 a0 1 3 (zv_w (v9 + (1 : Int)))).bind fun g10 =>
      (some (none, g10))))))))))
    else
      (some (none, h)))))) := (zv_lim_eq _ _ _ _ _ _).trans rfl
set_option maxRecDepth 100000 in
theorem qE1_set (d : Nat) (a0 : Nat) (a1 : Int) (a2 : Int) (h : zv_H) : E1_set d a0 a1 a2 h =
  (if a1 < 0 then
    (some (none, h))
  else
    (if a1 < (6 : Int) then
      ((zv_gR h a0 1 2).bind fun v1 =>
      ((zv_wI h v1 a1 a2).bind fun g2 =>
      (some (none, g2))))
    else
      (some (none, h)))) := (zv_lim_eq _ _ _ _ _ _).trans rfl
set_option maxRecDepth 100000 in
theorem qE1_holds (d : Nat) (a0 : Nat) (h : zv_H) : E1_holds d a0 h =
  L1_holds_4 d a0 (Int64.ofNat 0) (0 : Int) h := (zv_lim_eq _ _ _ _ _ _).trans rfl
set_option maxRecDepth 100000 in
theorem qL1_holds_4 (d : Nat) (a0 : Nat) (a1 : Int64) (a3 : Int) (h : zv_H) : L1_holds_4 d a0 a1 a3 h =
  ((zv_gI h a0 1 3).bind fun v1 =>
  (if a3 < v1 then
    (if a3 < (176 : Int) then
      ((zv_gR h a0 1 0).bind fun v2 =>
      ((zv_aI h v2 a3).bind fun v3 =>
      (if v3 = (18 : Int) then
        L1_holds_4 d a0 (a1 ^^^ (Int64.ofNat 1)) (zv_w (a3 + 1)) h
      else
        (if v3 = (19 : Int) then
          L1_holds_4 d a0 ((zv_lushr a1 (1 : Int)) &&& (a1 ||| (-2 : Int64))) (zv_w (a3 + 1)) h
        else
          (if v3 = (20 : Int) then
            L1_holds_4 d a0 ((zv_lushr a1 (1 : Int)) ||| (a1 &&& (Int64.ofNat 1))) (zv_w (a3 + 1)) h
          else
            (if (zv_w ((v3).tdiv (3 : Int))) < 0 then
              L1_holds_107 d a0 a1 a3 v3 h
            else
              (if (zv_w ((v3).tdiv (3 : Int))) < (6 : Int) then
                ((zv_gR h a0 1 2).bind fun v4 =>
                ((zv_aI h v4 (zv_w ((v3).tdiv (3 : Int)))).bind fun v5 =>
                L1_holds_108 d a0 a1 a3 v3 v5 h))
              else
                L1_holds_107 d a0 a1 a3 v3 h)))))))
    else
      L1_holds_204 d a1 h)
  else
    L1_holds_204 d a1 h)) := (zv_lim_eq _ _ _ _ _ _).trans rfl
set_option maxRecDepth 100000 in
theorem qL1_holds_107 (d : Nat) (a0 : Nat) (a1 : Int64) (a3 : Int) (a4 : Int) (h : zv_H) : L1_holds_107 d a0 a1 a3 a4 h =
  L1_holds_108 d a0 a1 a3 a4 (0 : Int) h := (zv_lim_eq _ _ _ _ _ _).trans rfl
set_option maxRecDepth 100000 in
theorem qL1_holds_108 (d : Nat) (a0 : Nat) (a1 : Int64) (a3 : Int) (a4 : Int) (e0 : Int) (h : zv_H) : L1_holds_108 d a0 a1 a3 a4 e0 h =
  (if ((a4).tmod (3 : Int)) = 0 then
    ((zv_gR h a0 1 1).bind fun v1 =>
    ((zv_aI h v1 a3).bind fun v2 =>
    (if e0 < v2 then
      L1_holds_181 d a0 a1 a3 (1 : Int) h
    else
      L1_holds_181 d a0 a1 a3 (0 : Int) h)))
  else
    (if ((a4).tmod (3 : Int)) = (1 : Int) then
      ((zv_gR h a0 1 1).bind fun v3 =>
      ((zv_aI h v3 a3).bind fun v4 =>
      (if e0 = v4 then
        L1_holds_181 d a0 a1 a3 (1 : Int) h
      else
        L1_holds_181 d a0 a1 a3 (0 : Int) h)))
    else
      ((zv_gR h a0 1 1).bind fun v5 =>
      ((zv_aI h v5 a3).bind fun v6 =>
      (if e0 ≤ v6 then
        L1_holds_181 d a0 a1 a3 (0 : Int) h
      else
        L1_holds_181 d a0 a1 a3 (1 : Int) h))))) := (zv_lim_eq _ _ _ _ _ _).trans rfl
set_option maxRecDepth 100000 in
theorem qL1_holds_181 (d : Nat) (a0 : Nat) (a1 : Int64) (a3 : Int) (e0 : Int) (h : zv_H) : L1_holds_181 d a0 a1 a3 e0 h =
  (if e0 = 0 then
    L1_holds_4 d a0 ((zv_lshl a1 (1 : Int)) ||| (Int64.ofNat 0)) (zv_w (a3 + 1)) h
  else
    L1_holds_4 d a0 ((zv_lshl a1 (1 : Int)) ||| (Int64.ofNat 1)) (zv_w (a3 + 1)) h) := (zv_lim_eq _ _ _ _ _ _).trans rfl
set_option maxRecDepth 100000 in
theorem qL1_holds_204 (d : Nat) (a1 : Int64) (h : zv_H) : L1_holds_204 d a1 h =
  (if (zv_lcmp (a1 &&& (Int64.ofNat 1)) (Int64.ofNat 0)) = 0 then
    (some (some (zv_i (0 : Int)), h))
  else
    (some (some (zv_i (1 : Int)), h))) := (zv_lim_eq _ _ _ _ _ _).trans rfl
set_option maxRecDepth 100000 in
theorem qE2_init (d : Nat) (a0 : Nat) (h : zv_H) : E2_init d a0 h =
  (if a0 = 0 then none else
  ((zv_nA h 2 (12 : Int)).bind fun g1 =>
  ((zv_pR g1 a0 2 0 (zv_n h + 1)).bind fun g2 =>
  ((zv_nA g2 2 (12 : Int)).bind fun g3 =>
  ((zv_pR g3 a0 2 1 (zv_n g2 + 1)).bind fun g4 =>
  (some (none, g4))))))) := (zv_lim_eq _ _ _ _ _ _).trans rfl
set_option maxRecDepth 100000 in
theorem qE2_indexOf (d : Nat) (a0 : Nat) (a1 : Int) (h : zv_H) : E2_indexOf d a0 a1 h =
  L2_indexOf_2 d a0 a1 (0 : Int) h := (zv_lim_eq _ _ _ _ _ _).trans rfl
set_option maxRecDepth 100000 in
theorem qL2_indexOf_2 (d : Nat) (a0 : Nat) (a1 : Int) (a2 : Int) (h : zv_H) : L2_indexOf_2 d a0 a1 a2 h =
  ((zv_gI h a0 2 2).bind fun v1 =>
  (if a2 < v1 then
    (if a2 < (12 : Int) then
      ((zv_gR h a0 2 0).bind fun v2 =>
      ((zv_aI h v2 a2).bind fun v3 =>
      (if v3 = a1 then
        (some (some (zv_i a2), h))
      else
        L2_indexOf_2 d a0 a1 (zv_w (a2 + 1)) h)))
    else
      (some (some (zv_i (-1 : Int)), h)))
  else
    (some (some (zv_i (-1 : Int)), h)))) := (zv_lim_eq _ _ _ _ _ _).trans rfl
set_option maxRecDepth 100000 in
theorem qE2_keyAt (d : Nat) (a0 : Nat) (a1 : Int) (h : zv_H) : E2_keyAt d a0 a1 h =
  (if a1 < 0 then
    (some (some (zv_i (0 : Int)), h))
  else
    ((zv_gI h a0 2 2).bind fun v1 =>
    (if a1 < v1 then
      (if a1 < (12 : Int) then
        ((zv_gR h a0 2 0).bind fun v2 =>
        ((zv_aI h v2 a1).bind fun v3 =>
        (some (some (zv_i v3), h))))
      else
        (some (some (zv_i (0 : Int)), h)))
    else
      (some (some (zv_i (0 : Int)), h))))) := (zv_lim_eq _ _ _ _ _ _).trans rfl
set_option maxRecDepth 100000 in
theorem qE2_ownerAt (d : Nat) (a0 : Nat) (a1 : Int) (h : zv_H) : E2_ownerAt d a0 a1 h =
  (if a1 < 0 then
    (some (some (zv_i (0 : Int)), h))
  else
    ((zv_gI h a0 2 2).bind fun v1 =>
    (if a1 < v1 then
      (if a1 < (12 : Int) then
        ((zv_gR h a0 2 1).bind fun v2 =>
        ((zv_aI h v2 a1).bind fun v3 =>
        (some (some (zv_i v3), h))))
      else
        (some (some (zv_i (0 : Int)), h)))
    else
      (some (some (zv_i (0 : Int)), h))))) := (zv_lim_eq _ _ _ _ _ _).trans rfl
set_option maxRecDepth 100000 in
theorem qE2_countOf (d : Nat) (a0 : Nat) (a1 : Int) (h : zv_H) : E2_countOf d a0 a1 h =
  L2_countOf_4 d a0 a1 (0 : Int) (0 : Int) h := (zv_lim_eq _ _ _ _ _ _).trans rfl
set_option maxRecDepth 100000 in
theorem qL2_countOf_4 (d : Nat) (a0 : Nat) (a1 : Int) (a2 : Int) (a3 : Int) (h : zv_H) : L2_countOf_4 d a0 a1 a2 a3 h =
  ((zv_gI h a0 2 2).bind fun v1 =>
  (if a3 < v1 then
    (if a3 < (12 : Int) then
      ((zv_gR h a0 2 1).bind fun v2 =>
      ((zv_aI h v2 a3).bind fun v3 =>
      (if v3 = a1 then
        L2_countOf_4 d a0 a1 (zv_w (a2 + (1 : Int))) (zv_w (a3 + 1)) h
      else
        L2_countOf_4 d a0 a1 (zv_w (a2 + (0 : Int))) (zv_w (a3 + 1)) h)))
    else
      (some (some (zv_i a2), h)))
  else
    (some (some (zv_i a2), h)))) := (zv_lim_eq _ _ _ _ _ _).trans rfl
set_option maxRecDepth 100000 in
theorem qE2_own (d : Nat) (a0 : Nat) (a1 : Int) (a2 : Int) (h : zv_H) : E2_own d a0 a1 a2 h =
  ((C2_indexOf d a0 a1 h).bind fun q1 =>
  (if q1.1 = (-1 : Int) then
    ((zv_gI q1.2 a0 2 2).bind fun v2 =>
    L2_own_16 d a0 a1 a2 v2 q1.2)
  else
    L2_own_16 d a0 a1 a2 q1.1 q1.2)) := (zv_lim_eq _ _ _ _ _ _).trans rfl
set_option maxRecDepth 100000 in
theorem qL2_own_16 (d : Nat) (a0 : Nat) (a1 : Int) (a2 : Int) (a3 : Int) (h : zv_H) : L2_own_16 d a0 a1 a2 a3 h =
  (if a3 < 0 then
    (some (none, h))
  else
    (if a3 < (12 : Int) then
      ((zv_gR h a0 2 0).bind fun v1 =>
      ((zv_wI h v1 a3 a1).bind fun g2 =>
      ((zv_gR g2 a0 2 1).bind fun v3 =>
      ((zv_wI g2 v3 a3 a2).bind fun g4 =>
      ((zv_gI g4 a0 2 2).bind fun v5 =>
      ((CJ_max d v5 (zv_w (a3 + (1 : Int))) g4).bind fun q6 =>
      ((zv_pI q6.2 a0 2 2 q6.1).bind fun g7 =>
      (some (none, g7)))))))))
    else
      (some (none, h)))) := (zv_lim_eq _ _ _ _ _ _).trans rfl
set_option maxRecDepth 100000 in
theorem qE2_drop (d : Nat) (a0 : Nat) (a1 : Int) (h : zv_H) : E2_drop d a0 a1 h =
  ((CJ_max d a1 (0 : Int) h).bind fun q1 =>
  L2_drop_6 d a0 q1.1 q1.2) := (zv_lim_eq _ _ _ _ _ _).trans rfl
set_option maxRecDepth 100000 in
theorem qL2_drop_6 (d : Nat) (a0 : Nat) (a2 : Int) (h : zv_H) : L2_drop_6 d a0 a2 h =
  ((zv_gI h a0 2 2).bind fun v1 =>
  (if (zv_w (a2 + (1 : Int))) < v1 then
    (if (zv_w (a2 + (1 : Int))) < (12 : Int) then
      ((zv_gR h a0 2 0).bind fun v2 =>
      ((zv_gR h a0 2 0).bind fun v3 =>
      ((zv_aI h v3 (zv_w (a2 + (1 : Int)))).bind fun v4 =>
      ((zv_wI h v2 a2 v4).bind fun g5 =>
      ((zv_gR g5 a0 2 1).bind fun v6 =>
      ((zv_gR g5 a0 2 1).bind fun v7 =>
      ((zv_aI g5 v7 (zv_w (a2 + (1 : Int)))).bind fun v8 =>
      ((zv_wI g5 v6 a2 v8).bind fun g9 =>
      L2_drop_6 d a0 (zv_w (a2 + 1)) g9))))))))
    else
      L2_drop_58 d a0 h)
  else
    L2_drop_58 d a0 h)) := (zv_lim_eq _ _ _ _ _ _).trans rfl
set_option maxRecDepth 100000 in
theorem qL2_drop_58 (d : Nat) (a0 : Nat) (h : zv_H) : L2_drop_58 d a0 h =
  ((zv_gI h a0 2 2).bind fun v1 =>
  ((CJ_max d (zv_w (v1 - (1 : Int))) (0 : Int) h).bind fun q2 =>
  ((zv_pI q2.2 a0 2 2 q2.1).bind fun g3 =>
  (some (none, g3))))) := (zv_lim_eq _ _ _ _ _ _).trans rfl
set_option maxRecDepth 100000 in
theorem qE5_init (d : Nat) (a0 : Nat) (a1 : Int) (h : zv_H) : E5_init d a0 a1 h =
  (if a0 = 0 then none else
  ((zv_nA h 2 (12 : Int)).bind fun g1 =>
  ((zv_pR g1 a0 5 1 (zv_n h + 1)).bind fun g2 =>
  ((zv_nA g2 2 (120 : Int)).bind fun g3 =>
  ((zv_pR g3 a0 5 2 (zv_n g2 + 1)).bind fun g4 =>
  ((zv_pI g4 a0 5 0 a1).bind fun g5 =>
  (some (none, g5)))))))) := (zv_lim_eq _ _ _ _ _ _).trans rfl
set_option maxRecDepth 100000 in
theorem qE5_open (d : Nat) (a0 : Nat) (a1 : Nat) (a2 : Int) (a3 : Int) (a4 : Int) (h : zv_H) : E5_open d a0 a1 a2 a3 a4 h =
  ((zv_pZ h a0 5 3 (1 : Int)).bind fun g1 =>
  ((zv_pR g1 a0 5 4 a1).bind fun g2 =>
  ((zv_pR g2 a0 5 5 a0).bind fun g3 =>
  ((zv_pI g3 a0 5 6 a2).bind fun g4 =>
  ((zv_pI g4 a0 5 7 (0 : Int)).bind fun g5 =>
  ((zv_pI g5 a0 5 8 a3).bind fun g6 =>
  ((zv_pI g6 a0 5 9 a4).bind fun g7 =>
  (if a1 = 0 then
    L5_open_51 d a0 a0 (0 : Int) g7
  else
    ((zv_gI g7 a1 5 10).bind fun v8 =>
    L5_open_51 d a0 a0 (zv_w (v8 + (1 : Int))) g7))))))))) := (zv_lim_eq _ _ _ _ _ _).trans rfl
set_option maxRecDepth 100000 in
theorem qL5_open_51 (d : Nat) (a0 : Nat) (e0 : Nat) (e1 : Int) (h : zv_H) : L5_open_51 d a0 e0 e1 h =
  ((zv_pI h e0 5 10 e1).bind fun g1 =>
  ((zv_pI g1 a0 5 11 (0 : Int)).bind fun g2 =>
  ((zv_pI g2 a0 5 12 (0 : Int)).bind fun g3 =>
  ((zv_pI g3 a0 5 13 (0 : Int)).bind fun g4 =>
  ((zv_pI g4 a0 5 14 (0 : Int)).bind fun g5 =>
  ((zv_pI g5 a0 5 15 (-1 : Int)).bind fun g6 =>
  ((zv_pJ g6 a0 5 16 (Int64.ofNat 0)).bind fun g7 =>
  ((zv_pJ g7 a0 5 17 (Int64.ofNat 0)).bind fun g8 =>
  (some (none, g8)))))))))) := (zv_lim_eq _ _ _ _ _ _).trans rfl
set_option maxRecDepth 100000 in
theorem qE5_bit (d : Nat) (a0 : Nat) (h : zv_H) : E5_bit d a0 h =
  ((zv_gI h a0 5 0).bind fun v1 =>
  (some (some (zv_j (zv_lshl (Int64.ofNat 1) v1)), h))) := (zv_lim_eq _ _ _ _ _ _).trans rfl
set_option maxRecDepth 100000 in
theorem qE5_edits (d : Nat) (a0 : Nat) (h : zv_H) : E5_edits d a0 h =
  ((zv_gI h a0 5 6).bind fun v1 =>
  (if v1 = 0 then
    (some (some (zv_i (1 : Int)), h))
  else
    ((zv_gI h a0 5 6).bind fun v2 =>
    (if v2 = (1 : Int) then
      (some (some (zv_i (1 : Int)), h))
    else
      (some (some (zv_i (0 : Int)), h)))))) := (zv_lim_eq _ _ _ _ _ _).trans rfl
set_option maxRecDepth 100000 in
theorem qE5_brings (d : Nat) (a0 : Nat) (h : zv_H) : E5_brings d a0 h =
  ((zv_gI h a0 5 6).bind fun v1 =>
  (if v1 = 0 then
    (some (some (zv_i (1 : Int)), h))
  else
    ((zv_gI h a0 5 6).bind fun v2 =>
    (if v2 = (-1 : Int) then
      (some (some (zv_i (1 : Int)), h))
    else
      (some (some (zv_i (0 : Int)), h)))))) := (zv_lim_eq _ _ _ _ _ _).trans rfl
set_option maxRecDepth 100000 in
theorem qE5_idAt (d : Nat) (a0 : Nat) (a1 : Int) (h : zv_H) : E5_idAt d a0 a1 h =
  (if a1 < 0 then
    (some (some (zv_i (-1 : Int)), h))
  else
    ((zv_gI h a0 5 12).bind fun v1 =>
    (if a1 < v1 then
      ((zv_gR h a0 5 2).bind fun v2 =>
      ((zv_al h v2).bind fun v3 =>
      (if a1 < v3 then
        ((zv_gR h a0 5 2).bind fun v4 =>
        ((zv_aI h v4 a1).bind fun v5 =>
        (some (some (zv_i v5), h))))
      else
        (some (some (zv_i (-1 : Int)), h)))))
    else
      (some (some (zv_i (-1 : Int)), h))))) := (zv_lim_eq _ _ _ _ _ _).trans rfl
set_option maxRecDepth 100000 in
theorem qE5_addId (d : Nat) (a0 : Nat) (a1 : Int) (h : zv_H) : E5_addId d a0 a1 h =
  ((zv_gI h a0 5 12).bind fun v1 =>
  (if v1 < 0 then
    (some (none, h))
  else
    ((zv_gI h a0 5 12).bind fun v2 =>
    ((zv_gR h a0 5 2).bind fun v3 =>
    ((zv_al h v3).bind fun v4 =>
    (if v2 < v4 then
      ((zv_gR h a0 5 2).bind fun v5 =>
      ((zv_gI h a0 5 12).bind fun v6 =>
      ((zv_wI h v5 v6 a1).bind fun g7 =>
      ((zv_gI g7 a0 5 12).bind fun v8 =>
      ((zv_pI g7 a0 5 12 (zv_w (v8 + (1 : Int)))).bind fun g9 =>
      (some (none, g9)))))))
    else
      (some (none, h)))))))) := (zv_lim_eq _ _ _ _ _ _).trans rfl
set_option maxRecDepth 100000 in
theorem qE5_tookAt (d : Nat) (a0 : Nat) (a1 : Int) (h : zv_H) : E5_tookAt d a0 a1 h =
  ((zv_gI h a0 5 6).bind fun v1 =>
  (if v1 = (1 : Int) then
    (if a1 < 0 then
      (some (some (zv_i (-1 : Int)), h))
    else
      ((zv_gI h a0 5 9).bind fun v2 =>
      (if a1 < v2 then
        ((zv_gR h a0 5 1).bind fun v3 =>
        ((zv_al h v3).bind fun v4 =>
        (if a1 < v4 then
          ((zv_gR h a0 5 1).bind fun v5 =>
          ((zv_aI h v5 a1).bind fun v6 =>
          (some (some (zv_i v6), h))))
        else
          (some (some (zv_i (-1 : Int)), h)))))
      else
        (some (some (zv_i (-1 : Int)), h)))))
  else
    (some (some (zv_i (-1 : Int)), h)))) := (zv_lim_eq _ _ _ _ _ _).trans rfl
set_option maxRecDepth 100000 in
theorem qE5_tookIt (d : Nat) (a0 : Nat) (a1 : Int) (h : zv_H) : E5_tookIt d a0 a1 h =
  L5_tookIt_2 d a0 a1 (0 : Int) h := (zv_lim_eq _ _ _ _ _ _).trans rfl
set_option maxRecDepth 100000 in
theorem qL5_tookIt_2 (d : Nat) (a0 : Nat) (a1 : Int) (a2 : Int) (h : zv_H) : L5_tookIt_2 d a0 a1 a2 h =
  ((zv_gI h a0 5 9).bind fun v1 =>
  (if a2 < v1 then
    (if a1 = (-1 : Int) then
      L5_tookIt_2 d a0 a1 (zv_w (a2 + 1)) h
    else
      ((C5_tookAt d a0 a2 h).bind fun q2 =>
      (if q2.1 = a1 then
        (some (some (zv_i (1 : Int)), q2.2))
      else
        L5_tookIt_2 d a0 a1 (zv_w (a2 + 1)) q2.2)))
  else
    (some (some (zv_i (0 : Int)), h)))) := (zv_lim_eq _ _ _ _ _ _).trans rfl
set_option maxRecDepth 100000 in
theorem qE6_init (d : Nat) (a0 : Nat) (h : zv_H) : E6_init d a0 h =
  (if a0 = 0 then none else
  ((zv_nA h 2 (40 : Int)).bind fun g1 =>
  ((zv_pR g1 a0 6 0 (zv_n h + 1)).bind fun g2 =>
  ((zv_nA g2 2 (40 : Int)).bind fun g3 =>
  ((zv_pR g3 a0 6 1 (zv_n g2 + 1)).bind fun g4 =>
  ((zv_nA g4 2 (40 : Int)).bind fun g5 =>
  ((zv_pR g5 a0 6 2 (zv_n g4 + 1)).bind fun g6 =>
  ((zv_nA g6 2 (40 : Int)).bind fun g7 =>
  ((zv_pR g7 a0 6 3 (zv_n g6 + 1)).bind fun g8 =>
  (some (none, g8))))))))))) := (zv_lim_eq _ _ _ _ _ _).trans rfl
set_option maxRecDepth 100000 in
theorem qE6_add (d : Nat) (a0 : Nat) (a1 : Nat) (a2 : Int) (h : zv_H) : E6_add d a0 a1 a2 h =
  ((zv_gI h a0 6 4).bind fun v1 =>
  (if ((v1).tmod (40 : Int)) < 0 then
    ((zv_gI h a0 6 4).bind fun v2 =>
    ((zv_pI h a0 6 4 (zv_w (v2 + (1 : Int)))).bind fun g3 =>
    ((zv_gI g3 a0 6 4).bind fun v4 =>
    ((zv_pI g3 a1 5 13 v4).bind fun g5 =>
    (some (none, g5))))))
  else
    (if ((v1).tmod (40 : Int)) < (40 : Int) then
      ((zv_gR h a0 6 0).bind fun v6 =>
      ((zv_gI h a1 5 0).bind fun v7 =>
      ((zv_wI h v6 ((v1).tmod (40 : Int)) v7).bind fun g8 =>
      ((zv_gR g8 a0 6 1).bind fun v9 =>
      ((zv_wI g8 v9 ((v1).tmod (40 : Int)) a2).bind fun g10 =>
      ((zv_gI g10 a0 6 4).bind fun v11 =>
      ((zv_pI g10 a0 6 4 (zv_w (v11 + (1 : Int)))).bind fun g12 =>
      ((zv_gI g12 a0 6 4).bind fun v13 =>
      ((zv_pI g12 a1 5 13 v13).bind fun g14 =>
      (some (none, g14)))))))))))
    else
      ((zv_gI h a0 6 4).bind fun v15 =>
      ((zv_pI h a0 6 4 (zv_w (v15 + (1 : Int)))).bind fun g16 =>
      ((zv_gI g16 a0 6 4).bind fun v17 =>
      ((zv_pI g16 a1 5 13 v17).bind fun g18 =>
      (some (none, g18))))))))) := (zv_lim_eq _ _ _ _ _ _).trans rfl
set_option maxRecDepth 100000 in
theorem qE6_slot (d : Nat) (a0 : Nat) (a1 : Int) (h : zv_H) : E6_slot d a0 a1 h =
  ((zv_gI h a0 6 4).bind fun v1 =>
  (some (some (zv_i (((zv_w ((zv_w (v1 - (1 : Int))) - a1))).tmod (40 : Int))), h))) := (zv_lim_eq _ _ _ _ _ _).trans rfl
set_option maxRecDepth 100000 in
theorem qE6_stateAt (d : Nat) (a0 : Nat) (a1 : Int) (h : zv_H) : E6_stateAt d a0 a1 h =
  ((C6_slot d a0 a1 h).bind fun q1 =>
  (if q1.1 < 0 then
    (some (some (zv_i (-1 : Int)), q1.2))
  else
    (if q1.1 < (40 : Int) then
      ((zv_gR q1.2 a0 6 0).bind fun v2 =>
      ((zv_aI q1.2 v2 q1.1).bind fun v3 =>
      (some (some (zv_i v3), q1.2))))
    else
      (some (some (zv_i (-1 : Int)), q1.2))))) := (zv_lim_eq _ _ _ _ _ _).trans rfl
set_option maxRecDepth 100000 in
theorem qE6_timeAt (d : Nat) (a0 : Nat) (a1 : Int) (h : zv_H) : E6_timeAt d a0 a1 h =
  ((C6_slot d a0 a1 h).bind fun q1 =>
  (if q1.1 < 0 then
    (some (some (zv_i (-1 : Int)), q1.2))
  else
    (if q1.1 < (40 : Int) then
      ((zv_gR q1.2 a0 6 1).bind fun v2 =>
      ((zv_aI q1.2 v2 q1.1).bind fun v3 =>
      (some (some (zv_i v3), q1.2))))
    else
      (some (some (zv_i (-1 : Int)), q1.2))))) := (zv_lim_eq _ _ _ _ _ _).trans rfl
set_option maxRecDepth 100000 in
theorem qE6_forget (d : Nat) (a0 : Nat) (a1 : Int) (h : zv_H) : E6_forget d a0 a1 h =
  L6_forget_2 d a0 a1 (0 : Int) h := (zv_lim_eq _ _ _ _ _ _).trans rfl
set_option maxRecDepth 100000 in
theorem qL6_forget_2 (d : Nat) (a0 : Nat) (a1 : Int) (a2 : Int) (h : zv_H) : L6_forget_2 d a0 a1 a2 h =
  (if a2 < (40 : Int) then
    ((zv_gR h a0 6 0).bind fun v1 =>
    ((zv_aI h v1 a2).bind fun v2 =>
    (if v2 = a1 then
      ((zv_gR h a0 6 0).bind fun v3 =>
      ((zv_wI h v3 a2 (-1 : Int)).bind fun g4 =>
      L6_forget_2 d a0 a1 (zv_w (a2 + 1)) g4))
    else
      L6_forget_2 d a0 a1 (zv_w (a2 + 1)) h)))
  else
    (some (none, h))) := (zv_lim_eq _ _ _ _ _ _).trans rfl
set_option maxRecDepth 100000 in
theorem qE6_keep (d : Nat) (a0 : Nat) (h : zv_H) : E6_keep d a0 h =
  ((zv_gR h a0 6 0).bind fun v1 =>
  ((zv_gR h a0 6 2).bind fun v2 =>
  ((zv_cy h v1 (0 : Int) v2 (0 : Int) (40 : Int)).bind fun g3 =>
  ((zv_gR g3 a0 6 1).bind fun v4 =>
  ((zv_gR g3 a0 6 3).bind fun v5 =>
  ((zv_cy g3 v4 (0 : Int) v5 (0 : Int) (40 : Int)).bind fun g6 =>
  ((zv_gI g6 a0 6 4).bind fun v7 =>
  ((zv_pI g6 a0 6 5 v7).bind fun g8 =>
  (some (none, g8)))))))))) := (zv_lim_eq _ _ _ _ _ _).trans rfl
set_option maxRecDepth 100000 in
theorem qE6_giveBack (d : Nat) (a0 : Nat) (h : zv_H) : E6_giveBack d a0 h =
  ((zv_gR h a0 6 2).bind fun v1 =>
  ((zv_gR h a0 6 0).bind fun v2 =>
  ((zv_cy h v1 (0 : Int) v2 (0 : Int) (40 : Int)).bind fun g3 =>
  ((zv_gR g3 a0 6 3).bind fun v4 =>
  ((zv_gR g3 a0 6 1).bind fun v5 =>
  ((zv_cy g3 v4 (0 : Int) v5 (0 : Int) (40 : Int)).bind fun g6 =>
  ((zv_gI g6 a0 6 5).bind fun v7 =>
  ((zv_pI g6 a0 6 4 v7).bind fun g8 =>
  (some (none, g8)))))))))) := (zv_lim_eq _ _ _ _ _ _).trans rfl
set_option maxRecDepth 100000 in
theorem qE7_init (d : Nat) (a0 : Nat) (h : zv_H) : E7_init d a0 h =
  (if a0 = 0 then none else
  ((zv_nA h 2 (40 : Int)).bind fun g1 =>
  ((zv_pR g1 a0 7 0 (zv_n h + 1)).bind fun g2 =>
  (some (none, g2))))) := (zv_lim_eq _ _ _ _ _ _).trans rfl
set_option maxRecDepth 100000 in
theorem qE7_clear (d : Nat) (a0 : Nat) (h : zv_H) : E7_clear d a0 h =
  ((zv_pI h a0 7 1 (0 : Int)).bind fun g1 =>
  (some (none, g1))) := (zv_lim_eq _ _ _ _ _ _).trans rfl
set_option maxRecDepth 100000 in
theorem qE7_add (d : Nat) (a0 : Nat) (a1 : Int) (h : zv_H) : E7_add d a0 a1 h =
  ((zv_gI h a0 7 1).bind fun v1 =>
  (if v1 < 0 then
    (some (none, h))
  else
    ((zv_gI h a0 7 1).bind fun v2 =>
    ((zv_gR h a0 7 0).bind fun v3 =>
    ((zv_al h v3).bind fun v4 =>
    (if v2 < v4 then
      ((zv_gR h a0 7 0).bind fun v5 =>
      ((zv_gI h a0 7 1).bind fun v6 =>
      ((zv_wI h v5 v6 a1).bind fun g7 =>
      ((zv_gI g7 a0 7 1).bind fun v8 =>
      ((zv_pI g7 a0 7 1 (zv_w (v8 + (1 : Int)))).bind fun g9 =>
      (some (none, g9)))))))
    else
      (some (none, h)))))))) := (zv_lim_eq _ _ _ _ _ _).trans rfl
set_option maxRecDepth 100000 in
theorem qE7_at (d : Nat) (a0 : Nat) (a1 : Int) (h : zv_H) : E7_at d a0 a1 h =
  (if a1 < 0 then
    (some (some (zv_i (-1 : Int)), h))
  else
    ((zv_gI h a0 7 1).bind fun v1 =>
    (if a1 < v1 then
      ((zv_gR h a0 7 0).bind fun v2 =>
      ((zv_al h v2).bind fun v3 =>
      (if a1 < v3 then
        ((zv_gR h a0 7 0).bind fun v4 =>
        ((zv_aI h v4 a1).bind fun v5 =>
        (some (some (zv_i v5), h))))
      else
        (some (some (zv_i (-1 : Int)), h)))))
    else
      (some (some (zv_i (-1 : Int)), h))))) := (zv_lim_eq _ _ _ _ _ _).trans rfl
set_option maxRecDepth 100000 in
theorem qE7_key (d : Nat) (a0 : Nat) (h : zv_H) : E7_key d a0 h =
  ((zv_gI h a0 7 1).bind fun v1 =>
  ((C8_within d v1 (1 : Int) (6 : Int) h).bind fun q2 =>
  (if q2.1 = 0 then
    (some (some (zv_i (0 : Int)), q2.2))
  else
    ((zv_gI q2.2 a0 7 1).bind fun v3 =>
    L7_key_24 d a0 (0 : Int) (zv_w (v3 - (1 : Int))) q2.2)))) := (zv_lim_eq _ _ _ _ _ _).trans rfl
set_option maxRecDepth 100000 in
theorem qL7_key_24 (d : Nat) (a0 : Nat) (a1 : Int) (a2 : Int) (h : zv_H) : L7_key_24 d a0 a1 a2 h =
  (if a2 < 0 then
    (some (some (zv_i a1), h))
  else
    ((C7_at d a0 a2 h).bind fun q1 =>
    L7_key_24 d a0 (zv_or (zv_shl a1 (5 : Int)) (zv_w (q1.1 + (1 : Int)))) (zv_w (a2 + (-1))) q1.2)) := (zv_lim_eq _ _ _ _ _ _).trans rfl
end
section
set_option maxRecDepth 100000 in
theorem qE3_init (d : Nat) (a0 : Nat) (h : zv_H) : E3_init d a0 h =
  (if a0 = 0 then none else
  ((zv_nA h 2 (700 : Int)).bind fun g1 =>
  ((zv_pR g1 a0 3 0 (zv_n h + 1)).bind fun g2 =>
  ((zv_nO g2 7).bind fun g3 =>
  ((C7_init d (zv_n g2 + 1) g3).bind fun g4 =>
  ((zv_pR g4 a0 3 1 (zv_n g2 + 1)).bind fun g5 =>
  (some (none, g5)))))))) := (zv_lim_eq _ _ _ _ _ _).trans rfl
set_option maxRecDepth 100000 in
theorem qE3_addByte (d : Nat) (a0 : Nat) (a1 : Int) (h : zv_H) : E3_addByte d a0 a1 h =
  ((zv_gI h a0 3 2).bind fun v1 =>
  (if v1 < 0 then
    (some (none, h))
  else
    ((zv_gI h a0 3 2).bind fun v2 =>
    (if v2 < (700 : Int) then
      ((zv_gR h a0 3 0).bind fun v3 =>
      ((zv_gI h a0 3 2).bind fun v4 =>
      ((zv_wI h v3 v4 a1).bind fun g5 =>
      ((zv_gI g5 a0 3 2).bind fun v6 =>
      ((zv_pI g5 a0 3 2 (zv_w (v6 + (1 : Int)))).bind fun g7 =>
      (some (none, g7)))))))
    else
      (some (none, h)))))) := (zv_lim_eq _ _ _ _ _ _).trans rfl
set_option maxRecDepth 100000 in
theorem qE3_byteAt (d : Nat) (a0 : Nat) (a1 : Int) (h : zv_H) : E3_byteAt d a0 a1 h =
  (if a1 < 0 then
    (some (some (zv_i (-1 : Int)), h))
  else
    ((zv_gI h a0 3 3).bind fun v1 =>
    (if a1 < v1 then
      (if a1 < (700 : Int) then
        ((zv_gR h a0 3 0).bind fun v2 =>
        ((zv_aI h v2 a1).bind fun v3 =>
        (some (some (zv_i v3), h))))
      else
        (some (some (zv_i (-1 : Int)), h)))
    else
      (some (some (zv_i (-1 : Int)), h))))) := (zv_lim_eq _ _ _ _ _ _).trans rfl
set_option maxRecDepth 100000 in
theorem qE3_fail (d : Nat) (a0 : Nat) (a1 : Int) (h : zv_H) : E3_fail d a0 a1 h =
  ((zv_pI h a0 3 8 a1).bind fun g1 =>
  ((zv_gI g1 a0 3 5).bind fun v2 =>
  ((zv_pI g1 a0 3 9 v2).bind fun g3 =>
  (some (some (zv_i (0 : Int)), g3))))) := (zv_lim_eq _ _ _ _ _ _).trans rfl
set_option maxRecDepth 100000 in
theorem qE3_more (d : Nat) (a0 : Nat) (h : zv_H) : E3_more d a0 h =
  ((zv_gI h a0 3 8).bind fun v1 =>
  (if v1 = 0 then
    ((zv_gI h a0 3 4).bind fun v2 =>
    (if v2 = 0 then
      (some (some (zv_i (0 : Int)), h))
    else
      (some (some (zv_i (1 : Int)), h))))
  else
    (some (some (zv_i (0 : Int)), h)))) := (zv_lim_eq _ _ _ _ _ _).trans rfl
set_option maxRecDepth 100000 in
theorem qE3_begin (d : Nat) (a0 : Nat) (a1 : Int) (h : zv_H) : E3_begin d a0 a1 h =
  ((zv_gI h a0 3 2).bind fun v1 =>
  ((CJ_min d a1 v1 h).bind fun q2 =>
  ((zv_pI q2.2 a0 3 3 q2.1).bind fun g3 =>
  ((zv_pI g3 a0 3 2 (0 : Int)).bind fun g4 =>
  ((zv_pI g4 a0 3 8 (0 : Int)).bind fun g5 =>
  ((zv_pI g5 a0 3 9 (-1 : Int)).bind fun g6 =>
  ((zv_pI g6 a0 3 6 (0 : Int)).bind fun g7 =>
  ((C3_next d a0 g7).bind fun q8 =>
  (some (none, q8.2)))))))))) := (zv_lim_eq _ _ _ _ _ _).trans rfl
set_option maxRecDepth 100000 in
theorem qE3_next (d : Nat) (a0 : Nat) (h : zv_H) : E3_next d a0 h =
  ((zv_gI h a0 3 6).bind fun v1 =>
  ((zv_pI h a0 3 5 v1).bind fun g2 =>
  L3_next_8 d a0 g2)) := (zv_lim_eq _ _ _ _ _ _).trans rfl
set_option maxRecDepth 100000 in
theorem qL3_next_8 (d : Nat) (a0 : Nat) (h : zv_H) : L3_next_8 d a0 h =
  ((zv_gI h a0 3 5).bind fun v1 =>
  ((zv_gI h a0 3 3).bind fun v2 =>
  (if v1 < v2 then
    ((zv_gI h a0 3 5).bind fun v3 =>
    ((C3_byteAt d a0 v3 h).bind fun q4 =>
    (if q4.1 = (32 : Int) then
      ((zv_gI q4.2 a0 3 5).bind fun v5 =>
      ((zv_pI q4.2 a0 3 5 (zv_w (v5 + (1 : Int)))).bind fun g6 =>
      L3_next_8 d a0 g6))
    else
      ((zv_gI q4.2 a0 3 5).bind fun v7 =>
      ((C3_byteAt d a0 v7 q4.2).bind fun q8 =>
      (if q8.1 = (10 : Int) then
        ((zv_gI q8.2 a0 3 5).bind fun v9 =>
        ((zv_pI q8.2 a0 3 5 (zv_w (v9 + (1 : Int)))).bind fun g10 =>
        L3_next_8 d a0 g10))
      else
        L3_next_58 d a0 q8.2))))))
  else
    L3_next_58 d a0 h))) := (zv_lim_eq _ _ _ _ _ _).trans rfl
set_option maxRecDepth 100000 in
theorem qL3_next_58 (d : Nat) (a0 : Nat) (h : zv_H) : L3_next_58 d a0 h =
  ((zv_gI h a0 3 5).bind fun v1 =>
  ((zv_pI h a0 3 6 v1).bind fun g2 =>
  ((zv_gI g2 a0 3 5).bind fun v3 =>
  ((C3_byteAt d a0 v3 g2).bind fun q4 =>
  ((zv_pI q4.2 a0 3 7 q4.1).bind fun g5 =>
  ((zv_gI g5 a0 3 7).bind fun v6 =>
  (if v6 = (-1 : Int) then
    ((zv_pI g5 a0 3 4 (0 : Int)).bind fun g7 =>
    (some (some (zv_i (1 : Int)), g7)))
  else
    ((zv_gI g5 a0 3 7).bind fun v8 =>
    ((C3_isSmall d v8 g5).bind fun q9 =>
    (if q9.1 = 0 then
      ((zv_gI q9.2 a0 3 7).bind fun v10 =>
      ((C3_isDigit d v10 q9.2).bind fun q11 =>
      (if q11.1 = 0 then
        ((zv_pI q11.2 a0 3 4 (3 : Int)).bind fun g12 =>
        ((zv_gI g12 a0 3 6).bind fun v13 =>
        ((zv_pI g12 a0 3 6 (zv_w (v13 + (1 : Int)))).bind fun g14 =>
        ((zv_gI g14 a0 3 7).bind fun v15 =>
        (if v15 < (59 : Int) then
          L3_next_302 d a0 g14
        else
          ((zv_gI g14 a0 3 7).bind fun v16 =>
          (if v16 ≤ (62 : Int) then
            (some (some (zv_i (1 : Int)), g14))
          else
            L3_next_302 d a0 g14)))))))
      else
        ((zv_pI q11.2 a0 3 4 (2 : Int)).bind fun g17 =>
        ((zv_pI g17 a0 3 7 (0 : Int)).bind fun g18 =>
        L3_next_168 d a0 g18)))))
    else
      ((zv_pI q9.2 a0 3 4 (1 : Int)).bind fun g19 =>
      L3_next_108 d a0 g19))))))))))) := (zv_lim_eq _ _ _ _ _ _).trans rfl
set_option maxRecDepth 100000 in
theorem qL3_next_108 (d : Nat) (a0 : Nat) (h : zv_H) : L3_next_108 d a0 h =
  ((zv_gI h a0 3 6).bind fun v1 =>
  ((zv_gI h a0 3 3).bind fun v2 =>
  (if v1 < v2 then
    ((zv_gI h a0 3 6).bind fun v3 =>
    ((C3_byteAt d a0 v3 h).bind fun q4 =>
    ((C3_isSmall d q4.1 q4.2).bind fun q5 =>
    (if q5.1 = 0 then
      (some (some (zv_i (1 : Int)), q5.2))
    else
      ((zv_gI q5.2 a0 3 6).bind fun v6 =>
      ((zv_pI q5.2 a0 3 6 (zv_w (v6 + (1 : Int)))).bind fun g7 =>
      L3_next_108 d a0 g7))))))
  else
    (some (some (zv_i (1 : Int)), h))))) := (zv_lim_eq _ _ _ _ _ _).trans rfl
set_option maxRecDepth 100000 in
theorem qL3_next_168 (d : Nat) (a0 : Nat) (h : zv_H) : L3_next_168 d a0 h =
  ((zv_gI h a0 3 6).bind fun v1 =>
  ((zv_gI h a0 3 3).bind fun v2 =>
  (if v1 < v2 then
    ((zv_gI h a0 3 6).bind fun v3 =>
    ((zv_gI h a0 3 5).bind fun v4 =>
    (if (zv_w (v3 - v4)) ≤ (3 : Int) then
      ((zv_gI h a0 3 6).bind fun v5 =>
      ((C3_byteAt d a0 v5 h).bind fun q6 =>
      ((C3_isDigit d q6.1 q6.2).bind fun q7 =>
      (if q7.1 = 0 then
        L3_next_242 d a0 q7.2
      else
        ((zv_gI q7.2 a0 3 7).bind fun v8 =>
        ((zv_gI q7.2 a0 3 6).bind fun v9 =>
        ((C3_byteAt d a0 v9 q7.2).bind fun q10 =>
        ((zv_pI q10.2 a0 3 7 (zv_w ((zv_w ((zv_w (v8 * (10 : Int))) + q10.1)) - (48 : Int)))).bind fun g11 =>
        ((zv_gI g11 a0 3 6).bind fun v12 =>
        ((zv_pI g11 a0 3 6 (zv_w (v12 + (1 : Int)))).bind fun g13 =>
        L3_next_168 d a0 g13))))))))))
    else
      L3_next_242 d a0 h)))
  else
    L3_next_242 d a0 h))) := (zv_lim_eq _ _ _ _ _ _).trans rfl
set_option maxRecDepth 100000 in
theorem qL3_next_242 (d : Nat) (a0 : Nat) (h : zv_H) : L3_next_242 d a0 h =
  ((zv_gI h a0 3 6).bind fun v1 =>
  ((zv_gI h a0 3 5).bind fun v2 =>
  (if (zv_w (v1 - v2)) ≤ (3 : Int) then
    (some (some (zv_i (1 : Int)), h))
  else
    ((C3_fail d a0 (1 : Int) h).bind fun q3 =>
    (if q3.1 = 0 then
      (some (some (zv_i (0 : Int)), q3.2))
    else
      (some (some (zv_i (1 : Int)), q3.2))))))) := (zv_lim_eq _ _ _ _ _ _).trans rfl
set_option maxRecDepth 100000 in
theorem qL3_next_302 (d : Nat) (a0 : Nat) (h : zv_H) : L3_next_302 d a0 h =
  ((zv_gI h a0 3 7).bind fun v1 =>
  (if v1 = (91 : Int) then
    (some (some (zv_i (1 : Int)), h))
  else
    ((zv_gI h a0 3 7).bind fun v2 =>
    (if v2 = (93 : Int) then
      (some (some (zv_i (1 : Int)), h))
    else
      ((C3_fail d a0 (1 : Int) h).bind fun q3 =>
      (if q3.1 = 0 then
        (some (some (zv_i (0 : Int)), q3.2))
      else
        (some (some (zv_i (1 : Int)), q3.2)))))))) := (zv_lim_eq _ _ _ _ _ _).trans rfl
set_option maxRecDepth 100000 in
theorem qE3_isSmall (d : Nat) (a0 : Int) (h : zv_H) : E3_isSmall d a0 h =
  (if a0 < (97 : Int) then
    (some (some (zv_i (0 : Int)), h))
  else
    (if a0 ≤ (122 : Int) then
      (some (some (zv_i (1 : Int)), h))
    else
      (some (some (zv_i (0 : Int)), h)))) := (zv_lim_eq _ _ _ _ _ _).trans rfl
set_option maxRecDepth 100000 in
theorem qE3_isDigit (d : Nat) (a0 : Int) (h : zv_H) : E3_isDigit d a0 h =
  (if a0 < (48 : Int) then
    (some (some (zv_i (0 : Int)), h))
  else
    (if a0 ≤ (57 : Int) then
      (some (some (zv_i (1 : Int)), h))
    else
      (some (some (zv_i (0 : Int)), h)))) := (zv_lim_eq _ _ _ _ _ _).trans rfl
set_option maxRecDepth 100000 in
theorem qE3_is (d : Nat) (a0 : Nat) (a1 : Nat) (h : zv_H) : E3_is d a0 a1 h =
  ((zv_gI h a0 3 4).bind fun v1 =>
  (if v1 = (1 : Int) then
    ((zv_gI h a0 3 6).bind fun v2 =>
    ((zv_gI h a0 3 5).bind fun v3 =>
    ((CJ_len d a1 h).bind fun q4 =>
    (if (zv_w (v2 - v3)) = q4.1 then
      L3_is_28 d a0 a1 (0 : Int) q4.2
    else
      (some (some (zv_i (0 : Int)), q4.2))))))
  else
    (some (some (zv_i (0 : Int)), h)))) := (zv_lim_eq _ _ _ _ _ _).trans rfl
set_option maxRecDepth 100000 in
theorem qL3_is_28 (d : Nat) (a0 : Nat) (a1 : Nat) (a2 : Int) (h : zv_H) : L3_is_28 d a0 a1 a2 h =
  ((CJ_len d a1 h).bind fun q1 =>
  (if a2 < q1.1 then
    ((zv_gI q1.2 a0 3 5).bind fun v2 =>
    ((C3_byteAt d a0 (zv_w (v2 + a2)) q1.2).bind fun q3 =>
    ((CJ_chr d a1 a2 q3.2).bind fun q4 =>
    (if q3.1 = q4.1 then
      L3_is_28 d a0 a1 (zv_w (a2 + 1)) q4.2
    else
      (some (some (zv_i (0 : Int)), q4.2))))))
  else
    (some (some (zv_i (1 : Int)), q1.2)))) := (zv_lim_eq _ _ _ _ _ _).trans rfl
set_option maxRecDepth 100000 in
theorem qE3_isSign (d : Nat) (a0 : Nat) (a1 : Int) (h : zv_H) : E3_isSign d a0 a1 h =
  ((zv_gI h a0 3 4).bind fun v1 =>
  (if v1 = (3 : Int) then
    ((zv_gI h a0 3 7).bind fun v2 =>
    (if v2 = a1 then
      (some (some (zv_i (1 : Int)), h))
    else
      (some (some (zv_i (0 : Int)), h))))
  else
    (some (some (zv_i (0 : Int)), h)))) := (zv_lim_eq _ _ _ _ _ _).trans rfl
set_option maxRecDepth 100000 in
theorem qE3_head (d : Nat) (a0 : Nat) (a1 : Nat) (h : zv_H) : E3_head d a0 a1 h =
  ((zv_gI h a0 3 8).bind fun v1 =>
  (if v1 = 0 then
    ((C3_is d a0 1000000 h).bind fun q2 =>
    (if q2.1 = 0 then
      L3_head_52 d a0 a1 q2.2
    else
      ((C3_next d a0 q2.2).bind fun q3 =>
      (if q3.1 = 0 then
        L3_head_52 d a0 a1 q3.2
      else
        ((C3_spelled d a0 (40 : Int) q3.2).bind fun q4 =>
        (if q4.1 = 0 then
          L3_head_52 d a0 a1 q4.2
        else
          ((C3_closed d a0 q4.2).bind fun q5 =>
          (if q5.1 = 0 then
            L3_head_52 d a0 a1 q5.2
          else
            ((zv_gR q5.2 a0 3 1).bind fun v6 =>
            ((C0_startWith d a1 v6 q5.2).bind fun g7 =>
            ((C3_next d a0 g7).bind fun q8 =>
            L3_head_52 d a0 a1 q8.2)))))))))))
  else
    L3_head_52 d a0 a1 h)) := (zv_lim_eq _ _ _ _ _ _).trans rfl
set_option maxRecDepth 100000 in
theorem qL3_head_52 (d : Nat) (a0 : Nat) (a1 : Nat) (h : zv_H) : L3_head_52 d a0 a1 h =
  ((zv_gI h a0 3 8).bind fun v1 =>
  (if v1 = 0 then
    ((C3_is d a0 1000001 h).bind fun q2 =>
    (if q2.1 = 0 then
      (some (none, q2.2))
    else
      ((C3_next d a0 q2.2).bind fun q3 =>
      (if q3.1 = 0 then
        (some (none, q3.2))
      else
        ((zv_gR q3.2 a1 0 8).bind fun v4 =>
        ((C1_clear d v4 q3.2).bind fun g5 =>
        ((zv_gR g5 a1 0 8).bind fun v6 =>
        ((C3_test d a0 v6 (0 : Int) g5).bind fun q7 =>
        (if q7.1 = 0 then
          (some (none, q7.2))
        else
          ((C3_closed d a0 q7.2).bind fun q8 =>
          (if q8.1 = 0 then
            (some (none, q8.2))
          else
            ((C3_next d a0 q8.2).bind fun q9 =>
            (some (none, q9.2))))))))))))))
  else
    (some (none, h)))) := (zv_lim_eq _ _ _ _ _ _).trans rfl
set_option maxRecDepth 100000 in
theorem qE3_closed (d : Nat) (a0 : Nat) (h : zv_H) : E3_closed d a0 h =
  ((C3_isSign d a0 (59 : Int) h).bind fun q1 =>
  (if q1.1 = 0 then
    ((C3_fail d a0 (2 : Int) q1.2).bind fun q2 =>
    (if q2.1 = 0 then
      (some (some (zv_i (0 : Int)), q2.2))
    else
      (some (some (zv_i (1 : Int)), q2.2))))
  else
    (some (some (zv_i (1 : Int)), q1.2)))) := (zv_lim_eq _ _ _ _ _ _).trans rfl
set_option maxRecDepth 100000 in
theorem qE3_spelled (d : Nat) (a0 : Nat) (a1 : Int) (h : zv_H) : E3_spelled d a0 a1 h =
  ((zv_gI h a0 3 4).bind fun v1 =>
  (if v1 = (1 : Int) then
    ((zv_gI h a0 3 6).bind fun v2 =>
    ((zv_gI h a0 3 5).bind fun v3 =>
    (if (zv_w (v2 - v3)) ≤ a1 then
      ((zv_gR h a0 3 1).bind fun v4 =>
      ((C7_clear d v4 h).bind fun g5 =>
      ((zv_gI g5 a0 3 5).bind fun v6 =>
      L3_spelled_45 d a0 v6 g5)))
    else
      ((C3_fail d a0 (4 : Int) h).bind fun q7 =>
      (some (some (zv_i (zv_nz q7.1)), q7.2))))))
  else
    ((C3_fail d a0 (2 : Int) h).bind fun q8 =>
    (some (some (zv_i (zv_nz q8.1)), q8.2))))) := (zv_lim_eq _ _ _ _ _ _).trans rfl
set_option maxRecDepth 100000 in
theorem qL3_spelled_45 (d : Nat) (a0 : Nat) (a2 : Int) (h : zv_H) : L3_spelled_45 d a0 a2 h =
  ((zv_gI h a0 3 6).bind fun v1 =>
  (if a2 < v1 then
    ((zv_gR h a0 3 1).bind fun v2 =>
    ((C3_byteAt d a0 a2 h).bind fun q3 =>
    ((C7_add d v2 (zv_w (q3.1 - (97 : Int))) q3.2).bind fun g4 =>
    L3_spelled_45 d a0 (zv_w (a2 + 1)) g4)))
  else
    ((C3_next d a0 h).bind fun q5 =>
    (some (some (zv_i (zv_nz q5.1)), q5.2))))) := (zv_lim_eq _ _ _ _ _ _).trans rfl
set_option maxRecDepth 100000 in
theorem qE3_test (d : Nat) (a0 : Nat) (a1 : Nat) (a2 : Int) (h : zv_H) : E3_test d a0 a1 a2 h =
  ((C3_side d a0 a1 a2 h).bind fun q1 =>
  L3_test_10 d a0 a1 a2 q1.1 (0 : Int) q1.2) := (zv_lim_eq _ _ _ _ _ _).trans rfl
set_option maxRecDepth 100000 in
theorem qL3_test_10 (d : Nat) (a0 : Nat) (a1 : Nat) (a2 : Int) (a3 : Int) (a4 : Int) (h : zv_H) : L3_test_10 d a0 a1 a2 a3 a4 h =
  (if a4 < (700 : Int) then
    (if a3 = 0 then
      (some (some (zv_i (zv_nz a3)), h))
    else
      ((C3_is d a0 1000010 h).bind fun q1 =>
      (if q1.1 = 0 then
        (some (some (zv_i (zv_nz a3)), q1.2))
      else
        ((C3_next d a0 q1.2).bind fun q2 =>
        (if q2.1 = 0 then
          L3_test_51 d a0 a1 a2 a4 q2.2
        else
          ((C3_side d a0 a1 a2 q2.2).bind fun q3 =>
          (if q3.1 = 0 then
            L3_test_51 d a0 a1 a2 a4 q3.2
          else
            L3_test_52 d a0 a1 a2 a4 (1 : Int) q3.2)))))))
  else
    (some (some (zv_i (zv_nz a3)), h))) := (zv_lim_eq _ _ _ _ _ _).trans rfl
set_option maxRecDepth 100000 in
theorem qL3_test_51 (d : Nat) (a0 : Nat) (a1 : Nat) (a2 : Int) (a4 : Int) (h : zv_H) : L3_test_51 d a0 a1 a2 a4 h =
  L3_test_52 d a0 a1 a2 a4 (0 : Int) h := (zv_lim_eq _ _ _ _ _ _).trans rfl
set_option maxRecDepth 100000 in
theorem qL3_test_52 (d : Nat) (a0 : Nat) (a1 : Nat) (a2 : Int) (a4 : Int) (e0 : Int) (h : zv_H) : L3_test_52 d a0 a1 a2 a4 e0 h =
  ((C1_add d a1 (20 : Int) (0 : Int) h).bind fun g1 =>
  L3_test_10 d a0 a1 a2 e0 (zv_w (a4 + 1)) g1) := (zv_lim_eq _ _ _ _ _ _).trans rfl
set_option maxRecDepth 100000 in
theorem qE3_side (d : Nat) (a0 : Nat) (a1 : Nat) (a2 : Int) (h : zv_H) : E3_side d a0 a1 a2 h =
  ((C3_fact d a0 a1 a2 h).bind fun q1 =>
  L3_side_10 d a0 a1 a2 q1.1 (0 : Int) q1.2) := (zv_lim_eq _ _ _ _ _ _).trans rfl
set_option maxRecDepth 100000 in
theorem qL3_side_10 (d : Nat) (a0 : Nat) (a1 : Nat) (a2 : Int) (a3 : Int) (a4 : Int) (h : zv_H) : L3_side_10 d a0 a1 a2 a3 a4 h =
  (if a4 < (700 : Int) then
    (if a3 = 0 then
      (some (some (zv_i (zv_nz a3)), h))
    else
      ((C3_is d a0 1000009 h).bind fun q1 =>
      (if q1.1 = 0 then
        (some (some (zv_i (zv_nz a3)), q1.2))
      else
        ((C3_next d a0 q1.2).bind fun q2 =>
        (if q2.1 = 0 then
          L3_side_51 d a0 a1 a2 a4 q2.2
        else
          ((C3_fact d a0 a1 a2 q2.2).bind fun q3 =>
          (if q3.1 = 0 then
            L3_side_51 d a0 a1 a2 a4 q3.2
          else
            L3_side_52 d a0 a1 a2 a4 (1 : Int) q3.2)))))))
  else
    (some (some (zv_i (zv_nz a3)), h))) := (zv_lim_eq _ _ _ _ _ _).trans rfl
set_option maxRecDepth 100000 in
theorem qL3_side_51 (d : Nat) (a0 : Nat) (a1 : Nat) (a2 : Int) (a4 : Int) (h : zv_H) : L3_side_51 d a0 a1 a2 a4 h =
  L3_side_52 d a0 a1 a2 a4 (0 : Int) h := (zv_lim_eq _ _ _ _ _ _).trans rfl
set_option maxRecDepth 100000 in
theorem qL3_side_52 (d : Nat) (a0 : Nat) (a1 : Nat) (a2 : Int) (a4 : Int) (e0 : Int) (h : zv_H) : L3_side_52 d a0 a1 a2 a4 e0 h =
  ((C1_add d a1 (19 : Int) (0 : Int) h).bind fun g1 =>
  L3_side_10 d a0 a1 a2 e0 (zv_w (a4 + 1)) g1) := (zv_lim_eq _ _ _ _ _ _).trans rfl
set_option maxRecDepth 100000 in
theorem qE3_fact (d : Nat) (a0 : Nat) (a1 : Nat) (a2 : Int) (h : zv_H) : E3_fact d a0 a1 a2 h =
  ((C3_is d a0 1000002 h).bind fun q1 =>
  (if q1.1 = 0 then
    ((C3_isSign d a0 (91 : Int) q1.2).bind fun q2 =>
    (if q2.1 = 0 then
      ((C3_asked d a0 q2.2).bind fun q3 =>
      ((C3_comparison d a0 a1 q3.1 q3.2).bind fun q4 =>
      (some (some (zv_i (zv_nz q4.1)), q4.2))))
    else
      L3_fact_30 d a0 a1 a2 q1.1 q2.2))
  else
    L3_fact_30 d a0 a1 a2 q1.1 q1.2)) := (zv_lim_eq _ _ _ _ _ _).trans rfl
set_option maxRecDepth 100000 in
theorem qL3_fact_30 (d : Nat) (a0 : Nat) (a1 : Nat) (a2 : Int) (a3 : Int) (h : zv_H) : L3_fact_30 d a0 a1 a2 a3 h =
  (if a2 < (6 : Int) then
    ((C3_next d a0 h).bind fun q1 =>
    (if q1.1 = 0 then
      (some (some (zv_i (0 : Int)), q1.2))
    else
      (if a3 = 0 then
        ((C3_test d a0 a1 (zv_w (a2 + (1 : Int))) q1.2).bind fun q2 =>
        (if q2.1 = 0 then
          (some (some (zv_i (0 : Int)), q2.2))
        else
          ((C3_isSign d a0 (93 : Int) q2.2).bind fun q3 =>
          (if q3.1 = 0 then
            ((C3_fail d a0 (2 : Int) q3.2).bind fun q4 =>
            (some (some (zv_i (zv_nz q4.1)), q4.2)))
          else
            ((C3_next d a0 q3.2).bind fun q5 =>
            (some (some (zv_i (zv_nz q5.1)), q5.2)))))))
      else
        ((C3_fact d a0 a1 (zv_w (a2 + (1 : Int))) q1.2).bind fun q6 =>
        ((C1_add d a1 (18 : Int) (0 : Int) q6.2).bind fun g7 =>
        (some (some (zv_i (zv_nz q6.1)), g7)))))))
  else
    ((C3_fail d a0 (6 : Int) h).bind fun q8 =>
    (some (some (zv_i (zv_nz q8.1)), q8.2)))) := (zv_lim_eq _ _ _ _ _ _).trans rfl
set_option maxRecDepth 100000 in
theorem qE3_comparison (d : Nat) (a0 : Nat) (a1 : Nat) (a2 : Int) (h : zv_H) : E3_comparison d a0 a1 a2 h =
  (if a2 = (-1 : Int) then
    ((C3_fail d a0 (2 : Int) h).bind fun q1 =>
    (some (some (zv_i (zv_nz q1.1)), q1.2)))
  else
    ((C3_next d a0 h).bind fun q2 =>
    (if q2.1 = 0 then
      (some (some (zv_i (0 : Int)), q2.2))
    else
      ((zv_gI q2.2 a0 3 4).bind fun v3 =>
      (if v3 = (3 : Int) then
        ((zv_gI q2.2 a0 3 7).bind fun v4 =>
        (if v4 < (60 : Int) then
          L3_comparison_46 d a0 q2.2
        else
          ((zv_gI q2.2 a0 3 7).bind fun v5 =>
          (if v5 ≤ (62 : Int) then
            ((zv_gI q2.2 a0 3 7).bind fun v6 =>
            ((C3_next d a0 q2.2).bind fun q7 =>
            (if q7.1 = 0 then
              (some (some (zv_i (0 : Int)), q7.2))
            else
              ((zv_gI q7.2 a0 3 4).bind fun v8 =>
              (if v8 = (2 : Int) then
                ((zv_gI q7.2 a0 3 7).bind fun v9 =>
                ((C1_compare d a1 a2 (zv_w (v6 - (60 : Int))) v9 q7.2).bind fun g10 =>
                ((C3_next d a0 g10).bind fun q11 =>
                (some (some (zv_i (zv_nz q11.1)), q11.2)))))
              else
                ((C3_fail d a0 (2 : Int) q7.2).bind fun q12 =>
                (some (some (zv_i (zv_nz q12.1)), q12.2))))))))
          else
            L3_comparison_46 d a0 q2.2))))
      else
        L3_comparison_46 d a0 q2.2))))) := (zv_lim_eq _ _ _ _ _ _).trans rfl
set_option maxRecDepth 100000 in
theorem qL3_comparison_46 (d : Nat) (a0 : Nat) (h : zv_H) : L3_comparison_46 d a0 h =
  ((C3_fail d a0 (2 : Int) h).bind fun q1 =>
  (some (some (zv_i (zv_nz q1.1)), q1.2))) := (zv_lim_eq _ _ _ _ _ _).trans rfl
set_option maxRecDepth 100000 in
theorem qE3_asked (d : Nat) (a0 : Nat) (h : zv_H) : E3_asked d a0 h =
  ((C3_is d a0 1000003 h).bind fun q1 =>
  (if q1.1 = 0 then
    ((C3_is d a0 1000004 q1.2).bind fun q2 =>
    (if q2.1 = 0 then
      ((C3_is d a0 1000005 q2.2).bind fun q3 =>
      (if q3.1 = 0 then
        ((C3_is d a0 1000006 q3.2).bind fun q4 =>
        (if q4.1 = 0 then
          ((C3_is d a0 1000007 q4.2).bind fun q5 =>
          (if q5.1 = 0 then
            ((C3_is d a0 1000008 q5.2).bind fun q6 =>
            (if q6.1 = 0 then
              (some (some (zv_i (-1 : Int)), q6.2))
            else
              (some (some (zv_i (5 : Int)), q6.2))))
          else
            (some (some (zv_i (4 : Int)), q5.2))))
        else
          (some (some (zv_i (3 : Int)), q4.2))))
      else
        (some (some (zv_i (2 : Int)), q3.2))))
    else
      (some (some (zv_i (1 : Int)), q2.2))))
  else
    (some (some (zv_i (0 : Int)), q1.2)))) := (zv_lim_eq _ _ _ _ _ _).trans rfl
set_option maxRecDepth 100000 in
theorem qE3_line (d : Nat) (a0 : Nat) (h : zv_H) : E3_line d a0 h =
  ((C3_verbHere d a0 h).bind fun q1 =>
  ((zv_pI q1.2 a0 3 10 q1.1).bind fun g2 =>
  ((zv_gI g2 a0 3 10).bind fun v3 =>
  (if v3 = (-1 : Int) then
    ((C3_fail d a0 (2 : Int) g2).bind fun q4 =>
    (some (some (zv_i (zv_nz q4.1)), q4.2)))
  else
    ((C3_next d a0 g2).bind fun q5 =>
    (if q5.1 = 0 then
      L3_line_85 d a0 q5.1 q5.2
    else
      ((zv_gI q5.2 a0 3 10).bind fun v6 =>
      (if v6 = (3 : Int) then
        L3_line_85 d a0 q5.1 q5.2
      else
        ((zv_gI q5.2 a0 3 10).bind fun v7 =>
        (if v7 = (4 : Int) then
          L3_line_85 d a0 q5.1 q5.2
        else
          ((zv_gI q5.2 a0 3 10).bind fun v8 =>
          (if v8 = (6 : Int) then
            L3_line_85 d a0 q5.1 q5.2
          else
            ((zv_gI q5.2 a0 3 7).bind fun v9 =>
            ((zv_pI q5.2 a0 3 11 v9).bind fun g10 =>
            ((zv_gI g10 a0 3 4).bind fun v11 =>
            (if v11 = (2 : Int) then
              ((C3_next d a0 g10).bind fun q12 =>
              L3_line_84 d a0 q12.1 q12.2)
            else
              ((C3_fail d a0 (2 : Int) g10).bind fun q13 =>
              L3_line_84 d a0 q13.1 q13.2))))))))))))))))) := (zv_lim_eq _ _ _ _ _ _).trans rfl
set_option maxRecDepth 100000 in
theorem qL3_line_84 (d : Nat) (a0 : Nat) (e0 : Int) (h : zv_H) : L3_line_84 d a0 e0 h =
  L3_line_85 d a0 e0 h := (zv_lim_eq _ _ _ _ _ _).trans rfl
set_option maxRecDepth 100000 in
theorem qL3_line_85 (d : Nat) (a0 : Nat) (a1 : Int) (h : zv_H) : L3_line_85 d a0 a1 h =
  (if a1 = 0 then
    L3_line_126 d a0 a1 h
  else
    ((zv_gI h a0 3 10).bind fun v1 =>
    (if v1 = (1 : Int) then
      ((zv_gI h a0 3 7).bind fun v2 =>
      ((zv_pI h a0 3 12 v2).bind fun g3 =>
      ((zv_gI g3 a0 3 4).bind fun v4 =>
      (if v4 = (2 : Int) then
        ((C3_next d a0 g3).bind fun q5 =>
        L3_line_125 d a0 q5.1 q5.2)
      else
        ((C3_fail d a0 (2 : Int) g3).bind fun q6 =>
        L3_line_125 d a0 q6.1 q6.2)))))
    else
      L3_line_126 d a0 a1 h))) := (zv_lim_eq _ _ _ _ _ _).trans rfl
set_option maxRecDepth 100000 in
theorem qL3_line_125 (d : Nat) (a0 : Nat) (e0 : Int) (h : zv_H) : L3_line_125 d a0 e0 h =
  L3_line_126 d a0 e0 h := (zv_lim_eq _ _ _ _ _ _).trans rfl
set_option maxRecDepth 100000 in
theorem qL3_line_126 (d : Nat) (a0 : Nat) (a1 : Int) (h : zv_H) : L3_line_126 d a0 a1 h =
  (if a1 = 0 then
    L3_line_144 d a0 a1 h
  else
    ((zv_gI h a0 3 10).bind fun v1 =>
    (if v1 = 0 then
      ((C3_spelled d a0 (12 : Int) h).bind fun q2 =>
      L3_line_144 d a0 q2.1 q2.2)
    else
      L3_line_144 d a0 a1 h))) := (zv_lim_eq _ _ _ _ _ _).trans rfl
set_option maxRecDepth 100000 in
theorem qL3_line_144 (d : Nat) (a0 : Nat) (a1 : Int) (h : zv_H) : L3_line_144 d a0 a1 h =
  (if a1 = 0 then
    L3_line_164 d a0 a1 h
  else
    ((zv_gI h a0 3 10).bind fun v1 =>
    (if v1 = (6 : Int) then
      ((C3_spelled d a0 (6 : Int) h).bind fun q2 =>
      L3_line_164 d a0 q2.1 q2.2)
    else
      L3_line_164 d a0 a1 h))) := (zv_lim_eq _ _ _ _ _ _).trans rfl
set_option maxRecDepth 100000 in
theorem qL3_line_164 (d : Nat) (a0 : Nat) (a1 : Int) (h : zv_H) : L3_line_164 d a0 a1 h =
  (if a1 = 0 then
    (some (some (zv_i (0 : Int)), h))
  else
    ((C3_closed d a0 h).bind fun q1 =>
    (if q1.1 = 0 then
      (some (some (zv_i (0 : Int)), q1.2))
    else
      (some (some (zv_i (1 : Int)), q1.2))))) := (zv_lim_eq _ _ _ _ _ _).trans rfl
set_option maxRecDepth 100000 in
theorem qE3_verbHere (d : Nat) (a0 : Nat) (h : zv_H) : E3_verbHere d a0 h =
  ((C3_is d a0 1000011 h).bind fun q1 =>
  (if q1.1 = 0 then
    ((C3_is d a0 1000012 q1.2).bind fun q2 =>
    (if q2.1 = 0 then
      ((C3_is d a0 1000013 q2.2).bind fun q3 =>
      (if q3.1 = 0 then
        ((C3_is d a0 1000014 q3.2).bind fun q4 =>
        (if q4.1 = 0 then
          ((C3_is d a0 1000015 q4.2).bind fun q5 =>
          (if q5.1 = 0 then
            ((C3_is d a0 1000016 q5.2).bind fun q6 =>
            (if q6.1 = 0 then
              ((C3_is d a0 1000017 q6.2).bind fun q7 =>
              (if q7.1 = 0 then
                ((C3_is d a0 1000018 q7.2).bind fun q8 =>
                (if q8.1 = 0 then
                  ((C3_is d a0 1000019 q8.2).bind fun q9 =>
                  (if q9.1 = 0 then
                    ((C3_is d a0 1000020 q9.2).bind fun q10 =>
                    (if q10.1 = 0 then
                      ((C3_is d a0 1000021 q10.2).bind fun q11 =>
                      (if q11.1 = 0 then
                        ((C3_is d a0 1000022 q11.2).bind fun q12 =>
                        (if q12.1 = 0 then
                          (some (some (zv_i (-1 : Int)), q12.2))
                        else
                          (some (some (zv_i (11 : Int)), q12.2))))
                      else
                        (some (some (zv_i (10 : Int)), q11.2))))
                    else
                      (some (some (zv_i (9 : Int)), q10.2))))
                  else
                    (some (some (zv_i (8 : Int)), q9.2))))
                else
                  (some (some (zv_i (7 : Int)), q8.2))))
              else
                (some (some (zv_i (6 : Int)), q7.2))))
            else
              (some (some (zv_i (5 : Int)), q6.2))))
          else
            (some (some (zv_i (4 : Int)), q5.2))))
        else
          (some (some (zv_i (3 : Int)), q4.2))))
      else
        (some (some (zv_i (2 : Int)), q3.2))))
    else
      (some (some (zv_i (1 : Int)), q2.2))))
  else
    (some (some (zv_i (0 : Int)), q1.2)))) := (zv_lim_eq _ _ _ _ _ _).trans rfl
end
section
set_option maxRecDepth 100000 in
theorem qE4_init (d : Nat) (a0 : Nat) (h : zv_H) : E4_init d a0 h =
  (if a0 = 0 then none else
  ((zv_nA h 6 (48 : Int)).bind fun g1 =>
  ((zv_pR g1 a0 4 0 (zv_n h + 1)).bind fun g2 =>
  ((zv_nA g2 2 (604 : Int)).bind fun g3 =>
  ((zv_pR g3 a0 4 1 (zv_n g2 + 1)).bind fun g4 =>
  ((zv_nA g4 3 (604 : Int)).bind fun g5 =>
  ((zv_pR g5 a0 4 2 (zv_n g4 + 1)).bind fun g6 =>
  ((zv_nA g6 3 (604 : Int)).bind fun g7 =>
  ((zv_pR g7 a0 4 3 (zv_n g6 + 1)).bind fun g8 =>
  ((zv_nA g8 2 (605 : Int)).bind fun g9 =>
  ((zv_pR g9 a0 4 4 (zv_n g8 + 1)).bind fun g10 =>
  (some (none, g10))))))))))))) := (zv_lim_eq _ _ _ _ _ _).trans rfl
set_option maxRecDepth 100000 in
theorem qE4_id (d : Nat) (a0 : Int) (a1 : Int) (h : zv_H) : E4_id d a0 a1 h =
  (if a0 = 0 then
    (some (some (zv_i a1), h))
  else
    (some (some (zv_i (zv_w ((zv_w ((40 : Int) + (zv_w ((zv_w (a0 - (1 : Int))) * (12 : Int))))) + a1))), h))) := (zv_lim_eq _ _ _ _ _ _).trans rfl
set_option maxRecDepth 100000 in
theorem qE4_putter (d : Nat) (a0 : Int) (h : zv_H) : E4_putter d a0 h =
  (if a0 < (40 : Int) then
    (some (some (zv_i (0 : Int)), h))
  else
    (some (some (zv_i (zv_w ((zv_w (((zv_w (a0 - (40 : Int)))).tdiv (12 : Int))) + (1 : Int)))), h))) := (zv_lim_eq _ _ _ _ _ _).trans rfl
set_option maxRecDepth 100000 in
theorem qE4_order (d : Nat) (a0 : Int) (h : zv_H) : E4_order d a0 h =
  (if a0 < (40 : Int) then
    (some (some (zv_i a0), h))
  else
    (some (some (zv_i (((zv_w (a0 - (40 : Int)))).tmod (12 : Int))), h))) := (zv_lim_eq _ _ _ _ _ _).trans rfl
set_option maxRecDepth 100000 in
theorem qE4_isId (d : Nat) (a0 : Int) (h : zv_H) : E4_isId d a0 h =
  (if a0 < 0 then
    (some (some (zv_i (0 : Int)), h))
  else
    (if a0 < (604 : Int) then
      (some (some (zv_i (1 : Int)), h))
    else
      (some (some (zv_i (0 : Int)), h)))) := (zv_lim_eq _ _ _ _ _ _).trans rfl
set_option maxRecDepth 100000 in
theorem qE4_lay (d : Nat) (a0 : Nat) (a1 : Nat) (h : zv_H) : E4_lay d a0 a1 h =
  ((C4_walk d a0 a1 h).bind fun g1 =>
  ((zv_gR g1 a0 4 4).bind fun v2 =>
  ((zv_wI g1 v2 (604 : Int) (-1 : Int)).bind fun g3 =>
  L4_lay_16 d a0 (0 : Int) g3))) := (zv_lim_eq _ _ _ _ _ _).trans rfl
set_option maxRecDepth 100000 in
theorem qL4_lay_16 (d : Nat) (a0 : Nat) (a2 : Int) (h : zv_H) : L4_lay_16 d a0 a2 h =
  ((zv_gI h a0 4 5).bind fun v1 =>
  (if a2 < v1 then
    ((zv_gR h a0 4 0).bind fun v2 =>
    ((zv_aR h v2 a2).bind fun v3 =>
    (if v3 = 0 then
      L4_lay_16 d a0 (zv_w (a2 + 1)) h
    else
      ((zv_gR h a0 4 0).bind fun v4 =>
      ((zv_aR h v4 a2).bind fun v5 =>
      ((C5_brings d v5 h).bind fun q6 =>
      (if q6.1 = 0 then
        L4_lay_16 d a0 (zv_w (a2 + 1)) q6.2
      else
        ((zv_gR q6.2 a0 4 0).bind fun v7 =>
        ((zv_aR q6.2 v7 a2).bind fun v8 =>
        ((C4_link d a0 v8 q6.2).bind fun g9 =>
        L4_lay_16 d a0 (zv_w (a2 + 1)) g9))))))))))
  else
    ((zv_pI h a0 4 6 (0 : Int)).bind fun g10 =>
    ((zv_gR g10 a0 4 4).bind fun v11 =>
    ((zv_aI g10 v11 (604 : Int)).bind fun v12 =>
    L4_lay_77 d a0 v12 (0 : Int) g10))))) := (zv_lim_eq _ _ _ _ _ _).trans rfl
set_option maxRecDepth 100000 in
theorem qL4_lay_77 (d : Nat) (a0 : Nat) (a2 : Int) (a3 : Int) (h : zv_H) : L4_lay_77 d a0 a2 a3 h =
  (if a3 < (604 : Int) then
    ((C4_isId d a2 h).bind fun q1 =>
    (if q1.1 = 0 then
      L4_lay_118 d a0 q1.2
    else
      ((zv_gR q1.2 a0 4 1).bind fun v2 =>
      ((zv_wI q1.2 v2 a3 a2).bind fun g3 =>
      ((zv_pI g3 a0 4 6 (zv_w (a3 + (1 : Int)))).bind fun g4 =>
      ((zv_gR g4 a0 4 4).bind fun v5 =>
      ((zv_aI g4 v5 a2).bind fun v6 =>
      L4_lay_77 d a0 v6 (zv_w (a3 + 1)) g4)))))))
  else
    L4_lay_118 d a0 h) := (zv_lim_eq _ _ _ _ _ _).trans rfl
set_option maxRecDepth 100000 in
theorem qL4_lay_118 (d : Nat) (a0 : Nat) (h : zv_H) : L4_lay_118 d a0 h =
  ((zv_gJ h a0 4 9).bind fun v1 =>
  ((C4_look d a0 v1 h).bind fun g2 =>
  (some (none, g2)))) := (zv_lim_eq _ _ _ _ _ _).trans rfl
set_option maxRecDepth 100000 in
theorem qE4_walk (d : Nat) (a0 : Nat) (a1 : Nat) (h : zv_H) : E4_walk d a0 a1 h =
  ((zv_pJ h a0 4 8 (Int64.ofNat 0)).bind fun g1 =>
  ((zv_gI g1 a1 5 10).bind fun v2 =>
  ((CJ_min d (zv_w (v2 + (1 : Int))) (48 : Int) g1).bind fun q3 =>
  ((zv_pI q3.2 a0 4 5 q3.1).bind fun g4 =>
  L4_walk_28 d a0 (Int64.ofNat 0) (Int64.ofNat 0) a1 g4)))) := (zv_lim_eq _ _ _ _ _ _).trans rfl
set_option maxRecDepth 100000 in
theorem qL4_walk_28 (d : Nat) (a0 : Nat) (a2 : Int64) (a4 : Int64) (a6 : Nat) (h : zv_H) : L4_walk_28 d a0 a2 a4 a6 h =
  (if a6 = 0 then
    ((zv_gJ h a0 4 8).bind fun v1 =>
    ((zv_pJ h a0 4 9 (v1 &&& (a4 ^^^ (-1 : Int64)))).bind fun g2 =>
    (some (none, g2))))
  else
    ((zv_gI h a6 5 10).bind fun v3 =>
    (if v3 < 0 then
      L4_walk_63 d a0 a2 a4 a6 h
    else
      ((zv_gI h a6 5 10).bind fun v4 =>
      (if v4 < (48 : Int) then
        ((zv_gR h a0 4 0).bind fun v5 =>
        ((zv_gI h a6 5 10).bind fun v6 =>
        ((zv_wR h v5 v6 a6).bind fun g7 =>
        L4_walk_63 d a0 a2 a4 a6 g7)))
      else
        L4_walk_63 d a0 a2 a4 a6 h))))) := (zv_lim_eq _ _ _ _ _ _).trans rfl
set_option maxRecDepth 100000 in
theorem qL4_walk_63 (d : Nat) (a0 : Nat) (a2 : Int64) (a4 : Int64) (a6 : Nat) (h : zv_H) : L4_walk_63 d a0 a2 a4 a6 h =
  ((C5_edits d a6 h).bind fun q1 =>
  (if q1.1 = 0 then
    L4_walk_85 d a0 a2 a4 a6 q1.2
  else
    ((zv_gJ q1.2 a0 4 8).bind fun v2 =>
    ((C5_bit d a6 q1.2).bind fun q3 =>
    ((zv_pJ q3.2 a0 4 8 (v2 ||| q3.1)).bind fun g4 =>
    L4_walk_85 d a0 a2 a4 a6 g4))))) := (zv_lim_eq _ _ _ _ _ _).trans rfl
set_option maxRecDepth 100000 in
theorem qL4_walk_85 (d : Nat) (a0 : Nat) (a2 : Int64) (a4 : Int64) (a6 : Nat) (h : zv_H) : L4_walk_85 d a0 a2 a4 a6 h =
  ((zv_gI h a6 5 6).bind fun v1 =>
  (if v1 = (2 : Int) then
    ((zv_gJ h a6 5 16).bind fun v2 =>
    ((zv_gJ h a6 5 16).bind fun v3 =>
    ((zv_gR h a6 5 4).bind fun v4 =>
    L4_walk_28 d a0 (a2 ||| v3) (a4 ||| (v2 &&& (a2 ^^^ (-1 : Int64)))) v4 h)))
  else
    ((zv_gJ h a6 5 16).bind fun v5 =>
    ((zv_gR h a6 5 4).bind fun v6 =>
    L4_walk_28 d a0 (a2 ||| v5) a4 v6 h)))) := (zv_lim_eq _ _ _ _ _ _).trans rfl
set_option maxRecDepth 100000 in
theorem qE4_link (d : Nat) (a0 : Nat) (a1 : Nat) (h : zv_H) : E4_link d a0 a1 h =
  ((zv_gI h a1 5 15).bind fun v1 =>
  ((C4_isId d v1 h).bind fun q2 =>
  (if q2.1 = 0 then
    ((zv_gR q2.2 a0 4 4).bind fun v3 =>
    ((zv_aI q2.2 v3 (604 : Int)).bind fun v4 =>
    L4_link_31 d a0 a1 (604 : Int) v4 (0 : Int) q2.2))
  else
    ((zv_gI q2.2 a1 5 15).bind fun v5 =>
    ((zv_gR q2.2 a0 4 4).bind fun v6 =>
    ((zv_aI q2.2 v6 v5).bind fun v7 =>
    L4_link_31 d a0 a1 v5 v7 (0 : Int) q2.2)))))) := (zv_lim_eq _ _ _ _ _ _).trans rfl
set_option maxRecDepth 100000 in
theorem qL4_link_31 (d : Nat) (a0 : Nat) (a1 : Nat) (a2 : Int) (a3 : Int) (a4 : Int) (h : zv_H) : L4_link_31 d a0 a1 a2 a3 a4 h =
  ((zv_gI h a1 5 9).bind fun v1 =>
  (if a4 < v1 then
    ((zv_gI h a1 5 0).bind fun v2 =>
    ((C4_id d v2 a4 h).bind fun q3 =>
    ((C4_isId d q3.1 q3.2).bind fun q4 =>
    (if q4.1 = 0 then
      L4_link_31 d a0 a1 a2 a3 (zv_w (a4 + 1)) q4.2
    else
      ((zv_gR q4.2 a0 4 4).bind fun v5 =>
      ((zv_wI q4.2 v5 a2 q3.1).bind fun g6 =>
      L4_link_31 d a0 a1 q3.1 a3 (zv_w (a4 + 1)) g6))))))
  else
    ((zv_gR h a0 4 4).bind fun v7 =>
    ((zv_wI h v7 a2 a3).bind fun g8 =>
    (some (none, g8)))))) := (zv_lim_eq _ _ _ _ _ _).trans rfl
set_option maxRecDepth 100000 in
theorem qE4_look (d : Nat) (a0 : Nat) (a1 : Int64) (h : zv_H) : E4_look d a0 a1 h =
  L4_look_2 d a0 a1 (0 : Int) h := (zv_lim_eq _ _ _ _ _ _).trans rfl
set_option maxRecDepth 100000 in
theorem qL4_look_2 (d : Nat) (a0 : Nat) (a1 : Int64) (a3 : Int) (h : zv_H) : L4_look_2 d a0 a1 a3 h =
  (if a3 < (604 : Int) then
    ((zv_gR h a0 4 3).bind fun v1 =>
    ((zv_wB h v1 a3 (0 : Int)).bind fun g2 =>
    L4_look_2 d a0 a1 (zv_w (a3 + 1)) g2))
  else
    L4_look_24 d a0 a1 (0 : Int) h) := (zv_lim_eq _ _ _ _ _ _).trans rfl
set_option maxRecDepth 100000 in
theorem qL4_look_24 (d : Nat) (a0 : Nat) (a1 : Int64) (a3 : Int) (h : zv_H) : L4_look_24 d a0 a1 a3 h =
  ((zv_gI h a0 4 5).bind fun v1 =>
  (if a3 < v1 then
    ((zv_gR h a0 4 0).bind fun v2 =>
    ((zv_aR h v2 a3).bind fun v3 =>
    L4_look_43 d a0 a1 a3 v3 (0 : Int) h))
  else
    ((zv_pI h a0 4 7 (0 : Int)).bind fun g4 =>
    L4_look_114 d a0 a1 (0 : Int) g4))) := (zv_lim_eq _ _ _ _ _ _).trans rfl
set_option maxRecDepth 100000 in
theorem qL4_look_43 (d : Nat) (a0 : Nat) (a1 : Int64) (a3 : Int) (a4 : Nat) (a5 : Int) (h : zv_H) : L4_look_43 d a0 a1 a3 a4 a5 h =
  (if a4 = 0 then
    L4_look_24 d a0 a1 (zv_w (a3 + 1)) h
  else
    ((C5_bit d a4 h).bind fun q1 =>
    (if (zv_lcmp (a1 &&& q1.1) (Int64.ofNat 0)) = 0 then
      L4_look_24 d a0 a1 (zv_w (a3 + 1)) q1.2
    else
      ((zv_gI q1.2 a4 5 9).bind fun v2 =>
      (if a5 < v2 then
        ((C5_tookAt d a4 a5 q1.2).bind fun q3 =>
        ((C4_isId d q3.1 q3.2).bind fun q4 =>
        (if q4.1 = 0 then
          L4_look_43 d a0 a1 a3 a4 (zv_w (a5 + 1)) q4.2
        else
          ((zv_gR q4.2 a0 4 3).bind fun v5 =>
          ((zv_wB q4.2 v5 q3.1 (1 : Int)).bind fun g6 =>
          L4_look_43 d a0 a1 a3 a4 (zv_w (a5 + 1)) g6)))))
      else
        L4_look_24 d a0 a1 (zv_w (a3 + 1)) q1.2))))) := (zv_lim_eq _ _ _ _ _ _).trans rfl
set_option maxRecDepth 100000 in
theorem qL4_look_114 (d : Nat) (a0 : Nat) (a1 : Int64) (a3 : Int) (h : zv_H) : L4_look_114 d a0 a1 a3 h =
  ((zv_gI h a0 4 6).bind fun v1 =>
  (if a3 < v1 then
    (if a3 < (604 : Int) then
      ((zv_gR h a0 4 1).bind fun v2 =>
      ((zv_aI h v2 a3).bind fun v3 =>
      ((C4_putter d v3 h).bind fun q4 =>
      ((zv_gR q4.2 a0 4 2).bind fun v5 =>
      ((C4_isId d v3 q4.2).bind fun q6 =>
      (if q6.1 = 0 then
        L4_look_187 d a0 a1 a3 v5 a3 q6.2
      else
        ((zv_gR q6.2 a0 4 3).bind fun v7 =>
        ((zv_aB q6.2 v7 v3).bind fun v8 =>
        (if v8 = 0 then
          (if q4.1 = 0 then
            L4_look_183 d a0 a1 a3 v5 a3 q6.2
          else
            (if (zv_lcmp ((zv_lushr a1 q4.1) &&& (Int64.ofNat 1)) (Int64.ofNat 0)) = 0 then
              L4_look_187 d a0 a1 a3 v5 a3 q6.2
            else
              L4_look_183 d a0 a1 a3 v5 a3 q6.2))
        else
          L4_look_187 d a0 a1 a3 v5 a3 q6.2)))))))))
    else
      (some (none, h)))
  else
    (some (none, h)))) := (zv_lim_eq _ _ _ _ _ _).trans rfl
set_option maxRecDepth 100000 in
theorem qL4_look_183 (d : Nat) (a0 : Nat) (a1 : Int64) (a3 : Int) (e0 : Nat) (e1 : Int) (h : zv_H) : L4_look_183 d a0 a1 a3 e0 e1 h =
  L4_look_188 d a0 a1 a3 e0 e1 (1 : Int) h := (zv_lim_eq _ _ _ _ _ _).trans rfl
set_option maxRecDepth 100000 in
theorem qL4_look_187 (d : Nat) (a0 : Nat) (a1 : Int64) (a3 : Int) (e0 : Nat) (e1 : Int) (h : zv_H) : L4_look_187 d a0 a1 a3 e0 e1 h =
  L4_look_188 d a0 a1 a3 e0 e1 (0 : Int) h := (zv_lim_eq _ _ _ _ _ _).trans rfl
set_option maxRecDepth 100000 in
theorem qL4_look_188 (d : Nat) (a0 : Nat) (a1 : Int64) (a3 : Int) (e0 : Nat) (e1 : Int) (e2 : Int) (h : zv_H) : L4_look_188 d a0 a1 a3 e0 e1 e2 h =
  ((zv_wB h e0 e1 e2).bind fun g1 =>
  ((zv_gI g1 a0 4 7).bind fun v2 =>
  ((zv_gR g1 a0 4 2).bind fun v3 =>
  ((zv_aB g1 v3 a3).bind fun v4 =>
  (if v4 = 0 then
    ((zv_pI g1 a0 4 7 (zv_w (v2 + (0 : Int)))).bind fun g5 =>
    L4_look_114 d a0 a1 (zv_w (a3 + 1)) g5)
  else
    ((zv_pI g1 a0 4 7 (zv_w (v2 + (1 : Int)))).bind fun g6 =>
    L4_look_114 d a0 a1 (zv_w (a3 + 1)) g6)))))) := (zv_lim_eq _ _ _ _ _ _).trans rfl
set_option maxRecDepth 100000 in
theorem qE4_numberAt (d : Nat) (a0 : Nat) (a1 : Int) (h : zv_H) : E4_numberAt d a0 a1 h =
  (if a1 < 0 then
    (some (some (zv_i (0 : Int)), h))
  else
    ((zv_gI h a0 4 5).bind fun v1 =>
    (if a1 < v1 then
      (if a1 < (48 : Int) then
        ((zv_gR h a0 4 0).bind fun v2 =>
        ((zv_aR h v2 a1).bind fun v3 =>
        (if v3 = 0 then
          (some (some (zv_i (0 : Int)), h))
        else
          ((zv_gR h a0 4 0).bind fun v4 =>
          ((zv_aR h v4 a1).bind fun v5 =>
          ((zv_gI h v5 5 0).bind fun v6 =>
          (some (some (zv_i v6), h))))))))
      else
        (some (some (zv_i (0 : Int)), h)))
    else
      (some (some (zv_i (0 : Int)), h))))) := (zv_lim_eq _ _ _ _ _ _).trans rfl
set_option maxRecDepth 100000 in
theorem qE4_idAt (d : Nat) (a0 : Nat) (a1 : Int) (h : zv_H) : E4_idAt d a0 a1 h =
  (if a1 < 0 then
    (some (some (zv_i (-1 : Int)), h))
  else
    ((zv_gI h a0 4 6).bind fun v1 =>
    (if a1 < v1 then
      (if a1 < (604 : Int) then
        ((zv_gR h a0 4 1).bind fun v2 =>
        ((zv_aI h v2 a1).bind fun v3 =>
        (some (some (zv_i v3), h))))
      else
        (some (some (zv_i (-1 : Int)), h)))
    else
      (some (some (zv_i (-1 : Int)), h))))) := (zv_lim_eq _ _ _ _ _ _).trans rfl
set_option maxRecDepth 100000 in
theorem qE4_seesAt (d : Nat) (a0 : Nat) (a1 : Int) (h : zv_H) : E4_seesAt d a0 a1 h =
  (if a1 < 0 then
    (some (some (zv_i (0 : Int)), h))
  else
    ((zv_gI h a0 4 6).bind fun v1 =>
    (if a1 < v1 then
      (if a1 < (604 : Int) then
        ((zv_gR h a0 4 2).bind fun v2 =>
        ((zv_aB h v2 a1).bind fun v3 =>
        (if v3 = 0 then
          (some (some (zv_i (0 : Int)), h))
        else
          (some (some (zv_i (1 : Int)), h)))))
      else
        (some (some (zv_i (0 : Int)), h)))
    else
      (some (some (zv_i (0 : Int)), h))))) := (zv_lim_eq _ _ _ _ _ _).trans rfl
set_option maxRecDepth 100000 in
theorem qE4_placeOf (d : Nat) (a0 : Nat) (a1 : Int) (h : zv_H) : E4_placeOf d a0 a1 h =
  L4_placeOf_2 d a0 a1 (0 : Int) h := (zv_lim_eq _ _ _ _ _ _).trans rfl
set_option maxRecDepth 100000 in
theorem qL4_placeOf_2 (d : Nat) (a0 : Nat) (a1 : Int) (a2 : Int) (h : zv_H) : L4_placeOf_2 d a0 a1 a2 h =
  ((zv_gI h a0 4 6).bind fun v1 =>
  (if a2 < v1 then
    (if a1 = (-1 : Int) then
      L4_placeOf_2 d a0 a1 (zv_w (a2 + 1)) h
    else
      ((C4_idAt d a0 a2 h).bind fun q2 =>
      (if q2.1 = a1 then
        (some (some (zv_i a2), q2.2))
      else
        L4_placeOf_2 d a0 a1 (zv_w (a2 + 1)) q2.2)))
  else
    (some (some (zv_i (-1 : Int)), h)))) := (zv_lim_eq _ _ _ _ _ _).trans rfl
set_option maxRecDepth 100000 in
theorem qE4_seenUpTo (d : Nat) (a0 : Nat) (a1 : Int) (h : zv_H) : E4_seenUpTo d a0 a1 h =
  ((C4_placeOf d a0 a1 h).bind fun q1 =>
  (if q1.1 = (-1 : Int) then
    (some (some (zv_i (-1 : Int)), q1.2))
  else
    L4_seenUpTo_18 d a0 q1.1 (0 : Int) (0 : Int) q1.2)) := (zv_lim_eq _ _ _ _ _ _).trans rfl
set_option maxRecDepth 100000 in
theorem qL4_seenUpTo_18 (d : Nat) (a0 : Nat) (a2 : Int) (a3 : Int) (a4 : Int) (h : zv_H) : L4_seenUpTo_18 d a0 a2 a3 a4 h =
  (if a4 ≤ a2 then
    ((C4_seesAt d a0 a4 h).bind fun q1 =>
    (if q1.1 = 0 then
      L4_seenUpTo_18 d a0 a2 (zv_w (a3 + (0 : Int))) (zv_w (a4 + 1)) q1.2
    else
      L4_seenUpTo_18 d a0 a2 (zv_w (a3 + (1 : Int))) (zv_w (a4 + 1)) q1.2))
  else
    (some (some (zv_i a3), h))) := (zv_lim_eq _ _ _ _ _ _).trans rfl
set_option maxRecDepth 100000 in
theorem qE4_outOfForce (d : Nat) (a0 : Nat) (h : zv_H) : E4_outOfForce d a0 h =
  ((zv_gJ h a0 4 8).bind fun v1 =>
  ((zv_gJ h a0 4 9).bind fun v2 =>
  (some (some (zv_j (v1 &&& (v2 ^^^ (-1 : Int64)))), h)))) := (zv_lim_eq _ _ _ _ _ _).trans rfl
set_option maxRecDepth 100000 in
theorem qE4_cutsInForce (d : Nat) (a0 : Nat) (a1 : Int) (h : zv_H) : E4_cutsInForce d a0 a1 h =
  L4_cutsInForce_4 d a0 a1 (0 : Int) (0 : Int) h := (zv_lim_eq _ _ _ _ _ _).trans rfl
set_option maxRecDepth 100000 in
theorem qL4_cutsInForce_4 (d : Nat) (a0 : Nat) (a1 : Int) (a2 : Int) (a3 : Int) (h : zv_H) : L4_cutsInForce_4 d a0 a1 a2 a3 h =
  ((zv_gI h a0 4 5).bind fun v1 =>
  (if a3 < v1 then
    ((zv_gR h a0 4 0).bind fun v2 =>
    ((zv_aR h v2 a3).bind fun v3 =>
    (if v3 = 0 then
      L4_cutsInForce_4 d a0 a1 a2 (zv_w (a3 + 1)) h
    else
      ((zv_gJ h a0 4 9).bind fun v4 =>
      ((C5_bit d v3 h).bind fun q5 =>
      (if (zv_lcmp (v4 &&& q5.1) (Int64.ofNat 0)) = 0 then
        L4_cutsInForce_4 d a0 a1 a2 (zv_w (a3 + 1)) q5.2
      else
        ((C5_tookIt d v3 a1 q5.2).bind fun q6 =>
        (if q6.1 = 0 then
          L4_cutsInForce_4 d a0 a1 a2 (zv_w (a3 + 1)) q6.2
        else
          L4_cutsInForce_4 d a0 a1 (zv_w (a2 + 1)) (zv_w (a3 + 1)) q6.2))))))))
  else
    (some (some (zv_i a2), h)))) := (zv_lim_eq _ _ _ _ _ _).trans rfl
set_option maxRecDepth 100000 in
theorem qE4_lastCut (d : Nat) (a0 : Nat) (a1 : Int) (h : zv_H) : E4_lastCut d a0 a1 h =
  ((zv_gI h a0 4 5).bind fun v1 =>
  L4_lastCut_7 d a0 a1 (zv_w (v1 - (1 : Int))) h) := (zv_lim_eq _ _ _ _ _ _).trans rfl
set_option maxRecDepth 100000 in
theorem qL4_lastCut_7 (d : Nat) (a0 : Nat) (a1 : Int) (a2 : Int) (h : zv_H) : L4_lastCut_7 d a0 a1 a2 h =
  (if a2 < 0 then
    (some (some (zv_i (-1 : Int)), h))
  else
    ((zv_gR h a0 4 0).bind fun v1 =>
    ((zv_aR h v1 a2).bind fun v2 =>
    (if v2 = 0 then
      L4_lastCut_7 d a0 a1 (zv_w (a2 + (-1))) h
    else
      ((zv_gR h a0 4 0).bind fun v3 =>
      ((zv_aR h v3 a2).bind fun v4 =>
      ((C5_tookIt d v4 a1 h).bind fun q5 =>
      (if q5.1 = 0 then
        L4_lastCut_7 d a0 a1 (zv_w (a2 + (-1))) q5.2
      else
        ((zv_gR q5.2 a0 4 0).bind fun v6 =>
        ((zv_aR q5.2 v6 a2).bind fun v7 =>
        ((zv_gI q5.2 v7 5 0).bind fun v8 =>
        (some (some (zv_i v8), q5.2))))))))))))) := (zv_lim_eq _ _ _ _ _ _).trans rfl
set_option maxRecDepth 100000 in
theorem qE4_leaningOn (d : Nat) (a0 : Nat) (a1 : Nat) (h : zv_H) : E4_leaningOn d a0 a1 h =
  ((C5_bit d a1 h).bind fun q1 =>
  L4_leaningOn_8 d a0 a1 q1.1 (0 : Int) q1.2) := (zv_lim_eq _ _ _ _ _ _).trans rfl
set_option maxRecDepth 100000 in
theorem qL4_leaningOn_8 (d : Nat) (a0 : Nat) (a1 : Nat) (a2 : Int64) (a4 : Int) (h : zv_H) : L4_leaningOn_8 d a0 a1 a2 a4 h =
  ((zv_gI h a0 4 5).bind fun v1 =>
  (if a4 < v1 then
    ((zv_gR h a0 4 0).bind fun v2 =>
    ((zv_aR h v2 a4).bind fun v3 =>
    (if v3 = 0 then
      L4_leaningOn_8 d a0 a1 a2 (zv_w (a4 + 1)) h
    else
      ((zv_gI h v3 5 10).bind fun v4 =>
      ((zv_gI h a1 5 10).bind fun v5 =>
      (if v4 ≤ v5 then
        L4_leaningOn_8 d a0 a1 a2 (zv_w (a4 + 1)) h
      else
        ((zv_gJ h v3 5 17).bind fun v6 =>
        (if (zv_lcmp (v6 &&& a2) (Int64.ofNat 0)) = 0 then
          L4_leaningOn_8 d a0 a1 a2 (zv_w (a4 + 1)) h
        else
          ((C5_bit d v3 h).bind fun q7 =>
          L4_leaningOn_8 d a0 a1 (a2 ||| q7.1) (zv_w (a4 + 1)) q7.2)))))))))
  else
    (some (some (zv_j a2), h)))) := (zv_lim_eq _ _ _ _ _ _).trans rfl
set_option maxRecDepth 100000 in
theorem qE4_groundOf (d : Nat) (a0 : Nat) (a1 : Nat) (h : zv_H) : E4_groundOf d a0 a1 h =
  ((C5_bit d a1 h).bind fun q1 =>
  L4_groundOf_8 d q1.1 a1 q1.2) := (zv_lim_eq _ _ _ _ _ _).trans rfl
set_option maxRecDepth 100000 in
theorem qL4_groundOf_8 (d : Nat) (a2 : Int64) (a4 : Nat) (h : zv_H) : L4_groundOf_8 d a2 a4 h =
  (if a4 = 0 then
    (some (some (zv_j a2), h))
  else
    ((C5_bit d a4 h).bind fun q1 =>
    (if (zv_lcmp (a2 &&& q1.1) (Int64.ofNat 0)) = 0 then
      ((zv_gR q1.2 a4 5 4).bind fun v2 =>
      L4_groundOf_8 d a2 v2 q1.2)
    else
      ((zv_gJ q1.2 a4 5 17).bind fun v3 =>
      ((zv_gR q1.2 a4 5 4).bind fun v4 =>
      L4_groundOf_8 d (a2 ||| v3) v4 q1.2))))) := (zv_lim_eq _ _ _ _ _ _).trans rfl
end
section
set_option maxRecDepth 100000 in
theorem qE8_init (d : Nat) (a0 : Nat) (h : zv_H) : E8_init d a0 h =
  (if a0 = 0 then none else
  ((zv_nA h 2 (160 : Int)).bind fun g1 =>
  ((zv_pR g1 a0 8 0 (zv_n h + 1)).bind fun g2 =>
  ((zv_nO g2 7).bind fun g3 =>
  ((C7_init d (zv_n g2 + 1) g3).bind fun g4 =>
  ((zv_pR g4 a0 8 1 (zv_n g2 + 1)).bind fun g5 =>
  ((zv_nO g5 3).bind fun g6 =>
  ((C3_init d (zv_n g5 + 1) g6).bind fun g7 =>
  ((zv_pR g7 a0 8 2 (zv_n g5 + 1)).bind fun g8 =>
  ((zv_nO g8 0).bind fun g9 =>
  ((C0_init d (zv_n g8 + 1) g9).bind fun g10 =>
  ((zv_pR g10 a0 8 3 (zv_n g8 + 1)).bind fun g11 =>
  ((zv_nO g11 0).bind fun g12 =>
  ((C0_init d (zv_n g11 + 1) g12).bind fun g13 =>
  ((zv_pR g13 a0 8 4 (zv_n g11 + 1)).bind fun g14 =>
  ((zv_pI g14 a0 8 5 (0 : Int)).bind fun g15 =>
  ((zv_pI g15 a0 8 6 (0 : Int)).bind fun g16 =>
  ((zv_pZ g16 a0 8 7 (0 : Int)).bind fun g17 =>
  (some (none, g17)))))))))))))))))))) := (zv_lim_eq _ _ _ _ _ _).trans rfl
set_option maxRecDepth 100000 in
theorem qE8_refused (d : Nat) (a0 : Nat) (a1 : Int) (h : zv_H) : E8_refused d a0 a1 h =
  ((zv_pI h a0 8 6 a1).bind fun g1 =>
  (some (some (zv_i (-1 : Int)), g1))) := (zv_lim_eq _ _ _ _ _ _).trans rfl
set_option maxRecDepth 100000 in
theorem qE8_given (d : Nat) (a0 : Nat) (a1 : Int) (h : zv_H) : E8_given d a0 a1 h =
  ((zv_pI h a0 8 6 (0 : Int)).bind fun g1 =>
  (some (some (zv_i a1), g1))) := (zv_lim_eq _ _ _ _ _ _).trans rfl
set_option maxRecDepth 100000 in
theorem qE8_answered (d : Nat) (a0 : Nat) (a1 : Int) (h : zv_H) : E8_answered d a0 a1 h =
  (if a1 < 0 then
    ((C8_refused d a0 (zv_w (-a1)) h).bind fun q1 =>
    (some (some (zv_i q1.1), q1.2)))
  else
    ((C8_given d a0 a1 h).bind fun q2 =>
    (some (some (zv_i q2.1), q2.2)))) := (zv_lim_eq _ _ _ _ _ _).trans rfl
set_option maxRecDepth 100000 in
theorem qE8_within (d : Nat) (a0 : Int) (a1 : Int) (a2 : Int) (h : zv_H) : E8_within d a0 a1 a2 h =
  (if a0 < a1 then
    (some (some (zv_i (0 : Int)), h))
  else
    (if a0 ≤ a2 then
      (some (some (zv_i (1 : Int)), h))
    else
      (some (some (zv_i (0 : Int)), h)))) := (zv_lim_eq _ _ _ _ _ _).trans rfl
set_option maxRecDepth 100000 in
theorem qE8_status (d : Nat) (a0 : Nat) (h : zv_H) : E8_status d a0 h =
  ((zv_gI h a0 8 6).bind fun v1 =>
  (some (some (zv_i v1), h))) := (zv_lim_eq _ _ _ _ _ _).trans rfl
set_option maxRecDepth 100000 in
theorem qE8_feed (d : Nat) (a0 : Nat) (a1 : Int) (a2 : Int) (a3 : Int) (a4 : Int) (a5 : Int) (h : zv_H) : E8_feed d a0 a1 a2 a3 a4 a5 h =
  ((zv_gR h a0 8 2).bind fun v1 =>
  ((zv_gI h v1 3 2).bind fun v2 =>
  (if (zv_w (v2 + (20 : Int))) ≤ (700 : Int) then
    ((C8_feedInt d a0 a1 h).bind fun g3 =>
    ((C8_feedInt d a0 a2 g3).bind fun g4 =>
    ((C8_feedInt d a0 a3 g4).bind fun g5 =>
    ((C8_feedInt d a0 a4 g5).bind fun g6 =>
    ((C8_feedInt d a0 a5 g6).bind fun g7 =>
    ((zv_gR g7 a0 8 2).bind fun v8 =>
    ((zv_gI g7 v8 3 2).bind fun v9 =>
    (some (some (zv_i v9), g7)))))))))
  else
    (some (some (zv_i (-1 : Int)), h))))) := (zv_lim_eq _ _ _ _ _ _).trans rfl
set_option maxRecDepth 100000 in
theorem qE8_feedInt (d : Nat) (a0 : Nat) (a1 : Int) (h : zv_H) : E8_feedInt d a0 a1 h =
  L8_feedInt_3 d a0 a1 (24 : Int) h := (zv_lim_eq _ _ _ _ _ _).trans rfl
set_option maxRecDepth 100000 in
theorem qL8_feedInt_3 (d : Nat) (a0 : Nat) (a1 : Int) (a2 : Int) (h : zv_H) : L8_feedInt_3 d a0 a1 a2 h =
  (if a2 < 0 then
    (some (none, h))
  else
    ((zv_gR h a0 8 2).bind fun v1 =>
    ((C3_addByte d v1 (zv_and (zv_ushr a1 a2) (255 : Int)) h).bind fun g2 =>
    L8_feedInt_3 d a0 a1 (zv_w (a2 + (-8))) g2))) := (zv_lim_eq _ _ _ _ _ _).trans rfl
set_option maxRecDepth 100000 in
theorem qE8_fault (d : Nat) (a0 : Nat) (a1 : Int) (h : zv_H) : E8_fault d a0 a1 h =
  ((zv_gI h a0 8 7).bind fun v1 =>
  (if v1 = 0 then
    (some (some (zv_i (-1 : Int)), h))
  else
    ((C8_within d a1 (0 : Int) (1 : Int) h).bind fun q2 =>
    (if q2.1 = 0 then
      (some (some (zv_i (-1 : Int)), q2.2))
    else
      (if a1 = 0 then
        ((zv_gR q2.2 a0 8 2).bind fun v3 =>
        ((zv_gI q2.2 v3 3 8).bind fun v4 =>
        (some (some (zv_i v4), q2.2))))
      else
        ((zv_gR q2.2 a0 8 2).bind fun v5 =>
        ((zv_gI q2.2 v5 3 9).bind fun v6 =>
        (some (some (zv_i v6), q2.2))))))))) := (zv_lim_eq _ _ _ _ _ _).trans rfl
set_option maxRecDepth 100000 in
theorem qE8_type (d : Nat) (a0 : Nat) (a1 : Int) (a2 : Int) (h : zv_H) : E8_type d a0 a1 a2 h =
  L8_type_2 d a0 a1 a2 (0 : Int) h := (zv_lim_eq _ _ _ _ _ _).trans rfl
set_option maxRecDepth 100000 in
theorem qL8_type_2 (d : Nat) (a0 : Nat) (a1 : Int) (a2 : Int) (a3 : Int) (h : zv_H) : L8_type_2 d a0 a1 a2 a3 h =
  (if a3 < (12 : Int) then
    ((C8_typedLetter d a1 a2 a3 h).bind fun q1 =>
    (if q1.1 = 0 then
      L8_type_36 d a0 a1 a2 a3 q1.2
    else
      ((C8_typedLetter d a1 a2 a3 q1.2).bind fun q2 =>
      (if q2.1 ≤ (26 : Int) then
        L8_type_2 d a0 a1 a2 (zv_w (a3 + 1)) q2.2
      else
        (some (some (zv_i (-1 : Int)), q2.2))))))
  else
    L8_type_36 d a0 a1 a2 a3 h) := (zv_lim_eq _ _ _ _ _ _).trans rfl
set_option maxRecDepth 100000 in
theorem qL8_type_36 (d : Nat) (a0 : Nat) (a1 : Int) (a2 : Int) (a3 : Int) (h : zv_H) : L8_type_36 d a0 a1 a2 a3 h =
  ((zv_gR h a0 8 1).bind fun v1 =>
  ((C7_clear d v1 h).bind fun g2 =>
  L8_type_46 d a0 a1 a2 a3 (0 : Int) g2)) := (zv_lim_eq _ _ _ _ _ _).trans rfl
set_option maxRecDepth 100000 in
theorem qL8_type_46 (d : Nat) (a0 : Nat) (a1 : Int) (a2 : Int) (a3 : Int) (a4 : Int) (h : zv_H) : L8_type_46 d a0 a1 a2 a3 a4 h =
  (if a4 < a3 then
    ((zv_gR h a0 8 1).bind fun v1 =>
    ((C8_typedLetter d a1 a2 a4 h).bind fun q2 =>
    ((C7_add d v1 (zv_w (q2.1 - (1 : Int))) q2.2).bind fun g3 =>
    L8_type_46 d a0 a1 a2 a3 (zv_w (a4 + 1)) g3)))
  else
    (some (some (zv_i a3), h))) := (zv_lim_eq _ _ _ _ _ _).trans rfl
set_option maxRecDepth 100000 in
theorem qE8_typedLetter (d : Nat) (a0 : Int) (a1 : Int) (a2 : Int) (h : zv_H) : E8_typedLetter d a0 a1 a2 h =
  (if a2 < (6 : Int) then
    (some (some (zv_i (zv_and (zv_ushr a0 (zv_w ((5 : Int) * a2))) (31 : Int))), h))
  else
    (some (some (zv_i (zv_and (zv_ushr a1 (zv_w ((5 : Int) * (zv_w (a2 - (6 : Int)))))) (31 : Int))), h))) := (zv_lim_eq _ _ _ _ _ _).trans rfl
set_option maxRecDepth 100000 in
theorem qE8_load (d : Nat) (a0 : Nat) (a1 : Int) (h : zv_H) : E8_load d a0 a1 h =
  ((zv_gR h a0 8 2).bind fun v1 =>
  ((zv_gI h v1 3 2).bind fun v2 =>
  ((C8_within d a1 (0 : Int) v2 h).bind fun q3 =>
  (if q3.1 = 0 then
    ((C8_refused d a0 (1 : Int) q3.2).bind fun q4 =>
    (some (some (zv_i q4.1), q4.2)))
  else
    ((zv_pZ q3.2 a0 8 7 (1 : Int)).bind fun g5 =>
    ((zv_gR g5 a0 8 4).bind fun v6 =>
    ((C0_begin d v6 g5).bind fun g7 =>
    ((zv_gR g7 a0 8 2).bind fun v8 =>
    ((C3_begin d v8 a1 g7).bind fun g9 =>
    ((zv_gR g9 a0 8 2).bind fun v10 =>
    ((zv_gR g9 a0 8 4).bind fun v11 =>
    ((C3_head d v10 v11 g9).bind fun g12 =>
    L8_load_54 d a0 a1 (0 : Int) g12)))))))))))) := (zv_lim_eq _ _ _ _ _ _).trans rfl
set_option maxRecDepth 100000 in
theorem qL8_load_54 (d : Nat) (a0 : Nat) (a1 : Int) (a2 : Int) (h : zv_H) : L8_load_54 d a0 a1 a2 h =
  (if a2 ≤ a1 then
    ((zv_gR h a0 8 2).bind fun v1 =>
    ((C3_more d v1 h).bind fun q2 =>
    (if q2.1 = 0 then
      L8_load_117 d a0 q2.2
    else
      ((zv_gR q2.2 a0 8 2).bind fun v3 =>
      ((C3_line d v3 q2.2).bind fun q4 =>
      (if q4.1 = 0 then
        L8_load_54 d a0 a1 (zv_w (a2 + 1)) q4.2
      else
        ((zv_gR q4.2 a0 8 4).bind fun v5 =>
        ((C8_done d a0 v5 q4.2).bind fun q6 =>
        (if q6.1 < 0 then
          ((zv_gR q6.2 a0 8 2).bind fun v7 =>
          ((C3_fail d v7 (7 : Int) q6.2).bind fun q8 =>
          L8_load_54 d a0 a1 (zv_w (a2 + 1)) q8.2))
        else
          ((zv_gR q6.2 a0 8 2).bind fun v9 =>
          ((C3_next d v9 q6.2).bind fun q10 =>
          L8_load_54 d a0 a1 (zv_w (a2 + 1)) q10.2)))))))))))
  else
    L8_load_117 d a0 h) := (zv_lim_eq _ _ _ _ _ _).trans rfl
set_option maxRecDepth 100000 in
theorem qL8_load_117 (d : Nat) (a0 : Nat) (h : zv_H) : L8_load_117 d a0 h =
  ((zv_gR h a0 8 2).bind fun v1 =>
  ((zv_gI h v1 3 8).bind fun v2 =>
  (if v2 = 0 then
    ((zv_gR h a0 8 3).bind fun v3 =>
    ((zv_gR h a0 8 4).bind fun v4 =>
    ((zv_pR h a0 8 3 v4).bind fun g5 =>
    ((zv_pR g5 a0 8 4 v3).bind fun g6 =>
    ((zv_gR g6 a0 8 3).bind fun v7 =>
    ((zv_gI g6 v7 0 12).bind fun v8 =>
    ((C8_given d a0 v8 g6).bind fun q9 =>
    (some (some (zv_i q9.1), q9.2)))))))))
  else
    ((C8_refused d a0 (9 : Int) h).bind fun q10 =>
    (some (some (zv_i q10.1), q10.2)))))) := (zv_lim_eq _ _ _ _ _ _).trans rfl
set_option maxRecDepth 100000 in
theorem qE8_done (d : Nat) (a0 : Nat) (a1 : Nat) (h : zv_H) : E8_done d a0 a1 h =
  ((zv_gR h a0 8 2).bind fun v1 =>
  ((zv_gI h v1 3 10).bind fun v2 =>
  (if v2 = (0 : Int) then
    ((zv_gR h a0 8 2).bind fun v3 =>
    ((zv_gI h v3 3 11).bind fun v4 =>
    ((zv_gR h a0 8 2).bind fun v5 =>
    ((zv_gR h v5 3 1).bind fun v6 =>
    ((C0_putWord d a1 v4 v6 h).bind fun q7 =>
    (some (some (zv_i q7.1), q7.2)))))))
  else
  if v2 = (1 : Int) then
    ((zv_gR h a0 8 2).bind fun v8 =>
    ((zv_gI h v8 3 11).bind fun v9 =>
    ((zv_gR h a0 8 2).bind fun v10 =>
    ((zv_gI h v10 3 12).bind fun v11 =>
    ((C0_cutOut d a1 v9 v11 h).bind fun q12 =>
    (some (some (zv_i q12.1), q12.2)))))))
  else
  if v2 = (2 : Int) then
    ((zv_gR h a0 8 2).bind fun v13 =>
    ((zv_gI h v13 3 11).bind fun v14 =>
    ((C0_passTime d a1 v14 h).bind fun q15 =>
    (some (some (zv_i q15.1), q15.2)))))
  else
  if v2 = (3 : Int) then
    ((C0_stepBack d a1 h).bind fun q16 =>
    (some (some (zv_i q16.1), q16.2)))
  else
  if v2 = (4 : Int) then
    ((C0_stepOn d a1 h).bind fun q17 =>
    (some (some (zv_i q17.1), q17.2)))
  else
  if v2 = (5 : Int) then
    ((zv_gR h a0 8 2).bind fun v18 =>
    ((zv_gI h v18 3 11).bind fun v19 =>
    ((C0_goTo d a1 v19 h).bind fun q20 =>
    (some (some (zv_i q20.1), q20.2)))))
  else
  if v2 = (6 : Int) then
    ((zv_gR h a0 8 2).bind fun v21 =>
    ((zv_gR h v21 3 1).bind fun v22 =>
    ((C7_key d v22 h).bind fun q23 =>
    ((C0_nameHere d a1 q23.1 q23.2).bind fun q24 =>
    (some (some (zv_i q24.1), q24.2))))))
  else
  if v2 = (7 : Int) then
    ((zv_gR h a0 8 2).bind fun v25 =>
    ((zv_gI h v25 3 11).bind fun v26 =>
    ((C0_takeBack d a1 v26 h).bind fun q27 =>
    (some (some (zv_i q27.1), q27.2)))))
  else
  if v2 = (8 : Int) then
    ((zv_gR h a0 8 2).bind fun v28 =>
    ((zv_gI h v28 3 11).bind fun v29 =>
    ((C0_giveBack d a1 v29 h).bind fun q30 =>
    (some (some (zv_i q30.1), q30.2)))))
  else
  if v2 = (9 : Int) then
    ((zv_gR h a0 8 2).bind fun v31 =>
    ((zv_gI h v31 3 11).bind fun v32 =>
    ((C0_carryOver d a1 v32 h).bind fun q33 =>
    (some (some (zv_i q33.1), q33.2)))))
  else
  if v2 = (10 : Int) then
    ((zv_gR h a0 8 2).bind fun v34 =>
    ((zv_gI h v34 3 11).bind fun v35 =>
    ((C0_mergeIn d a1 v35 h).bind fun q36 =>
    (some (some (zv_i q36.1), q36.2)))))
  else
  if v2 = (11 : Int) then
    ((zv_gR h a0 8 2).bind fun v37 =>
    ((zv_gI h v37 3 11).bind fun v38 =>
    ((C0_pruneTo d a1 v38 h).bind fun q39 =>
    (some (some (zv_i q39.1), q39.2)))))
  else
    (some (some (zv_i (-1 : Int)), h))))) := (zv_lim_eq _ _ _ _ _ _).trans rfl
set_option maxRecDepth 100000 in
theorem qE8_many (d : Nat) (a0 : Nat) (a1 : Int) (h : zv_H) : E8_many d a0 a1 h =
  (if a1 = (0 : Int) then
    ((zv_gR h a0 8 3).bind fun v1 =>
    ((zv_gI h v1 0 12).bind fun v2 =>
    ((C8_given d a0 v2 h).bind fun q3 =>
    (some (some (zv_i q3.1), q3.2)))))
  else
  if a1 = (1 : Int) then
    ((zv_gR h a0 8 3).bind fun v4 =>
    ((zv_gR h v4 0 10).bind fun v5 =>
    ((zv_gI h v5 5 0).bind fun v6 =>
    ((C8_given d a0 v6 h).bind fun q7 =>
    (some (some (zv_i q7.1), q7.2))))))
  else
  if a1 = (2 : Int) then
    ((zv_gR h a0 8 3).bind fun v8 =>
    ((zv_gI h v8 0 11).bind fun v9 =>
    ((C8_given d a0 v9 h).bind fun q10 =>
    (some (some (zv_i q10.1), q10.2)))))
  else
  if a1 = (3 : Int) then
    ((zv_gR h a0 8 3).bind fun v11 =>
    ((zv_gR h v11 0 10).bind fun v12 =>
    ((zv_gI h v12 5 12).bind fun v13 =>
    ((C8_given d a0 v13 h).bind fun q14 =>
    (some (some (zv_i q14.1), q14.2))))))
  else
  if a1 = (4 : Int) then
    ((zv_gR h a0 8 3).bind fun v15 =>
    ((C0_rowOfHere d v15 h).bind fun q16 =>
    ((zv_gI q16.2 q16.1 4 6).bind fun v17 =>
    ((C8_given d a0 v17 q16.2).bind fun q18 =>
    (some (some (zv_i q18.1), q18.2))))))
  else
  if a1 = (5 : Int) then
    ((zv_gR h a0 8 3).bind fun v19 =>
    ((zv_gR h v19 0 6).bind fun v20 =>
    ((zv_gI h v20 2 2).bind fun v21 =>
    ((C8_given d a0 v21 h).bind fun q22 =>
    (some (some (zv_i q22.1), q22.2))))))
  else
  if a1 = (6 : Int) then
    ((zv_gR h a0 8 3).bind fun v23 =>
    ((C0_leaves d v23 h).bind fun q24 =>
    ((C8_given d a0 q24.1 q24.2).bind fun q25 =>
    (some (some (zv_i q25.1), q25.2)))))
  else
  if a1 = (7 : Int) then
    ((zv_gR h a0 8 3).bind fun v26 =>
    ((C0_groups d v26 h).bind fun q27 =>
    ((C8_given d a0 q27.1 q27.2).bind fun q28 =>
    (some (some (zv_i q28.1), q28.2)))))
  else
  if a1 = (8 : Int) then
    ((zv_gR h a0 8 3).bind fun v29 =>
    ((C0_rowOfHere d v29 h).bind fun q30 =>
    ((C4_outOfForce d q30.1 q30.2).bind fun q31 =>
    ((CJ_bitc d q31.1 q31.2).bind fun q32 =>
    ((C8_given d a0 q32.1 q32.2).bind fun q33 =>
    (some (some (zv_i q33.1), q33.2)))))))
  else
  if a1 = (9 : Int) then
    ((zv_gR h a0 8 3).bind fun v34 =>
    ((zv_gR h v34 0 7).bind fun v35 =>
    ((zv_gI h v35 6 4).bind fun v36 =>
    ((C8_given d a0 v36 h).bind fun q37 =>
    (some (some (zv_i q37.1), q37.2))))))
  else
    ((C8_refused d a0 (1 : Int) h).bind fun q38 =>
    (some (some (zv_i q38.1), q38.2)))) := (zv_lim_eq _ _ _ _ _ _).trans rfl
set_option maxRecDepth 100000 in
theorem qE8_letter (d : Nat) (a0 : Nat) (a1 : Int) (a2 : Int) (h : zv_H) : E8_letter d a0 a1 a2 h =
  (if a2 < 0 then
    ((C8_refused d a0 (1 : Int) h).bind fun q1 =>
    (some (some (zv_i q1.1), q1.2)))
  else
    ((zv_gR h a0 8 3).bind fun v2 =>
    ((C0_at d v2 a1 h).bind fun q3 =>
    (if q3.1 = 0 then
      ((C8_refused d a0 (2 : Int) q3.2).bind fun q4 =>
      (some (some (zv_i q4.1), q4.2)))
    else
      ((zv_gI q3.2 q3.1 5 12).bind fun v5 =>
      (if a2 < v5 then
        ((zv_gR q3.2 a0 8 3).bind fun v6 =>
        ((C0_letterAt d v6 q3.1 a2 q3.2).bind fun q7 =>
        ((C8_given d a0 q7.1 q7.2).bind fun q8 =>
        (some (some (zv_i q8.1), q8.2)))))
      else
        ((C8_refused d a0 (5 : Int) q3.2).bind fun q9 =>
        (some (some (zv_i q9.1), q9.2))))))))) := (zv_lim_eq _ _ _ _ _ _).trans rfl
set_option maxRecDepth 100000 in
theorem qE8_state (d : Nat) (a0 : Nat) (a1 : Int) (a2 : Int) (h : zv_H) : E8_state d a0 a1 a2 h =
  ((C8_within d a2 (0 : Int) (9 : Int) h).bind fun q1 =>
  (if q1.1 = 0 then
    ((C8_refused d a0 (1 : Int) q1.2).bind fun q2 =>
    (some (some (zv_i q2.1), q2.2)))
  else
    ((zv_gR q1.2 a0 8 3).bind fun v3 =>
    ((C0_at d v3 a1 q1.2).bind fun q4 =>
    (if q4.1 = 0 then
      ((C8_refused d a0 (2 : Int) q4.2).bind fun q5 =>
      (some (some (zv_i q5.1), q5.2)))
    else
      (if a2 = (0 : Int) then
        ((zv_gR q4.2 q4.1 5 4).bind fun v6 =>
        (if v6 = 0 then
          L8_state_107 d a0 (-1 : Int) q4.2
        else
          ((zv_gR q4.2 q4.1 5 4).bind fun v7 =>
          ((zv_gI q4.2 v7 5 0).bind fun v8 =>
          L8_state_107 d a0 v8 q4.2))))
      else
      if a2 = (1 : Int) then
        ((zv_gI q4.2 q4.1 5 6).bind fun v9 =>
        ((C8_given d a0 v9 q4.2).bind fun q10 =>
        (some (some (zv_i q10.1), q10.2))))
      else
      if a2 = (2 : Int) then
        ((zv_gI q4.2 q4.1 5 7).bind fun v11 =>
        ((C8_given d a0 v11 q4.2).bind fun q12 =>
        (some (some (zv_i q12.1), q12.2))))
      else
      if a2 = (3 : Int) then
        ((zv_gI q4.2 q4.1 5 8).bind fun v13 =>
        ((C8_given d a0 v13 q4.2).bind fun q14 =>
        (some (some (zv_i q14.1), q14.2))))
      else
      if a2 = (4 : Int) then
        ((zv_gI q4.2 q4.1 5 9).bind fun v15 =>
        ((C8_given d a0 v15 q4.2).bind fun q16 =>
        (some (some (zv_i q16.1), q16.2))))
      else
      if a2 = (5 : Int) then
        ((zv_gR q4.2 q4.1 5 5).bind fun v17 =>
        (if v17 = 0 then
          L8_state_166 d a0 (-1 : Int) q4.2
        else
          ((zv_gR q4.2 q4.1 5 5).bind fun v18 =>
          ((zv_gI q4.2 v18 5 0).bind fun v19 =>
          L8_state_166 d a0 v19 q4.2))))
      else
      if a2 = (6 : Int) then
        ((zv_gI q4.2 q4.1 5 11).bind fun v20 =>
        ((C8_given d a0 v20 q4.2).bind fun q21 =>
        (some (some (zv_i q21.1), q21.2))))
      else
      if a2 = (7 : Int) then
        ((zv_gI q4.2 q4.1 5 10).bind fun v22 =>
        ((C8_given d a0 v22 q4.2).bind fun q23 =>
        (some (some (zv_i q23.1), q23.2))))
      else
      if a2 = (8 : Int) then
        ((zv_gI q4.2 q4.1 5 12).bind fun v24 =>
        ((C8_given d a0 v24 q4.2).bind fun q25 =>
        (some (some (zv_i q25.1), q25.2))))
      else
        ((zv_gR q4.2 a0 8 3).bind fun v26 =>
        ((zv_gR q4.2 v26 0 6).bind fun v27 =>
        ((zv_gI q4.2 q4.1 5 0).bind fun v28 =>
        ((C2_countOf d v27 v28 q4.2).bind fun q29 =>
        ((C8_given d a0 q29.1 q29.2).bind fun q30 =>
        (some (some (zv_i q30.1), q30.2))))))))))))) := (zv_lim_eq _ _ _ _ _ _).trans rfl
set_option maxRecDepth 100000 in
theorem qL8_state_107 (d : Nat) (e0 : Nat) (e1 : Int) (h : zv_H) : L8_state_107 d e0 e1 h =
  ((C8_given d e0 e1 h).bind fun q1 =>
  (some (some (zv_i q1.1), q1.2))) := (zv_lim_eq _ _ _ _ _ _).trans rfl
set_option maxRecDepth 100000 in
theorem qL8_state_166 (d : Nat) (e0 : Nat) (e1 : Int) (h : zv_H) : L8_state_166 d e0 e1 h =
  ((C8_given d e0 e1 h).bind fun q1 =>
  (some (some (zv_i q1.1), q1.2))) := (zv_lim_eq _ _ _ _ _ _).trans rfl
set_option maxRecDepth 100000 in
theorem qE8_child (d : Nat) (a0 : Nat) (a1 : Int) (a2 : Int) (h : zv_H) : E8_child d a0 a1 a2 h =
  (if a2 < 0 then
    ((C8_refused d a0 (1 : Int) h).bind fun q1 =>
    (some (some (zv_i q1.1), q1.2)))
  else
    ((zv_gR h a0 8 3).bind fun v2 =>
    ((C0_at d v2 a1 h).bind fun q3 =>
    (if q3.1 = 0 then
      ((C8_refused d a0 (2 : Int) q3.2).bind fun q4 =>
      (some (some (zv_i q4.1), q4.2)))
    else
      ((zv_gR q3.2 a0 8 3).bind fun v5 =>
      ((C0_childOf d v5 q3.1 a2 q3.2).bind fun q6 =>
      (if q6.1 = 0 then
        ((C8_refused d a0 (5 : Int) q6.2).bind fun q7 =>
        (some (some (zv_i q7.1), q7.2)))
      else
        ((zv_gI q6.2 q6.1 5 0).bind fun v8 =>
        ((C8_given d a0 v8 q6.2).bind fun q9 =>
        (some (some (zv_i q9.1), q9.2))))))))))) := (zv_lim_eq _ _ _ _ _ _).trans rfl
set_option maxRecDepth 100000 in
theorem qE8_force (d : Nat) (a0 : Nat) (a1 : Int) (a2 : Int) (h : zv_H) : E8_force d a0 a1 a2 h =
  ((zv_gR h a0 8 3).bind fun v1 =>
  ((C0_at d v1 a1 h).bind fun q2 =>
  ((zv_gR q2.2 a0 8 3).bind fun v3 =>
  ((C0_at d v3 a2 q2.2).bind fun q4 =>
  (if q2.1 = 0 then
    L8_force_28 d a0 q4.2
  else
    (if q4.1 = 0 then
      L8_force_28 d a0 q4.2
    else
      ((zv_gR q4.2 a0 8 3).bind fun v5 =>
      ((zv_gR q4.2 v5 0 5).bind fun v6 =>
      ((C4_walk d v6 q4.1 q4.2).bind fun g7 =>
      ((zv_gJ g7 v6 4 8).bind fun v8 =>
      ((C5_bit d q2.1 g7).bind fun q9 =>
      (if (zv_lcmp (v8 &&& q9.1) (Int64.ofNat 0)) = 0 then
        ((C8_refused d a0 (5 : Int) q9.2).bind fun q10 =>
        (some (some (zv_i q10.1), q10.2)))
      else
        ((zv_gJ q9.2 v6 4 9).bind fun v11 =>
        ((C5_bit d q2.1 q9.2).bind fun q12 =>
        (if (zv_lcmp (v11 &&& q12.1) (Int64.ofNat 0)) = 0 then
          L8_force_92 d a0 (0 : Int) q12.2
        else
          L8_force_92 d a0 (1 : Int) q12.2))))))))))))))) := (zv_lim_eq _ _ _ _ _ _).trans rfl
set_option maxRecDepth 100000 in
theorem qL8_force_28 (d : Nat) (a0 : Nat) (h : zv_H) : L8_force_28 d a0 h =
  ((C8_refused d a0 (2 : Int) h).bind fun q1 =>
  (some (some (zv_i q1.1), q1.2))) := (zv_lim_eq _ _ _ _ _ _).trans rfl
set_option maxRecDepth 100000 in
theorem qL8_force_92 (d : Nat) (e0 : Nat) (e1 : Int) (h : zv_H) : L8_force_92 d e0 e1 h =
  ((C8_given d e0 e1 h).bind fun q1 =>
  (some (some (zv_i q1.1), q1.2))) := (zv_lim_eq _ _ _ _ _ _).trans rfl
set_option maxRecDepth 100000 in
theorem qE8_blame (d : Nat) (a0 : Nat) (a1 : Int) (a2 : Int) (h : zv_H) : E8_blame d a0 a1 a2 h =
  (if a1 < 0 then
    L8_blame_13 d a0 h
  else
    ((C8_within d a2 (0 : Int) (2 : Int) h).bind fun q1 =>
    (if q1.1 = 0 then
      L8_blame_13 d a0 q1.2
    else
      ((zv_gR q1.2 a0 8 3).bind fun v2 =>
      ((zv_gR q1.2 v2 0 10).bind fun v3 =>
      ((C5_idAt d v3 a1 q1.2).bind fun q4 =>
      (if q4.1 = (-1 : Int) then
        ((C8_refused d a0 (5 : Int) q4.2).bind fun q5 =>
        (some (some (zv_i q5.1), q5.2)))
      else
        (if a2 = (0 : Int) then
          ((C4_putter d q4.1 q4.2).bind fun q6 =>
          ((C8_given d a0 q6.1 q6.2).bind fun q7 =>
          (some (some (zv_i q7.1), q7.2))))
        else
        if a2 = (1 : Int) then
          ((C4_order d q4.1 q4.2).bind fun q8 =>
          ((C8_given d a0 q8.1 q8.2).bind fun q9 =>
          (some (some (zv_i q9.1), q9.2))))
        else
          ((zv_gR q4.2 a0 8 3).bind fun v10 =>
          ((C0_rowOfHere d v10 q4.2).bind fun q11 =>
          ((C4_placeOf d q11.1 q4.1 q11.2).bind fun q12 =>
          ((C8_given d a0 q12.1 q12.2).bind fun q13 =>
          (some (some (zv_i q13.1), q13.2)))))))))))))) := (zv_lim_eq _ _ _ _ _ _).trans rfl
set_option maxRecDepth 100000 in
theorem qL8_blame_13 (d : Nat) (a0 : Nat) (h : zv_H) : L8_blame_13 d a0 h =
  ((C8_refused d a0 (1 : Int) h).bind fun q1 =>
  (some (some (zv_i q1.1), q1.2))) := (zv_lim_eq _ _ _ _ _ _).trans rfl
set_option maxRecDepth 100000 in
theorem qE8_row (d : Nat) (a0 : Nat) (a1 : Int) (a2 : Int) (h : zv_H) : E8_row d a0 a1 a2 h =
  (if a1 < 0 then
    L8_row_13 d a0 h
  else
    ((C8_within d a2 (0 : Int) (4 : Int) h).bind fun q1 =>
    (if q1.1 = 0 then
      L8_row_13 d a0 q1.2
    else
      ((zv_gR q1.2 a0 8 3).bind fun v2 =>
      ((C0_rowOfHere d v2 q1.2).bind fun q3 =>
      ((C4_idAt d q3.1 a1 q3.2).bind fun q4 =>
      (if q4.1 = (-1 : Int) then
        ((C8_refused d a0 (5 : Int) q4.2).bind fun q5 =>
        (some (some (zv_i q5.1), q5.2)))
      else
        (if a2 = (0 : Int) then
          ((zv_gR q4.2 a0 8 3).bind fun v6 =>
          ((C0_glyph d v6 q4.1 q4.2).bind fun q7 =>
          ((C8_given d a0 q7.1 q7.2).bind fun q8 =>
          (some (some (zv_i q8.1), q8.2)))))
        else
        if a2 = (1 : Int) then
          ((C4_putter d q4.1 q4.2).bind fun q9 =>
          ((C8_given d a0 q9.1 q9.2).bind fun q10 =>
          (some (some (zv_i q10.1), q10.2))))
        else
        if a2 = (2 : Int) then
          ((C4_seesAt d q3.1 a1 q4.2).bind fun q11 =>
          (if q11.1 = 0 then
            L8_row_114 d a0 (0 : Int) q11.2
          else
            L8_row_114 d a0 (1 : Int) q11.2))
        else
        if a2 = (3 : Int) then
          ((C4_cutsInForce d q3.1 q4.1 q4.2).bind fun q12 =>
          ((C8_given d a0 q12.1 q12.2).bind fun q13 =>
          (some (some (zv_i q13.1), q13.2))))
        else
          ((C4_lastCut d q3.1 q4.1 q4.2).bind fun q14 =>
          ((C8_given d a0 q14.1 q14.2).bind fun q15 =>
          (some (some (zv_i q15.1), q15.2)))))))))))) := (zv_lim_eq _ _ _ _ _ _).trans rfl
set_option maxRecDepth 100000 in
theorem qL8_row_13 (d : Nat) (a0 : Nat) (h : zv_H) : L8_row_13 d a0 h =
  ((C8_refused d a0 (1 : Int) h).bind fun q1 =>
  (some (some (zv_i q1.1), q1.2))) := (zv_lim_eq _ _ _ _ _ _).trans rfl
set_option maxRecDepth 100000 in
theorem qL8_row_114 (d : Nat) (e0 : Nat) (e1 : Int) (h : zv_H) : L8_row_114 d e0 e1 h =
  ((C8_given d e0 e1 h).bind fun q1 =>
  (some (some (zv_i q1.1), q1.2))) := (zv_lim_eq _ _ _ _ _ _).trans rfl
set_option maxRecDepth 100000 in
theorem qE8_visit (d : Nat) (a0 : Nat) (a1 : Int) (a2 : Int) (h : zv_H) : E8_visit d a0 a1 a2 h =
  ((C8_within d a1 (0 : Int) (39 : Int) h).bind fun q1 =>
  (if q1.1 = 0 then
    L8_visit_19 d a0 q1.2
  else
    ((C8_within d a2 (0 : Int) (1 : Int) q1.2).bind fun q2 =>
    (if q2.1 = 0 then
      L8_visit_19 d a0 q2.2
    else
      ((zv_gR q2.2 a0 8 3).bind fun v3 =>
      ((zv_gR q2.2 v3 0 7).bind fun v4 =>
      ((zv_gI q2.2 v4 6 4).bind fun v5 =>
      (if a1 < v5 then
        (if a2 = 0 then
          ((zv_gR q2.2 a0 8 3).bind fun v6 =>
          ((zv_gR q2.2 v6 0 7).bind fun v7 =>
          ((C6_stateAt d v7 a1 q2.2).bind fun q8 =>
          L8_visit_75 d a0 q8.1 q8.2)))
        else
          ((zv_gR q2.2 a0 8 3).bind fun v9 =>
          ((zv_gR q2.2 v9 0 7).bind fun v10 =>
          ((C6_timeAt d v10 a1 q2.2).bind fun q11 =>
          L8_visit_75 d a0 q11.1 q11.2))))
      else
        ((C8_refused d a0 (5 : Int) q2.2).bind fun q12 =>
        (some (some (zv_i q12.1), q12.2))))))))))) := (zv_lim_eq _ _ _ _ _ _).trans rfl
set_option maxRecDepth 100000 in
theorem qL8_visit_19 (d : Nat) (a0 : Nat) (h : zv_H) : L8_visit_19 d a0 h =
  ((C8_refused d a0 (1 : Int) h).bind fun q1 =>
  (some (some (zv_i q1.1), q1.2))) := (zv_lim_eq _ _ _ _ _ _).trans rfl
set_option maxRecDepth 100000 in
theorem qL8_visit_75 (d : Nat) (e0 : Nat) (e1 : Int) (h : zv_H) : L8_visit_75 d e0 e1 h =
  ((C8_given d e0 e1 h).bind fun q1 =>
  (some (some (zv_i q1.1), q1.2))) := (zv_lim_eq _ _ _ _ _ _).trans rfl
set_option maxRecDepth 100000 in
theorem qE8_named (d : Nat) (a0 : Nat) (h : zv_H) : E8_named d a0 h =
  ((zv_gR h a0 8 1).bind fun v1 =>
  ((C7_key d v1 h).bind fun q2 =>
  (if q2.1 = 0 then
    ((C8_refused d a0 (1 : Int) q2.2).bind fun q3 =>
    (some (some (zv_i q3.1), q3.2)))
  else
    ((zv_gR q2.2 a0 8 3).bind fun v4 =>
    ((zv_gR q2.2 v4 0 6).bind fun v5 =>
    ((C2_indexOf d v5 q2.1 q2.2).bind fun q6 =>
    (if q6.1 < 0 then
      ((C8_refused d a0 (5 : Int) q6.2).bind fun q7 =>
      (some (some (zv_i q7.1), q7.2)))
    else
      ((zv_gR q6.2 a0 8 3).bind fun v8 =>
      ((zv_gR q6.2 v8 0 6).bind fun v9 =>
      ((C2_ownerAt d v9 q6.1 q6.2).bind fun q10 =>
      ((C8_given d a0 q10.1 q10.2).bind fun q11 =>
      (some (some (zv_i q11.1), q11.2))))))))))))) := (zv_lim_eq _ _ _ _ _ _).trans rfl
set_option maxRecDepth 100000 in
theorem qE8_leans (d : Nat) (a0 : Nat) (a1 : Int) (a2 : Int) (h : zv_H) : E8_leans d a0 a1 a2 h =
  ((zv_gR h a0 8 3).bind fun v1 =>
  ((C0_at d v1 a1 h).bind fun q2 =>
  ((zv_gR q2.2 a0 8 3).bind fun v3 =>
  ((C0_at d v3 a2 q2.2).bind fun q4 =>
  (if q2.1 = 0 then
    L8_leans_28 d a0 q4.2
  else
    (if q4.1 = 0 then
      L8_leans_28 d a0 q4.2
    else
      ((zv_gI q4.2 q2.1 5 10).bind fun v5 =>
      ((zv_gI q4.2 q4.1 5 10).bind fun v6 =>
      (if v5 < v6 then
        L8_leans_52 d a0 q2.1 q4.1 q4.1 q4.2
      else
        L8_leans_52 d a0 q2.1 q4.1 q2.1 q4.2))))))))) := (zv_lim_eq _ _ _ _ _ _).trans rfl
set_option maxRecDepth 100000 in
theorem qL8_leans_28 (d : Nat) (a0 : Nat) (h : zv_H) : L8_leans_28 d a0 h =
  ((C8_refused d a0 (2 : Int) h).bind fun q1 =>
  (some (some (zv_i q1.1), q1.2))) := (zv_lim_eq _ _ _ _ _ _).trans rfl
set_option maxRecDepth 100000 in
theorem qL8_leans_52 (d : Nat) (a0 : Nat) (a3 : Nat) (a4 : Nat) (e0 : Nat) (h : zv_H) : L8_leans_52 d a0 a3 a4 e0 h =
  (if 1000000 ≤ e0 ∨ 1000000 ≤ a3 then none else
  if e0 = a3 then
    L8_leans_66 d a0 e0 a4 h
  else
    L8_leans_66 d a0 e0 a3 h) := (zv_lim_eq _ _ _ _ _ _).trans rfl
set_option maxRecDepth 100000 in
theorem qL8_leans_66 (d : Nat) (a0 : Nat) (a5 : Nat) (e0 : Nat) (h : zv_H) : L8_leans_66 d a0 a5 e0 h =
  ((C5_edits d a5 h).bind fun q1 =>
  (if q1.1 = 0 then
    L8_leans_94 d a0 q1.2
  else
    ((C5_edits d e0 q1.2).bind fun q2 =>
    (if q2.1 = 0 then
      L8_leans_94 d a0 q2.2
    else
      ((C0_onLine d e0 a5 q2.2).bind fun q3 =>
      (if q3.1 = 0 then
        L8_leans_94 d a0 q3.2
      else
        ((zv_gJ q3.2 a5 5 17).bind fun v4 =>
        ((C5_bit d e0 q3.2).bind fun q5 =>
        (if (zv_lcmp (v4 &&& q5.1) (Int64.ofNat 0)) = 0 then
          L8_leans_122 d a0 (0 : Int) q5.2
        else
          L8_leans_122 d a0 (1 : Int) q5.2))))))))) := (zv_lim_eq _ _ _ _ _ _).trans rfl
set_option maxRecDepth 100000 in
theorem qL8_leans_94 (d : Nat) (a0 : Nat) (h : zv_H) : L8_leans_94 d a0 h =
  ((C8_refused d a0 (5 : Int) h).bind fun q1 =>
  (some (some (zv_i q1.1), q1.2))) := (zv_lim_eq _ _ _ _ _ _).trans rfl
set_option maxRecDepth 100000 in
theorem qL8_leans_122 (d : Nat) (e0 : Nat) (e1 : Int) (h : zv_H) : L8_leans_122 d e0 e1 h =
  ((C8_given d e0 e1 h).bind fun q1 =>
  (some (some (zv_i q1.1), q1.2))) := (zv_lim_eq _ _ _ _ _ _).trans rfl
set_option maxRecDepth 100000 in
theorem qE8_put (d : Nat) (a0 : Nat) (a1 : Int) (h : zv_H) : E8_put d a0 a1 h =
  ((zv_gR h a0 8 3).bind fun v1 =>
  ((zv_gR h a0 8 1).bind fun v2 =>
  ((C0_putWord d v1 a1 v2 h).bind fun q3 =>
  ((C8_answered d a0 q3.1 q3.2).bind fun q4 =>
  (some (some (zv_i q4.1), q4.2)))))) := (zv_lim_eq _ _ _ _ _ _).trans rfl
set_option maxRecDepth 100000 in
theorem qE8_cut (d : Nat) (a0 : Nat) (a1 : Int) (a2 : Int) (h : zv_H) : E8_cut d a0 a1 a2 h =
  ((zv_gR h a0 8 3).bind fun v1 =>
  ((C0_cutOut d v1 a1 a2 h).bind fun q2 =>
  ((C8_answered d a0 q2.1 q2.2).bind fun q3 =>
  (some (some (zv_i q3.1), q3.2))))) := (zv_lim_eq _ _ _ _ _ _).trans rfl
set_option maxRecDepth 100000 in
theorem qE8_wait (d : Nat) (a0 : Nat) (a1 : Int) (h : zv_H) : E8_wait d a0 a1 h =
  ((zv_gR h a0 8 3).bind fun v1 =>
  ((C0_passTime d v1 a1 h).bind fun q2 =>
  ((C8_answered d a0 q2.1 q2.2).bind fun q3 =>
  (some (some (zv_i q3.1), q3.2))))) := (zv_lim_eq _ _ _ _ _ _).trans rfl
set_option maxRecDepth 100000 in
theorem qE8_undo (d : Nat) (a0 : Nat) (h : zv_H) : E8_undo d a0 h =
  ((zv_gR h a0 8 3).bind fun v1 =>
  ((C0_stepBack d v1 h).bind fun q2 =>
  ((C8_answered d a0 q2.1 q2.2).bind fun q3 =>
  (some (some (zv_i q3.1), q3.2))))) := (zv_lim_eq _ _ _ _ _ _).trans rfl
set_option maxRecDepth 100000 in
theorem qE8_redo (d : Nat) (a0 : Nat) (h : zv_H) : E8_redo d a0 h =
  ((zv_gR h a0 8 3).bind fun v1 =>
  ((C0_stepOn d v1 h).bind fun q2 =>
  ((C8_answered d a0 q2.1 q2.2).bind fun q3 =>
  (some (some (zv_i q3.1), q3.2))))) := (zv_lim_eq _ _ _ _ _ _).trans rfl
set_option maxRecDepth 100000 in
theorem qE8_go (d : Nat) (a0 : Nat) (a1 : Int) (h : zv_H) : E8_go d a0 a1 h =
  ((zv_gR h a0 8 3).bind fun v1 =>
  ((C0_goTo d v1 a1 h).bind fun q2 =>
  ((C8_answered d a0 q2.1 q2.2).bind fun q3 =>
  (some (some (zv_i q3.1), q3.2))))) := (zv_lim_eq _ _ _ _ _ _).trans rfl
set_option maxRecDepth 100000 in
theorem qE8_name (d : Nat) (a0 : Nat) (h : zv_H) : E8_name d a0 h =
  ((zv_gR h a0 8 3).bind fun v1 =>
  ((zv_gR h a0 8 1).bind fun v2 =>
  ((C7_key d v2 h).bind fun q3 =>
  ((C0_nameHere d v1 q3.1 q3.2).bind fun q4 =>
  ((C8_answered d a0 q4.1 q4.2).bind fun q5 =>
  (some (some (zv_i q5.1), q5.2))))))) := (zv_lim_eq _ _ _ _ _ _).trans rfl
set_option maxRecDepth 100000 in
theorem qE8_unname (d : Nat) (a0 : Nat) (h : zv_H) : E8_unname d a0 h =
  ((zv_gR h a0 8 3).bind fun v1 =>
  ((zv_gR h a0 8 1).bind fun v2 =>
  ((C7_key d v2 h).bind fun q3 =>
  ((C0_dropName d v1 q3.1 q3.2).bind fun q4 =>
  ((C8_answered d a0 q4.1 q4.2).bind fun q5 =>
  (some (some (zv_i q5.1), q5.2))))))) := (zv_lim_eq _ _ _ _ _ _).trans rfl
set_option maxRecDepth 100000 in
theorem qE8_withdraw (d : Nat) (a0 : Nat) (a1 : Int) (h : zv_H) : E8_withdraw d a0 a1 h =
  ((zv_gR h a0 8 3).bind fun v1 =>
  ((C0_takeBack d v1 a1 h).bind fun q2 =>
  ((C8_answered d a0 q2.1 q2.2).bind fun q3 =>
  (some (some (zv_i q3.1), q3.2))))) := (zv_lim_eq _ _ _ _ _ _).trans rfl
set_option maxRecDepth 100000 in
theorem qE8_restore (d : Nat) (a0 : Nat) (a1 : Int) (h : zv_H) : E8_restore d a0 a1 h =
  ((zv_gR h a0 8 3).bind fun v1 =>
  ((C0_giveBack d v1 a1 h).bind fun q2 =>
  ((C8_answered d a0 q2.1 q2.2).bind fun q3 =>
  (some (some (zv_i q3.1), q3.2))))) := (zv_lim_eq _ _ _ _ _ _).trans rfl
set_option maxRecDepth 100000 in
theorem qE8_carry (d : Nat) (a0 : Nat) (a1 : Int) (h : zv_H) : E8_carry d a0 a1 h =
  ((zv_gR h a0 8 3).bind fun v1 =>
  ((C0_carryOver d v1 a1 h).bind fun q2 =>
  ((C8_answered d a0 q2.1 q2.2).bind fun q3 =>
  (some (some (zv_i q3.1), q3.2))))) := (zv_lim_eq _ _ _ _ _ _).trans rfl
set_option maxRecDepth 100000 in
theorem qE8_merge (d : Nat) (a0 : Nat) (a1 : Int) (h : zv_H) : E8_merge d a0 a1 h =
  ((zv_gR h a0 8 3).bind fun v1 =>
  ((C0_mergeIn d v1 a1 h).bind fun q2 =>
  ((C8_answered d a0 q2.1 q2.2).bind fun q3 =>
  (some (some (zv_i q3.1), q3.2))))) := (zv_lim_eq _ _ _ _ _ _).trans rfl
set_option maxRecDepth 100000 in
theorem qE8_prune (d : Nat) (a0 : Nat) (a1 : Int) (h : zv_H) : E8_prune d a0 a1 h =
  ((zv_gR h a0 8 3).bind fun v1 =>
  ((C0_pruneTo d v1 a1 h).bind fun q2 =>
  ((C8_answered d a0 q2.1 q2.2).bind fun q3 =>
  (some (some (zv_i q3.1), q3.2))))) := (zv_lim_eq _ _ _ _ _ _).trans rfl
set_option maxRecDepth 100000 in
theorem qE8_common (d : Nat) (a0 : Nat) (a1 : Int) (a2 : Int) (h : zv_H) : E8_common d a0 a1 a2 h =
  ((zv_gR h a0 8 3).bind fun v1 =>
  ((C0_at d v1 a1 h).bind fun q2 =>
  ((zv_gR q2.2 a0 8 3).bind fun v3 =>
  ((C0_at d v3 a2 q2.2).bind fun q4 =>
  (if q2.1 = 0 then
    L8_common_28 d a0 q4.2
  else
    (if q4.1 = 0 then
      L8_common_28 d a0 q4.2
    else
      ((C0_nearest d q2.1 q4.1 q4.2).bind fun q5 =>
      ((zv_gI q5.2 q5.1 5 0).bind fun v6 =>
      ((C8_given d a0 v6 q5.2).bind fun q7 =>
      (some (some (zv_i q7.1), q7.2))))))))))) := (zv_lim_eq _ _ _ _ _ _).trans rfl
set_option maxRecDepth 100000 in
theorem qL8_common_28 (d : Nat) (a0 : Nat) (h : zv_H) : L8_common_28 d a0 h =
  ((C8_refused d a0 (2 : Int) h).bind fun q1 =>
  (some (some (zv_i q1.1), q1.2))) := (zv_lim_eq _ _ _ _ _ _).trans rfl
set_option maxRecDepth 100000 in
theorem qE8_way (d : Nat) (a0 : Nat) (a1 : Int) (a2 : Int) (a3 : Int) (h : zv_H) : E8_way d a0 a1 a2 a3 h =
  (if a3 < 0 then
    ((C8_refused d a0 (1 : Int) h).bind fun q1 =>
    (some (some (zv_i q1.1), q1.2)))
  else
    ((zv_gR h a0 8 3).bind fun v2 =>
    ((C0_at d v2 a1 h).bind fun q3 =>
    ((zv_gR q3.2 a0 8 3).bind fun v4 =>
    ((C0_at d v4 a2 q3.2).bind fun q5 =>
    (if q3.1 = 0 then
      L8_way_40 d a0 q5.2
    else
      (if q5.1 = 0 then
        L8_way_40 d a0 q5.2
      else
        ((C0_onWay d q3.1 q5.1 a3 q5.2).bind fun q6 =>
        (if q6.1 = 0 then
          ((C8_refused d a0 (5 : Int) q6.2).bind fun q7 =>
          (some (some (zv_i q7.1), q7.2)))
        else
          ((zv_gI q6.2 q6.1 5 0).bind fun v8 =>
          ((C8_given d a0 v8 q6.2).bind fun q9 =>
          (some (some (zv_i q9.1), q9.2))))))))))))) := (zv_lim_eq _ _ _ _ _ _).trans rfl
set_option maxRecDepth 100000 in
theorem qL8_way_40 (d : Nat) (a0 : Nat) (h : zv_H) : L8_way_40 d a0 h =
  ((C8_refused d a0 (2 : Int) h).bind fun q1 =>
  (some (some (zv_i q1.1), q1.2))) := (zv_lim_eq _ _ _ _ _ _).trans rfl
set_option maxRecDepth 100000 in
theorem qE8_between (d : Nat) (a0 : Nat) (a1 : Int) (a2 : Int) (a3 : Int) (h : zv_H) : E8_between d a0 a1 a2 a3 h =
  ((C8_within d a3 (0 : Int) (3 : Int) h).bind fun q1 =>
  (if q1.1 = 0 then
    ((C8_refused d a0 (1 : Int) q1.2).bind fun q2 =>
    (some (some (zv_i q2.1), q2.2)))
  else
    ((zv_gR q1.2 a0 8 3).bind fun v3 =>
    ((C0_at d v3 a1 q1.2).bind fun q4 =>
    ((zv_gR q4.2 a0 8 3).bind fun v5 =>
    ((C0_at d v5 a2 q4.2).bind fun q6 =>
    (if q4.1 = 0 then
      L8_between_45 d a0 q6.2
    else
      (if q6.1 = 0 then
        L8_between_45 d a0 q6.2
      else
        (if a3 = (0 : Int) then
          ((zv_gR q6.2 a0 8 3).bind fun v7 =>
          ((C0_keptOf d v7 q4.1 q6.1 q6.2).bind fun q8 =>
          ((C8_given d a0 q8.1 q8.2).bind fun q9 =>
          (some (some (zv_i q9.1), q9.2)))))
        else
        if a3 = (1 : Int) then
          ((zv_gI q6.2 q4.1 5 12).bind fun v10 =>
          ((zv_gR q6.2 a0 8 3).bind fun v11 =>
          ((C0_keptOf d v11 q4.1 q6.1 q6.2).bind fun q12 =>
          ((C8_given d a0 (zv_w (v10 - q12.1)) q12.2).bind fun q13 =>
          (some (some (zv_i q13.1), q13.2))))))
        else
        if a3 = (2 : Int) then
          ((zv_gI q6.2 q6.1 5 12).bind fun v14 =>
          ((zv_gR q6.2 a0 8 3).bind fun v15 =>
          ((C0_keptOf d v15 q4.1 q6.1 q6.2).bind fun q16 =>
          ((C8_given d a0 (zv_w (v14 - q16.1)) q16.2).bind fun q17 =>
          (some (some (zv_i q17.1), q17.2))))))
        else
          ((zv_gR q6.2 a0 8 3).bind fun v18 =>
          ((C0_firstDifference d v18 q4.1 q6.1 q6.2).bind fun q19 =>
          ((C8_given d a0 q19.1 q19.2).bind fun q20 =>
          (some (some (zv_i q20.1), q20.2)))))))))))))) := (zv_lim_eq _ _ _ _ _ _).trans rfl
set_option maxRecDepth 100000 in
theorem qL8_between_45 (d : Nat) (a0 : Nat) (h : zv_H) : L8_between_45 d a0 h =
  ((C8_refused d a0 (2 : Int) h).bind fun q1 =>
  (some (some (zv_i q1.1), q1.2))) := (zv_lim_eq _ _ _ _ _ _).trans rfl
set_option maxRecDepth 100000 in
theorem qE8_least (d : Nat) (a0 : Nat) (a1 : Int) (a2 : Int) (h : zv_H) : E8_least d a0 a1 a2 h =
  ((zv_gR h a0 8 3).bind fun v1 =>
  ((C0_at d v1 a1 h).bind fun q2 =>
  ((zv_gR q2.2 a0 8 3).bind fun v3 =>
  ((C0_at d v3 a2 q2.2).bind fun q4 =>
  (if q2.1 = 0 then
    L8_least_28 d a0 q4.2
  else
    (if q4.1 = 0 then
      L8_least_28 d a0 q4.2
    else
      ((zv_gI q4.2 q2.1 5 12).bind fun v5 =>
      ((zv_gI q4.2 q4.1 5 12).bind fun v6 =>
      ((zv_gR q4.2 a0 8 3).bind fun v7 =>
      ((C0_longestCommon d v7 q2.1 q4.1 q4.2).bind fun q8 =>
      ((C8_given d a0 (zv_w ((zv_w (v5 + v6)) - (zv_w ((2 : Int) * q8.1)))) q8.2).bind fun q9 =>
      (some (some (zv_i q9.1), q9.2))))))))))))) := (zv_lim_eq _ _ _ _ _ _).trans rfl
set_option maxRecDepth 100000 in
theorem qL8_least_28 (d : Nat) (a0 : Nat) (h : zv_H) : L8_least_28 d a0 h =
  ((C8_refused d a0 (2 : Int) h).bind fun q1 =>
  (some (some (zv_i q1.1), q1.2))) := (zv_lim_eq _ _ _ _ _ _).trans rfl
set_option maxRecDepth 100000 in
theorem qE8_merges (d : Nat) (a0 : Nat) (a1 : Int) (a2 : Int) (h : zv_H) : E8_merges d a0 a1 a2 h =
  ((C8_within d a2 (0 : Int) (2 : Int) h).bind fun q1 =>
  (if q1.1 = 0 then
    ((C8_refused d a0 (1 : Int) q1.2).bind fun q2 =>
    (some (some (zv_i q2.1), q2.2)))
  else
    ((zv_gR q1.2 a0 8 3).bind fun v3 =>
    ((C0_mergeOnPaper d v3 a1 a2 q1.2).bind fun q4 =>
    ((C8_answered d a0 q4.1 q4.2).bind fun q5 =>
    (some (some (zv_i q5.1), q5.2))))))) := (zv_lim_eq _ _ _ _ _ _).trans rfl
set_option maxRecDepth 100000 in
theorem qE8_tell (d : Nat) (a0 : Nat) (a1 : Int) (h : zv_H) : E8_tell d a0 a1 h =
  ((C8_within d a1 (0 : Int) (2 : Int) h).bind fun q1 =>
  (if q1.1 = 0 then
    ((C8_refused d a0 (1 : Int) q1.2).bind fun q2 =>
    (some (some (zv_i q2.1), q2.2)))
  else
    ((zv_pI q1.2 a0 8 5 (0 : Int)).bind fun g3 =>
    (if a1 = 0 then
      ((C8_tellDocument d a0 g3).bind fun g4 =>
      L8_tell_47 d a0 g4)
    else
      (if a1 = (1 : Int) then
        ((C8_tellLine d a0 g3).bind fun g5 =>
        L8_tell_47 d a0 g5)
      else
        ((C8_tellNames d a0 g3).bind fun g6 =>
        L8_tell_47 d a0 g6)))))) := (zv_lim_eq _ _ _ _ _ _).trans rfl
set_option maxRecDepth 100000 in
theorem qL8_tell_47 (d : Nat) (a0 : Nat) (h : zv_H) : L8_tell_47 d a0 h =
  ((zv_gI h a0 8 5).bind fun v1 =>
  ((C8_given d a0 v1 h).bind fun q2 =>
  (some (some (zv_i q2.1), q2.2)))) := (zv_lim_eq _ _ _ _ _ _).trans rfl
set_option maxRecDepth 100000 in
theorem qE8_tellDocument (d : Nat) (a0 : Nat) (h : zv_H) : E8_tellDocument d a0 h =
  ((zv_gR h a0 8 3).bind fun v1 =>
  ((zv_gR h v1 0 10).bind fun v2 =>
  L8_tellDocument_10 d a0 v2 (0 : Int) h)) := (zv_lim_eq _ _ _ _ _ _).trans rfl
set_option maxRecDepth 100000 in
theorem qL8_tellDocument_10 (d : Nat) (a0 : Nat) (a1 : Nat) (a2 : Int) (h : zv_H) : L8_tellDocument_10 d a0 a1 a2 h =
  ((zv_gI h a1 5 12).bind fun v1 =>
  (if a2 < v1 then
    ((zv_gR h a0 8 3).bind fun v2 =>
    ((C0_letterAt d v2 a1 a2 h).bind fun q3 =>
    ((C8_tellByte d a0 (zv_w ((97 : Int) + q3.1)) q3.2).bind fun g4 =>
    L8_tellDocument_10 d a0 a1 (zv_w (a2 + 1)) g4)))
  else
    (some (none, h)))) := (zv_lim_eq _ _ _ _ _ _).trans rfl
set_option maxRecDepth 100000 in
theorem qE8_tellLine (d : Nat) (a0 : Nat) (h : zv_H) : E8_tellLine d a0 h =
  ((zv_gR h a0 8 3).bind fun v1 =>
  ((C0_rowOfHere d v1 h).bind fun q2 =>
  L8_tellLine_10 d a0 q2.1 (0 : Int) q2.2)) := (zv_lim_eq _ _ _ _ _ _).trans rfl
set_option maxRecDepth 100000 in
theorem qL8_tellLine_10 (d : Nat) (a0 : Nat) (a1 : Nat) (a2 : Int) (h : zv_H) : L8_tellLine_10 d a0 a1 a2 h =
  ((zv_gI h a1 4 5).bind fun v1 =>
  (if a2 < v1 then
    (if a2 ≤ 0 then
      L8_tellLine_28 d a0 a1 a2 h
    else
      ((C8_tellByte d a0 (60 : Int) h).bind fun g2 =>
      L8_tellLine_28 d a0 a1 a2 g2))
  else
    (some (none, h)))) := (zv_lim_eq _ _ _ _ _ _).trans rfl
set_option maxRecDepth 100000 in
theorem qL8_tellLine_28 (d : Nat) (a0 : Nat) (a1 : Nat) (a2 : Int) (h : zv_H) : L8_tellLine_28 d a0 a1 a2 h =
  ((C4_numberAt d a1 a2 h).bind fun q1 =>
  ((C8_tellNumber d a0 q1.1 q1.2).bind fun g2 =>
  L8_tellLine_10 d a0 a1 (zv_w (a2 + 1)) g2)) := (zv_lim_eq _ _ _ _ _ _).trans rfl
set_option maxRecDepth 100000 in
theorem qE8_tellNames (d : Nat) (a0 : Nat) (h : zv_H) : E8_tellNames d a0 h =
  ((zv_gR h a0 8 3).bind fun v1 =>
  ((zv_gR h v1 0 6).bind fun v2 =>
  L8_tellNames_10 d a0 v2 (0 : Int) h)) := (zv_lim_eq _ _ _ _ _ _).trans rfl
set_option maxRecDepth 100000 in
theorem qL8_tellNames_10 (d : Nat) (a0 : Nat) (a1 : Nat) (a2 : Int) (h : zv_H) : L8_tellNames_10 d a0 a1 a2 h =
  ((zv_gI h a1 2 2).bind fun v1 =>
  (if a2 < v1 then
    (if a2 ≤ 0 then
      L8_tellNames_28 d a0 a1 a2 h
    else
      ((C8_tellByte d a0 (32 : Int) h).bind fun g2 =>
      L8_tellNames_28 d a0 a1 a2 g2))
  else
    (some (none, h)))) := (zv_lim_eq _ _ _ _ _ _).trans rfl
set_option maxRecDepth 100000 in
theorem qL8_tellNames_28 (d : Nat) (a0 : Nat) (a1 : Nat) (a2 : Int) (h : zv_H) : L8_tellNames_28 d a0 a1 a2 h =
  ((C2_keyAt d a1 a2 h).bind fun q1 =>
  L8_tellNames_34 d a0 a1 a2 q1.1 q1.2) := (zv_lim_eq _ _ _ _ _ _).trans rfl
set_option maxRecDepth 100000 in
theorem qL8_tellNames_34 (d : Nat) (a0 : Nat) (a1 : Nat) (a2 : Int) (a3 : Int) (h : zv_H) : L8_tellNames_34 d a0 a1 a2 a3 h =
  (if a3 ≤ 0 then
    ((C8_tellByte d a0 (61 : Int) h).bind fun g1 =>
    ((C2_ownerAt d a1 a2 g1).bind fun q2 =>
    ((C8_tellNumber d a0 q2.1 q2.2).bind fun g3 =>
    L8_tellNames_10 d a0 a1 (zv_w (a2 + 1)) g3)))
  else
    ((C8_tellByte d a0 (zv_w ((96 : Int) + (zv_and a3 (31 : Int)))) h).bind fun g4 =>
    L8_tellNames_34 d a0 a1 a2 (zv_ushr a3 (5 : Int)) g4)) := (zv_lim_eq _ _ _ _ _ _).trans rfl
set_option maxRecDepth 100000 in
theorem qE8_tellNumber (d : Nat) (a0 : Nat) (a1 : Int) (h : zv_H) : E8_tellNumber d a0 a1 h =
  (if a1 < (10 : Int) then
    L8_tellNumber_17 d a0 a1 h
  else
    ((C8_tellByte d a0 (zv_w ((48 : Int) + (zv_w ((a1).tdiv (10 : Int))))) h).bind fun g1 =>
    L8_tellNumber_17 d a0 a1 g1)) := (zv_lim_eq _ _ _ _ _ _).trans rfl
set_option maxRecDepth 100000 in
theorem qL8_tellNumber_17 (d : Nat) (a0 : Nat) (a1 : Int) (h : zv_H) : L8_tellNumber_17 d a0 a1 h =
  ((C8_tellByte d a0 (zv_w ((48 : Int) + ((a1).tmod (10 : Int)))) h).bind fun g1 =>
  (some (none, g1))) := (zv_lim_eq _ _ _ _ _ _).trans rfl
set_option maxRecDepth 100000 in
theorem qE8_tellByte (d : Nat) (a0 : Nat) (a1 : Int) (h : zv_H) : E8_tellByte d a0 a1 h =
  ((zv_gI h a0 8 5).bind fun v1 =>
  (if v1 < 0 then
    (some (none, h))
  else
    ((zv_gI h a0 8 5).bind fun v2 =>
    ((zv_gR h a0 8 0).bind fun v3 =>
    ((zv_al h v3).bind fun v4 =>
    (if v2 < v4 then
      ((zv_gR h a0 8 0).bind fun v5 =>
      ((zv_gI h a0 8 5).bind fun v6 =>
      ((zv_wI h v5 v6 a1).bind fun g7 =>
      ((zv_gI g7 a0 8 5).bind fun v8 =>
      ((zv_pI g7 a0 8 5 (zv_w (v8 + (1 : Int)))).bind fun g9 =>
      (some (none, g9)))))))
    else
      (some (none, h)))))))) := (zv_lim_eq _ _ _ _ _ _).trans rfl
set_option maxRecDepth 100000 in
theorem qE8_out (d : Nat) (a0 : Nat) (a1 : Int) (h : zv_H) : E8_out d a0 a1 h =
  (if a1 < 0 then
    ((C8_refused d a0 (1 : Int) h).bind fun q1 =>
    (some (some (zv_i q1.1), q1.2)))
  else
    ((zv_gI h a0 8 5).bind fun v2 =>
    (if a1 < v2 then
      ((zv_gR h a0 8 0).bind fun v3 =>
      ((zv_al h v3).bind fun v4 =>
      (if a1 < v4 then
        ((zv_gR h a0 8 0).bind fun v5 =>
        ((zv_aI h v5 a1).bind fun v6 =>
        ((C8_given d a0 v6 h).bind fun q7 =>
        (some (some (zv_i q7.1), q7.2)))))
      else
        L8_out_27 d a0 h)))
    else
      L8_out_27 d a0 h))) := (zv_lim_eq _ _ _ _ _ _).trans rfl
set_option maxRecDepth 100000 in
theorem qL8_out_27 (d : Nat) (a0 : Nat) (h : zv_H) : L8_out_27 d a0 h =
  ((C8_refused d a0 (5 : Int) h).bind fun q1 =>
  (some (some (zv_i q1.1), q1.2))) := (zv_lim_eq _ _ _ _ _ _).trans rfl
set_option maxRecDepth 100000 in
theorem qE8_leaning (d : Nat) (a0 : Nat) (a1 : Int) (a2 : Int) (h : zv_H) : E8_leaning d a0 a1 a2 h =
  ((C8_within d a2 (0 : Int) (3 : Int) h).bind fun q1 =>
  (if q1.1 = 0 then
    ((C8_refused d a0 (1 : Int) q1.2).bind fun q2 =>
    (some (some (zv_i q2.1), q2.2)))
  else
    ((zv_gR q1.2 a0 8 3).bind fun v3 =>
    ((C0_at d v3 a1 q1.2).bind fun q4 =>
    (if q4.1 = 0 then
      ((C8_refused d a0 (2 : Int) q4.2).bind fun q5 =>
      (some (some (zv_i q5.1), q5.2)))
    else
      ((zv_gR q4.2 a0 8 3).bind fun v6 =>
      ((C0_rowOfHere d v6 q4.2).bind fun q7 =>
      ((zv_gJ q7.2 q7.1 4 8).bind fun v8 =>
      ((C5_bit d q4.1 q7.2).bind fun q9 =>
      (if (zv_lcmp (v8 &&& q9.1) (Int64.ofNat 0)) = 0 then
        ((C8_refused d a0 (7 : Int) q9.2).bind fun q10 =>
        (some (some (zv_i q10.1), q10.2)))
      else
        ((C4_leaningOn d q7.1 q4.1 q9.2).bind fun q11 =>
        (if a2 = (0 : Int) then
          ((CJ_bitc d q11.1 q11.2).bind fun q12 =>
          ((C8_given d a0 q12.1 q12.2).bind fun q13 =>
          (some (some (zv_i q13.1), q13.2))))
        else
        if a2 = (1 : Int) then
          ((zv_gJ q11.2 q7.1 4 9).bind fun v14 =>
          ((CJ_bitc d (q11.1 &&& v14) q11.2).bind fun q15 =>
          ((C8_given d a0 q15.1 q15.2).bind fun q16 =>
          (some (some (zv_i q16.1), q16.2)))))
        else
        if a2 = (2 : Int) then
          ((zv_gR q11.2 a0 8 3).bind fun v17 =>
          ((C0_lettersOfHereBy d v17 q11.1 q11.2).bind fun q18 =>
          ((C8_given d a0 q18.1 q18.2).bind fun q19 =>
          (some (some (zv_i q19.1), q19.2)))))
        else
          ((zv_gJ q11.2 q7.1 4 9).bind fun v20 =>
          ((C4_look d q7.1 (v20 &&& (q11.1 ^^^ (-1 : Int64))) q11.2).bind fun g21 =>
          ((zv_gI g21 q7.1 4 7).bind fun v22 =>
          ((C8_given d a0 v22 g21).bind fun q23 =>
          (some (some (zv_i q23.1), q23.2)))))))))))))))))) := (zv_lim_eq _ _ _ _ _ _).trans rfl
set_option maxRecDepth 100000 in
theorem qE8_find (d : Nat) (a0 : Nat) (a1 : Int) (h : zv_H) : E8_find d a0 a1 h =
  ((C8_within d a1 (0 : Int) (2 : Int) h).bind fun q1 =>
  (if q1.1 = 0 then
    L8_find_19 d a0 q1.2
  else
    ((zv_gR q1.2 a0 8 1).bind fun v2 =>
    ((zv_gI q1.2 v2 7 1).bind fun v3 =>
    (if v3 = 0 then
      L8_find_19 d a0 q1.2
    else
      (if a1 = (1 : Int) then
        ((zv_gR q1.2 a0 8 3).bind fun v4 =>
        ((zv_gR q1.2 a0 8 1).bind fun v5 =>
        ((C0_statesWith d v4 v5 q1.2).bind fun q6 =>
        ((C8_given d a0 q6.1 q6.2).bind fun q7 =>
        (some (some (zv_i q7.1), q7.2))))))
      else
        (if a1 = 0 then
          ((zv_gR q1.2 a0 8 3).bind fun v8 =>
          ((zv_gR q1.2 a0 8 1).bind fun v9 =>
          ((C0_leastWith d v8 v9 q1.2).bind fun q10 =>
          L8_find_82 d a0 q10.1 q10.2)))
        else
          ((zv_gR q1.2 a0 8 3).bind fun v11 =>
          ((zv_gR q1.2 a0 8 3).bind fun v12 =>
          ((zv_gR q1.2 v12 0 10).bind fun v13 =>
          ((zv_gR q1.2 a0 8 1).bind fun v14 =>
          ((C0_placeIn d v11 v13 v14 q1.2).bind fun q15 =>
          L8_find_82 d a0 q15.1 q15.2)))))))))))) := (zv_lim_eq _ _ _ _ _ _).trans rfl
set_option maxRecDepth 100000 in
theorem qL8_find_19 (d : Nat) (a0 : Nat) (h : zv_H) : L8_find_19 d a0 h =
  ((C8_refused d a0 (1 : Int) h).bind fun q1 =>
  (some (some (zv_i q1.1), q1.2))) := (zv_lim_eq _ _ _ _ _ _).trans rfl
set_option maxRecDepth 100000 in
theorem qL8_find_82 (d : Nat) (a0 : Nat) (e0 : Int) (h : zv_H) : L8_find_82 d a0 e0 h =
  (if e0 = (-1 : Int) then
    ((C8_refused d a0 (5 : Int) h).bind fun q1 =>
    (some (some (zv_i q1.1), q1.2)))
  else
    ((C8_given d a0 e0 h).bind fun q2 =>
    (some (some (zv_i q2.1), q2.2)))) := (zv_lim_eq _ _ _ _ _ _).trans rfl
set_option maxRecDepth 100000 in
theorem qE8_first (d : Nat) (a0 : Nat) (h : zv_H) : E8_first d a0 h =
  ((zv_gR h a0 8 3).bind fun v1 =>
  ((C0_nextToGo d v1 h).bind fun q2 =>
  (if q2.1 = 0 then
    ((C8_refused d a0 (5 : Int) q2.2).bind fun q3 =>
    (some (some (zv_i q3.1), q3.2)))
  else
    ((zv_gI q2.2 q2.1 5 0).bind fun v4 =>
    ((C8_given d a0 v4 q2.2).bind fun q5 =>
    (some (some (zv_i q5.1), q5.2))))))) := (zv_lim_eq _ _ _ _ _ _).trans rfl
set_option maxRecDepth 100000 in
theorem qE8_twin (d : Nat) (a0 : Nat) (a1 : Int) (h : zv_H) : E8_twin d a0 a1 h =
  ((zv_gR h a0 8 3).bind fun v1 =>
  ((C0_at d v1 a1 h).bind fun q2 =>
  (if q2.1 = 0 then
    ((C8_refused d a0 (2 : Int) q2.2).bind fun q3 =>
    (some (some (zv_i q3.1), q3.2)))
  else
    ((zv_gR q2.2 a0 8 3).bind fun v4 =>
    ((C0_twinOf d v4 q2.1 q2.2).bind fun q5 =>
    (if q5.1 = (-1 : Int) then
      ((C8_refused d a0 (5 : Int) q5.2).bind fun q6 =>
      (some (some (zv_i q6.1), q6.2)))
    else
      ((C8_given d a0 q5.1 q5.2).bind fun q7 =>
      (some (some (zv_i q7.1), q7.2))))))))) := (zv_lim_eq _ _ _ _ _ _).trans rfl
set_option maxRecDepth 100000 in
theorem qE8_back (d : Nat) (a0 : Nat) (a1 : Int) (h : zv_H) : E8_back d a0 a1 h =
  ((C8_within d a1 (1 : Int) (48 : Int) h).bind fun q1 =>
  (if q1.1 = 0 then
    ((C8_refused d a0 (1 : Int) q1.2).bind fun q2 =>
    (some (some (zv_i q2.1), q2.2)))
  else
    ((zv_gR q1.2 a0 8 3).bind fun v3 =>
    ((C0_behind d v3 a1 q1.2).bind fun q4 =>
    (if q4.1 = 0 then
      ((C8_refused d a0 (5 : Int) q4.2).bind fun q5 =>
      (some (some (zv_i q5.1), q5.2)))
    else
      ((zv_gI q4.2 q4.1 5 0).bind fun v6 =>
      ((C8_given d a0 v6 q4.2).bind fun q7 =>
      (some (some (zv_i q7.1), q7.2))))))))) := (zv_lim_eq _ _ _ _ _ _).trans rfl
end
section
set_option maxRecDepth 100000 in
theorem qE9_init (d : Nat) (a0 : Nat) (h : zv_H) : E9_init d a0 h =
  (if a0 = 0 then none else
  ((zv_nA h 2 (4236 : Int)).bind fun g1 =>
  ((zv_pR g1 a0 9 0 (zv_n h + 1)).bind fun g2 =>
  ((zv_nA g2 2 (4236 : Int)).bind fun g3 =>
  ((zv_pR g3 a0 9 1 (zv_n g2 + 1)).bind fun g4 =>
  ((zv_nA g4 2 (4236 : Int)).bind fun g5 =>
  ((zv_pR g5 a0 9 2 (zv_n g4 + 1)).bind fun g6 =>
  ((zv_nA g6 2 (49 : Int)).bind fun g7 =>
  ((zv_pR g7 a0 9 5 (zv_n g6 + 1)).bind fun g8 =>
  ((zv_nA g8 2 (640 : Int)).bind fun g9 =>
  ((zv_pR g9 a0 9 6 (zv_n g8 + 1)).bind fun g10 =>
  ((zv_nA g10 2 (640 : Int)).bind fun g11 =>
  ((zv_pR g11 a0 9 7 (zv_n g10 + 1)).bind fun g12 =>
  ((zv_nA g12 3 (49 : Int)).bind fun g13 =>
  ((zv_pR g13 a0 9 8 (zv_n g12 + 1)).bind fun g14 =>
  ((zv_nA g14 3 (640 : Int)).bind fun g15 =>
  ((zv_pR g15 a0 9 9 (zv_n g14 + 1)).bind fun g16 =>
  ((zv_nA g16 2 (640 : Int)).bind fun g17 =>
  ((zv_pR g17 a0 9 13 (zv_n g16 + 1)).bind fun g18 =>
  ((zv_nA g18 2 (640 : Int)).bind fun g19 =>
  ((zv_pR g19 a0 9 14 (zv_n g18 + 1)).bind fun g20 =>
  ((zv_nA g20 2 (6 : Int)).bind fun g21 =>
  ((zv_pR g21 a0 9 15 (zv_n g20 + 1)).bind fun g22 =>
  ((zv_nA g22 3 (400 : Int)).bind fun g23 =>
  ((zv_pR g23 a0 9 16 (zv_n g22 + 1)).bind fun g24 =>
  ((zv_nA g24 2 (700 : Int)).bind fun g25 =>
  ((zv_pR g25 a0 9 17 (zv_n g24 + 1)).bind fun g26 =>
  ((zv_nA g26 2 (12 : Int)).bind fun g27 =>
  ((zv_pR g27 a0 9 18 (zv_n g26 + 1)).bind fun g28 =>
  ((zv_nA g28 2 (48 : Int)).bind fun g29 =>
  ((zv_pR g29 a0 9 21 (zv_n g28 + 1)).bind fun g30 =>
  ((zv_nA g30 2 (49 : Int)).bind fun g31 =>
  ((zv_pR g31 a0 9 22 (zv_n g30 + 1)).bind fun g32 =>
  ((zv_nA g32 3 (49 : Int)).bind fun g33 =>
  ((zv_pR g33 a0 9 23 (zv_n g32 + 1)).bind fun g34 =>
  ((zv_nA g34 3 (49 : Int)).bind fun g35 =>
  ((zv_pR g35 a0 9 25 (zv_n g34 + 1)).bind fun g36 =>
  ((zv_nA g36 4 (700 : Int)).bind fun g37 =>
  ((zv_pR g37 a0 9 26 (zv_n g36 + 1)).bind fun g38 =>
  ((zv_pI g38 a0 9 28 (-1 : Int)).bind fun g39 =>
  ((zv_pI g39 a0 9 29 (-1 : Int)).bind fun g40 =>
  ((zv_nA g40 5 (12 : Int)).bind fun g41 =>
  ((zv_wJ g41 (zv_n g40 + 1) (0 : Int) (12251 : Int64)).bind fun g42 =>
  ((zv_wJ g42 (zv_n g40 + 1) (1 : Int) (2774 : Int64)).bind fun g43 =>
  ((zv_wJ g43 (zv_n g40 + 1) (2 : Int) (453701 : Int64)).bind fun g44 =>
  ((zv_wJ g44 (zv_n g40 + 1) (3 : Int) (423672 : Int64)).bind fun g45 =>
  ((zv_wJ g45 (zv_n g40 + 1) (4 : Int) (358062 : Int64)).bind fun g46 =>
  ((zv_wJ g46 (zv_n g40 + 1) (5 : Int) (204 : Int64)).bind fun g47 =>
  ((zv_wJ g47 (zv_n g40 + 1) (6 : Int) (276647 : Int64)).bind fun g48 =>
  ((zv_wJ g48 (zv_n g40 + 1) (7 : Int) (244366229642 : Int64)).bind fun g49 =>
  ((zv_wJ g49 (zv_n g40 + 1) (8 : Int) (7055815802 : Int64)).bind fun g50 =>
  ((zv_wJ g50 (zv_n g40 + 1) (9 : Int) (1627639 : Int64)).bind fun g51 =>
  ((zv_wJ g51 (zv_n g40 + 1) (10 : Int) (7020464 : Int64)).bind fun g52 =>
  ((zv_wJ g52 (zv_n g40 + 1) (11 : Int) (8873042 : Int64)).bind fun g53 =>
  ((zv_pR g53 a0 9 39 (zv_n g40 + 1)).bind fun g54 =>
  ((zv_nA g54 5 (5 : Int)).bind fun g55 =>
  ((zv_wJ g55 (zv_n g54 + 1) (0 : Int) (10492274 : Int64)).bind fun g56 =>
  ((zv_wJ g56 (zv_n g54 + 1) (1 : Int) (208022 : Int64)).bind fun g57 =>
  ((zv_wJ g57 (zv_n g54 + 1) (2 : Int) (423 : Int64)).bind fun g58 =>
  ((zv_wJ g58 (zv_n g54 + 1) (3 : Int) (1111 : Int64)).bind fun g59 =>
  ((zv_wJ g59 (zv_n g54 + 1) (4 : Int) (10631 : Int64)).bind fun g60 =>
  ((zv_pR g60 a0 9 40 (zv_n g54 + 1)).bind fun g61 =>
  ((zv_nA g61 5 (6 : Int)).bind fun g62 =>
  ((zv_wJ g62 (zv_n g61 + 1) (0 : Int) (5146 : Int64)).bind fun g63 =>
  ((zv_wJ g63 (zv_n g61 + 1) (1 : Int) (381245 : Int64)).bind fun g64 =>
  ((zv_wJ g64 (zv_n g61 + 1) (2 : Int) (223456 : Int64)).bind fun g65 =>
  ((zv_wJ g65 (zv_n g61 + 1) (3 : Int) (375062 : Int64)).bind fun g66 =>
  ((zv_wJ g66 (zv_n g61 + 1) (4 : Int) (279252 : Int64)).bind fun g67 =>
  ((zv_wJ g67 (zv_n g61 + 1) (5 : Int) (247516 : Int64)).bind fun g68 =>
  ((zv_pR g68 a0 9 41 (zv_n g61 + 1)).bind fun g69 =>
  ((zv_nA g69 2 (640 : Int)).bind fun g70 =>
  ((zv_pR g70 a0 9 44 (zv_n g69 + 1)).bind fun g71 =>
  ((zv_nA g71 2 (14641 : Int)).bind fun g72 =>
  ((zv_pR g72 a0 9 45 (zv_n g71 + 1)).bind fun g73 =>
  ((zv_nA g73 2 (200 : Int)).bind fun g74 =>
  ((zv_pR g74 a0 9 46 (zv_n g73 + 1)).bind fun g75 =>
  ((C9_clears d a0 g75).bind fun g76 =>
  (some (none, g76))))))))))))))))))))))))))))))))))))))))))))))))))))))))))))))))))))))))))))))) := (zv_lim_eq _ _ _ _ _ _).trans rfl
set_option maxRecDepth 100000 in
theorem qE9_status (d : Nat) (a0 : Nat) (h : zv_H) : E9_status d a0 h =
  ((zv_pI h a0 9 4 (0 : Int)).bind fun g1 =>
  ((zv_gI g1 a0 9 3).bind fun v2 =>
  (some (some (zv_i v2), g1)))) := (zv_lim_eq _ _ _ _ _ _).trans rfl
set_option maxRecDepth 100000 in
theorem qE9_refuse (d : Nat) (a0 : Nat) (a1 : Int) (h : zv_H) : E9_refuse d a0 a1 h =
  ((zv_pI h a0 9 3 a1).bind fun g1 =>
  (some (some (zv_i (-1 : Int)), g1))) := (zv_lim_eq _ _ _ _ _ _).trans rfl
set_option maxRecDepth 100000 in
theorem qE9_is (d : Nat) (a0 : Nat) (a1 : Int) (h : zv_H) : E9_is d a0 a1 h =
  ((zv_pI h a0 9 4 (0 : Int)).bind fun g1 =>
  ((zv_pI g1 a0 9 3 a1).bind fun g2 =>
  (if a1 = 0 then
    (some (some (zv_i (1 : Int)), g2))
  else
    (some (some (zv_i (0 : Int)), g2))))) := (zv_lim_eq _ _ _ _ _ _).trans rfl
set_option maxRecDepth 100000 in
theorem qE9_isIn (d : Nat) (a0 : Int) (a1 : Int) (a2 : Int) (h : zv_H) : E9_isIn d a0 a1 a2 h =
  (if a0 < a1 then
    (some (some (zv_i (0 : Int)), h))
  else
    (if a0 ≤ a2 then
      (some (some (zv_i (1 : Int)), h))
    else
      (some (some (zv_i (0 : Int)), h)))) := (zv_lim_eq _ _ _ _ _ _).trans rfl
set_option maxRecDepth 100000 in
theorem qE9_clears (d : Nat) (a0 : Nat) (h : zv_H) : E9_clears d a0 h =
  L9_clears_2 d a0 (0 : Int) h := (zv_lim_eq _ _ _ _ _ _).trans rfl
set_option maxRecDepth 100000 in
theorem qL9_clears_2 (d : Nat) (a0 : Nat) (a1 : Int) (h : zv_H) : L9_clears_2 d a0 a1 h =
  (if a1 < (4236 : Int) then
    ((zv_gR h a0 9 0).bind fun v1 =>
    ((zv_wI h v1 a1 (0 : Int)).bind fun g2 =>
    L9_clears_2 d a0 (zv_w (a1 + 1)) g2))
  else
    ((C9_sets d a0 (0 : Int) (0 : Int) (1 : Int) h).bind fun g3 =>
    ((C9_sets d a0 (0 : Int) (1 : Int) (-1 : Int) g3).bind fun g4 =>
    ((C9_sets d a0 (0 : Int) (2 : Int) (-1 : Int) g4).bind fun g5 =>
    ((C9_sets d a0 (0 : Int) (4 : Int) (-1 : Int) g5).bind fun g6 =>
    (some (none, g6))))))) := (zv_lim_eq _ _ _ _ _ _).trans rfl
set_option maxRecDepth 100000 in
theorem qE9_of (d : Nat) (a0 : Nat) (a1 : Int) (a2 : Int) (h : zv_H) : E9_of d a0 a1 a2 h =
  ((zv_gR h a0 9 0).bind fun v1 =>
  ((zv_aI h v1 (zv_w ((zv_w ((432 : Int) + (zv_w ((76 : Int) * a1)))) + a2))).bind fun v2 =>
  (some (some (zv_i v2), h)))) := (zv_lim_eq _ _ _ _ _ _).trans rfl
set_option maxRecDepth 100000 in
theorem qE9_sets (d : Nat) (a0 : Nat) (a1 : Int) (a2 : Int) (a3 : Int) (h : zv_H) : E9_sets d a0 a1 a2 a3 h =
  ((zv_gR h a0 9 0).bind fun v1 =>
  ((zv_wI h v1 (zv_w ((zv_w ((432 : Int) + (zv_w ((76 : Int) * a1)))) + a2)) a3).bind fun g2 =>
  (some (none, g2)))) := (zv_lim_eq _ _ _ _ _ _).trans rfl
set_option maxRecDepth 100000 in
theorem qE9_isState (d : Nat) (a0 : Nat) (a1 : Int) (h : zv_H) : E9_isState d a0 a1 h =
  ((C9_isIn d a1 (0 : Int) (47 : Int) h).bind fun q1 =>
  (if q1.1 = 0 then
    (some (some (zv_i (0 : Int)), q1.2))
  else
    ((C9_of d a0 a1 (0 : Int) q1.2).bind fun q2 =>
    (if q2.1 = (1 : Int) then
      (some (some (zv_i (1 : Int)), q2.2))
    else
      (some (some (zv_i (0 : Int)), q2.2)))))) := (zv_lim_eq _ _ _ _ _ _).trans rfl
set_option maxRecDepth 100000 in
theorem qE9_isEdit (d : Nat) (a0 : Nat) (a1 : Int) (h : zv_H) : E9_isEdit d a0 a1 h =
  ((C9_of d a0 a1 (2 : Int) h).bind fun q1 =>
  (if q1.1 = 0 then
    (some (some (zv_i (1 : Int)), q1.2))
  else
    ((C9_of d a0 a1 (2 : Int) q1.2).bind fun q2 =>
    (if q2.1 = (1 : Int) then
      (some (some (zv_i (1 : Int)), q2.2))
    else
      (some (some (zv_i (0 : Int)), q2.2)))))) := (zv_lim_eq _ _ _ _ _ _).trans rfl
set_option maxRecDepth 100000 in
theorem qE9_here (d : Nat) (a0 : Nat) (h : zv_H) : E9_here d a0 h =
  ((zv_gR h a0 9 0).bind fun v1 =>
  ((zv_aI h v1 (0 : Int)).bind fun v2 =>
  (some (some (zv_i v2), h)))) := (zv_lim_eq _ _ _ _ _ _).trans rfl
set_option maxRecDepth 100000 in
theorem qE9_states (d : Nat) (a0 : Nat) (h : zv_H) : E9_states d a0 h =
  L9_states_4 d a0 (0 : Int) (0 : Int) h := (zv_lim_eq _ _ _ _ _ _).trans rfl
set_option maxRecDepth 100000 in
theorem qL9_states_4 (d : Nat) (a0 : Nat) (a1 : Int) (a2 : Int) (h : zv_H) : L9_states_4 d a0 a1 a2 h =
  (if a2 < (48 : Int) then
    ((C9_of d a0 a2 (0 : Int) h).bind fun q1 =>
    L9_states_4 d a0 (zv_w (a1 + q1.1)) (zv_w (a2 + 1)) q1.2)
  else
    (some (some (zv_i a1), h))) := (zv_lim_eq _ _ _ _ _ _).trans rfl
set_option maxRecDepth 100000 in
theorem qE9_names (d : Nat) (a0 : Nat) (a1 : Int) (a2 : Int) (h : zv_H) : E9_names d a0 a1 a2 h =
  (if a2 < (24 : Int) then
    L9_names_15 d a2 a0 a1 (10 : Int) h
  else
    L9_names_15 d a2 a0 a1 (11 : Int) h) := (zv_lim_eq _ _ _ _ _ _).trans rfl
set_option maxRecDepth 100000 in
theorem qL9_names_15 (d : Nat) (a2 : Int) (e0 : Nat) (e1 : Int) (e2 : Int) (h : zv_H) : L9_names_15 d a2 e0 e1 e2 h =
  ((C9_of d e0 e1 e2 h).bind fun q1 =>
  (if (zv_and (zv_shr q1.1 ((a2).tmod (24 : Int))) (1 : Int)) = (1 : Int) then
    (some (some (zv_i (1 : Int)), q1.2))
  else
    (some (some (zv_i (0 : Int)), q1.2)))) := (zv_lim_eq _ _ _ _ _ _).trans rfl
set_option maxRecDepth 100000 in
theorem qE9_namesToo (d : Nat) (a0 : Nat) (a1 : Int) (a2 : Int) (h : zv_H) : E9_namesToo d a0 a1 a2 h =
  (if a2 < (24 : Int) then
    L9_namesToo_15 d a0 a1 a2 a0 a1 (10 : Int) h
  else
    L9_namesToo_15 d a0 a1 a2 a0 a1 (11 : Int) h) := (zv_lim_eq _ _ _ _ _ _).trans rfl
set_option maxRecDepth 100000 in
theorem qL9_namesToo_15 (d : Nat) (a0 : Nat) (a1 : Int) (a2 : Int) (e0 : Nat) (e1 : Int) (e2 : Int) (h : zv_H) : L9_namesToo_15 d a0 a1 a2 e0 e1 e2 h =
  (if a2 < (24 : Int) then
    L9_namesToo_30 d a2 e0 e1 e2 a0 a1 (10 : Int) h
  else
    L9_namesToo_30 d a2 e0 e1 e2 a0 a1 (11 : Int) h) := (zv_lim_eq _ _ _ _ _ _).trans rfl
set_option maxRecDepth 100000 in
theorem qL9_namesToo_30 (d : Nat) (a2 : Int) (e0 : Nat) (e1 : Int) (e2 : Int) (e3 : Nat) (e4 : Int) (e5 : Int) (h : zv_H) : L9_namesToo_30 d a2 e0 e1 e2 e3 e4 e5 h =
  ((C9_of d e3 e4 e5 h).bind fun q1 =>
  ((C9_sets d e0 e1 e2 (zv_or q1.1 (zv_shl (1 : Int) ((a2).tmod (24 : Int)))) q1.2).bind fun g2 =>
  (some (none, g2)))) := (zv_lim_eq _ _ _ _ _ _).trans rfl
set_option maxRecDepth 100000 in
theorem qE9_isOfLine (d : Nat) (a0 : Nat) (a1 : Int) (a2 : Int) (h : zv_H) : E9_isOfLine d a0 a1 a2 h =
  L9_isOfLine_2 d a0 a1 a2 h := (zv_lim_eq _ _ _ _ _ _).trans rfl
set_option maxRecDepth 100000 in
theorem qL9_isOfLine_2 (d : Nat) (a0 : Nat) (a1 : Int) (a3 : Int) (h : zv_H) : L9_isOfLine_2 d a0 a1 a3 h =
  (if a3 < 0 then
    (some (some (zv_i (0 : Int)), h))
  else
    (if a3 = a1 then
      (some (some (zv_i (1 : Int)), h))
    else
      ((C9_of d a0 a3 (1 : Int) h).bind fun q1 =>
      L9_isOfLine_2 d a0 a1 q1.1 q1.2))) := (zv_lim_eq _ _ _ _ _ _).trans rfl
set_option maxRecDepth 100000 in
theorem qE9_depthOf (d : Nat) (a0 : Nat) (a1 : Int) (h : zv_H) : E9_depthOf d a0 a1 h =
  ((C9_of d a0 a1 (1 : Int) h).bind fun q1 =>
  L9_depthOf_9 d a0 (0 : Int) q1.1 q1.2) := (zv_lim_eq _ _ _ _ _ _).trans rfl
set_option maxRecDepth 100000 in
theorem qL9_depthOf_9 (d : Nat) (a0 : Nat) (a2 : Int) (a3 : Int) (h : zv_H) : L9_depthOf_9 d a0 a2 a3 h =
  (if a3 < 0 then
    (some (some (zv_i a2), h))
  else
    ((C9_of d a0 a3 (1 : Int) h).bind fun q1 =>
    L9_depthOf_9 d a0 (zv_w (a2 + 1)) q1.1 q1.2)) := (zv_lim_eq _ _ _ _ _ _).trans rfl
set_option maxRecDepth 100000 in
theorem qE9_rowOf (d : Nat) (a0 : Nat) (a1 : Int) (a2 : Int) (h : zv_H) : E9_rowOf d a0 a1 a2 h =
  L9_rowOf_2 d a0 a1 a2 (0 : Int) h := (zv_lim_eq _ _ _ _ _ _).trans rfl
set_option maxRecDepth 100000 in
theorem qL9_rowOf_2 (d : Nat) (a0 : Nat) (a1 : Int) (a2 : Int) (a3 : Int) (h : zv_H) : L9_rowOf_2 d a0 a1 a2 a3 h =
  ((zv_gI h a0 9 11).bind fun v1 =>
  (if a3 < v1 then
    ((zv_gR h a0 9 6).bind fun v2 =>
    ((zv_aI h v2 a3).bind fun v3 =>
    (if v3 = a1 then
      ((zv_gR h a0 9 7).bind fun v4 =>
      ((zv_aI h v4 a3).bind fun v5 =>
      (if v5 = a2 then
        (some (some (zv_i a3), h))
      else
        L9_rowOf_2 d a0 a1 a2 (zv_w (a3 + 1)) h)))
    else
      L9_rowOf_2 d a0 a1 a2 (zv_w (a3 + 1)) h)))
  else
    (some (some (zv_i (-1 : Int)), h)))) := (zv_lim_eq _ _ _ _ _ _).trans rfl
set_option maxRecDepth 100000 in
theorem qE9_letsIn (d : Nat) (a0 : Nat) (a1 : Int) (h : zv_H) : E9_letsIn d a0 a1 h =
  ((C9_of d a0 a1 (8 : Int) h).bind fun q1 =>
  (if q1.1 < 0 then
    L9_letsIn_34 d a0 a1 (0 : Int) q1.2
  else
    ((C9_of d a0 a1 (8 : Int) q1.2).bind fun q2 =>
    ((C9_of d a0 a1 (9 : Int) q2.2).bind fun q3 =>
    ((C9_rowOf d a0 q2.1 q3.1 q3.2).bind fun q4 =>
    L9_letsIn_34 d a0 a1 (zv_w (q4.1 + (1 : Int))) q4.2))))) := (zv_lim_eq _ _ _ _ _ _).trans rfl
set_option maxRecDepth 100000 in
theorem qL9_letsIn_34 (d : Nat) (a0 : Nat) (a1 : Int) (e0 : Int) (h : zv_H) : L9_letsIn_34 d a0 a1 e0 h =
  ((C9_of d a0 a1 (5 : Int) h).bind fun q1 =>
  ((zv_gI q1.2 a0 9 11).bind fun v2 =>
  L9_letsIn_50 d a0 a1 e0 q1.1 (zv_w (v2 - (1 : Int))) q1.2)) := (zv_lim_eq _ _ _ _ _ _).trans rfl
set_option maxRecDepth 100000 in
theorem qL9_letsIn_50 (d : Nat) (a0 : Nat) (a1 : Int) (a2 : Int) (a3 : Int) (a4 : Int) (h : zv_H) : L9_letsIn_50 d a0 a1 a2 a3 a4 h =
  (if a4 < a2 then
    L9_letsIn_97 d a0 a1 a2 a3 (0 : Int) h
  else
    ((zv_gR h a0 9 6).bind fun v1 =>
    ((zv_gR h a0 9 6).bind fun v2 =>
    ((zv_aI h v2 a4).bind fun v3 =>
    ((zv_wI h v1 (zv_w (a4 + a3)) v3).bind fun g4 =>
    ((zv_gR g4 a0 9 7).bind fun v5 =>
    ((zv_gR g4 a0 9 7).bind fun v6 =>
    ((zv_aI g4 v6 a4).bind fun v7 =>
    ((zv_wI g4 v5 (zv_w (a4 + a3)) v7).bind fun g8 =>
    L9_letsIn_50 d a0 a1 a2 a3 (zv_w (a4 + (-1))) g8))))))))) := (zv_lim_eq _ _ _ _ _ _).trans rfl
set_option maxRecDepth 100000 in
theorem qL9_letsIn_97 (d : Nat) (a0 : Nat) (a1 : Int) (a2 : Int) (a3 : Int) (a4 : Int) (h : zv_H) : L9_letsIn_97 d a0 a1 a2 a3 a4 h =
  (if a4 < a3 then
    ((zv_gR h a0 9 6).bind fun v1 =>
    ((zv_wI h v1 (zv_w (a2 + a4)) a1).bind fun g2 =>
    ((zv_gR g2 a0 9 7).bind fun v3 =>
    ((zv_wI g2 v3 (zv_w (a2 + a4)) a4).bind fun g4 =>
    L9_letsIn_97 d a0 a1 a2 a3 (zv_w (a4 + 1)) g4))))
  else
    ((zv_gI h a0 9 11).bind fun v5 =>
    ((zv_pI h a0 9 11 (zv_w (v5 + a3))).bind fun g6 =>
    (some (none, g6))))) := (zv_lim_eq _ _ _ _ _ _).trans rfl
set_option maxRecDepth 100000 in
theorem qE9_turns (d : Nat) (a0 : Nat) (a1 : Int) (h : zv_H) : E9_turns d a0 a1 h =
  L9_turns_2 d a0 a1 (0 : Int) h := (zv_lim_eq _ _ _ _ _ _).trans rfl
set_option maxRecDepth 100000 in
theorem qL9_turns_2 (d : Nat) (a0 : Nat) (a1 : Int) (a2 : Int) (h : zv_H) : L9_turns_2 d a0 a1 a2 h =
  ((zv_gI h a0 9 10).bind fun v1 =>
  (if a2 < v1 then
    ((zv_gR h a0 9 5).bind fun v2 =>
    ((zv_aI h v2 a2).bind fun v3 =>
    ((C9_names d a0 a1 v3 h).bind fun q4 =>
    (if q4.1 = 0 then
      L9_turns_2 d a0 a1 (zv_w (a2 + 1)) q4.2
    else
      ((zv_gR q4.2 a0 9 8).bind fun v5 =>
      ((zv_gR q4.2 a0 9 5).bind fun v6 =>
      ((zv_aI q4.2 v6 a2).bind fun v7 =>
      ((C9_of d a0 a1 (2 : Int) q4.2).bind fun q8 =>
      (if q8.1 = (3 : Int) then
        ((zv_wB q8.2 v5 v7 (1 : Int)).bind fun g9 =>
        L9_turns_2 d a0 a1 (zv_w (a2 + 1)) g9)
      else
        ((zv_wB q8.2 v5 v7 (0 : Int)).bind fun g10 =>
        L9_turns_2 d a0 a1 (zv_w (a2 + 1)) g10))))))))))
  else
    (some (none, h)))) := (zv_lim_eq _ _ _ _ _ _).trans rfl
set_option maxRecDepth 100000 in
theorem qE9_sees (d : Nat) (a0 : Nat) (a1 : Int) (h : zv_H) : E9_sees d a0 a1 h =
  ((C9_depthOf d a0 a1 h).bind fun q1 =>
  ((zv_pI q1.2 a0 9 10 (zv_w (q1.1 + (1 : Int)))).bind fun g2 =>
  ((zv_gI g2 a0 9 10).bind fun v3 =>
  L9_sees_20 d a0 (zv_w (v3 - (1 : Int))) a1 g2))) := (zv_lim_eq _ _ _ _ _ _).trans rfl
set_option maxRecDepth 100000 in
theorem qL9_sees_20 (d : Nat) (a0 : Nat) (a2 : Int) (a3 : Int) (h : zv_H) : L9_sees_20 d a0 a2 a3 h =
  (if a3 < 0 then
    ((C9_of d a0 (0 : Int) (5 : Int) h).bind fun q1 =>
    ((zv_pI q1.2 a0 9 11 q1.1).bind fun g2 =>
    L9_sees_56 d a0 (0 : Int) g2))
  else
    ((zv_gR h a0 9 5).bind fun v3 =>
    ((zv_wI h v3 a2 a3).bind fun g4 =>
    ((C9_of d a0 a3 (1 : Int) g4).bind fun q5 =>
    L9_sees_20 d a0 (zv_w (a2 + (-1))) q5.1 q5.2)))) := (zv_lim_eq _ _ _ _ _ _).trans rfl
set_option maxRecDepth 100000 in
theorem qL9_sees_56 (d : Nat) (a0 : Nat) (a3 : Int) (h : zv_H) : L9_sees_56 d a0 a3 h =
  ((zv_gI h a0 9 11).bind fun v1 =>
  (if a3 < v1 then
    ((zv_gR h a0 9 6).bind fun v2 =>
    ((zv_wI h v2 a3 (0 : Int)).bind fun g3 =>
    ((zv_gR g3 a0 9 7).bind fun v4 =>
    ((zv_wI g3 v4 a3 a3).bind fun g5 =>
    L9_sees_56 d a0 (zv_w (a3 + 1)) g5))))
  else
    ((zv_gR h a0 9 8).bind fun v6 =>
    ((zv_wB h v6 (0 : Int) (1 : Int)).bind fun g7 =>
    L9_sees_93 d a0 (1 : Int) g7)))) := (zv_lim_eq _ _ _ _ _ _).trans rfl
set_option maxRecDepth 100000 in
theorem qL9_sees_93 (d : Nat) (a0 : Nat) (a3 : Int) (h : zv_H) : L9_sees_93 d a0 a3 h =
  ((zv_gI h a0 9 10).bind fun v1 =>
  (if a3 < v1 then
    ((zv_gR h a0 9 5).bind fun v2 =>
    ((zv_aI h v2 a3).bind fun v3 =>
    ((zv_gR h a0 9 8).bind fun v4 =>
    ((C9_isEdit d a0 v3 h).bind fun q5 =>
    ((zv_wB q5.2 v4 v3 q5.1).bind fun g6 =>
    ((C9_of d a0 v3 (2 : Int) g6).bind fun q7 =>
    (if q7.1 = 0 then
      ((C9_letsIn d a0 v3 q7.2).bind fun g8 =>
      L9_sees_138 d a0 a3 v3 g8)
    else
      L9_sees_138 d a0 a3 v3 q7.2)))))))
  else
    L9_sees_161 d a0 (0 : Int) h)) := (zv_lim_eq _ _ _ _ _ _).trans rfl
set_option maxRecDepth 100000 in
theorem qL9_sees_138 (d : Nat) (a0 : Nat) (a3 : Int) (a4 : Int) (h : zv_H) : L9_sees_138 d a0 a3 a4 h =
  ((C9_isEdit d a0 a4 h).bind fun q1 =>
  (if q1.1 = 0 then
    ((C9_turns d a0 a4 q1.2).bind fun g2 =>
    L9_sees_93 d a0 (zv_w (a3 + 1)) g2)
  else
    L9_sees_93 d a0 (zv_w (a3 + 1)) q1.2)) := (zv_lim_eq _ _ _ _ _ _).trans rfl
set_option maxRecDepth 100000 in
theorem qL9_sees_161 (d : Nat) (a0 : Nat) (a3 : Int) (h : zv_H) : L9_sees_161 d a0 a3 h =
  ((zv_gI h a0 9 11).bind fun v1 =>
  (if a3 < v1 then
    ((zv_gR h a0 9 9).bind fun v2 =>
    ((zv_gR h a0 9 8).bind fun v3 =>
    ((zv_gR h a0 9 6).bind fun v4 =>
    ((zv_aI h v4 a3).bind fun v5 =>
    ((zv_aB h v3 v5).bind fun v6 =>
    ((zv_wB h v2 a3 v6).bind fun g7 =>
    L9_sees_161 d a0 (zv_w (a3 + 1)) g7))))))
  else
    L9_sees_194 d a0 (1 : Int) h)) := (zv_lim_eq _ _ _ _ _ _).trans rfl
set_option maxRecDepth 100000 in
theorem qL9_sees_194 (d : Nat) (a0 : Nat) (a3 : Int) (h : zv_H) : L9_sees_194 d a0 a3 h =
  ((zv_gI h a0 9 10).bind fun v1 =>
  (if a3 < v1 then
    ((zv_gR h a0 9 5).bind fun v2 =>
    ((zv_aI h v2 a3).bind fun v3 =>
    L9_sees_213 d a0 a3 v3 (0 : Int) h))
  else
    ((zv_pI h a0 9 12 (0 : Int)).bind fun g4 =>
    L9_sees_303 d a0 (0 : Int) g4))) := (zv_lim_eq _ _ _ _ _ _).trans rfl
set_option maxRecDepth 100000 in
theorem qL9_sees_213 (d : Nat) (a0 : Nat) (a3 : Int) (a4 : Int) (a5 : Int) (h : zv_H) : L9_sees_213 d a0 a3 a4 a5 h =
  ((C9_of d a0 a4 (2 : Int) h).bind fun q1 =>
  (if q1.1 = (1 : Int) then
    ((zv_gR q1.2 a0 9 8).bind fun v2 =>
    ((zv_aB q1.2 v2 a4).bind fun v3 =>
    (if v3 = 0 then
      L9_sees_194 d a0 (zv_w (a3 + 1)) q1.2
    else
      ((C9_of d a0 a4 (5 : Int) q1.2).bind fun q4 =>
      (if a5 < q4.1 then
        ((zv_gR q4.2 a0 9 9).bind fun v5 =>
        ((C9_of d a0 a4 (zv_w ((52 : Int) + (zv_w ((2 : Int) * a5)))) q4.2).bind fun q6 =>
        ((C9_of d a0 a4 (zv_w ((zv_w ((52 : Int) + (zv_w ((2 : Int) * a5)))) + (1 : Int))) q6.2).bind fun q7 =>
        ((C9_rowOf d a0 q6.1 q7.1 q7.2).bind fun q8 =>
        ((zv_wB q8.2 v5 q8.1 (0 : Int)).bind fun g9 =>
        L9_sees_213 d a0 a3 a4 (zv_w (a5 + 1)) g9)))))
      else
        L9_sees_194 d a0 (zv_w (a3 + 1)) q4.2)))))
  else
    L9_sees_194 d a0 (zv_w (a3 + 1)) q1.2)) := (zv_lim_eq _ _ _ _ _ _).trans rfl
set_option maxRecDepth 100000 in
theorem qL9_sees_303 (d : Nat) (a0 : Nat) (a3 : Int) (h : zv_H) : L9_sees_303 d a0 a3 h =
  ((zv_gI h a0 9 11).bind fun v1 =>
  (if a3 < v1 then
    ((zv_gI h a0 9 12).bind fun v2 =>
    ((zv_gR h a0 9 9).bind fun v3 =>
    ((zv_aB h v3 a3).bind fun v4 =>
    (if v4 = 0 then
      ((zv_pI h a0 9 12 (zv_w (v2 + (0 : Int)))).bind fun g5 =>
      L9_sees_303 d a0 (zv_w (a3 + 1)) g5)
    else
      ((zv_pI h a0 9 12 (zv_w (v2 + (1 : Int)))).bind fun g6 =>
      L9_sees_303 d a0 (zv_w (a3 + 1)) g6)))))
  else
    (some (none, h)))) := (zv_lim_eq _ _ _ _ _ _).trans rfl
set_option maxRecDepth 100000 in
theorem qE9_rowPlace (d : Nat) (a0 : Nat) (a1 : Int) (h : zv_H) : E9_rowPlace d a0 a1 h =
  L9_rowPlace_4 d a0 a1 (0 : Int) h := (zv_lim_eq _ _ _ _ _ _).trans rfl
set_option maxRecDepth 100000 in
theorem qL9_rowPlace_4 (d : Nat) (a0 : Nat) (a2 : Int) (a3 : Int) (h : zv_H) : L9_rowPlace_4 d a0 a2 a3 h =
  ((zv_gI h a0 9 11).bind fun v1 =>
  (if a3 < v1 then
    ((zv_gR h a0 9 9).bind fun v2 =>
    ((zv_aB h v2 a3).bind fun v3 =>
    (if v3 = 0 then
      L9_rowPlace_4 d a0 a2 (zv_w (a3 + 1)) h
    else
      (if a2 = 0 then
        (some (some (zv_i a3), h))
      else
        L9_rowPlace_4 d a0 (zv_w (a2 + (-1))) (zv_w (a3 + 1)) h))))
  else
    (some (some (zv_i (-1 : Int)), h)))) := (zv_lim_eq _ _ _ _ _ _).trans rfl
set_option maxRecDepth 100000 in
theorem qE9_letterIn (d : Nat) (a0 : Nat) (a1 : Int) (h : zv_H) : E9_letterIn d a0 a1 h =
  ((zv_gR h a0 9 6).bind fun v1 =>
  ((zv_aI h v1 a1).bind fun v2 =>
  ((zv_gR h a0 9 7).bind fun v3 =>
  ((zv_aI h v3 a1).bind fun v4 =>
  ((C9_of d a0 v2 (zv_w ((12 : Int) + v4)) h).bind fun q5 =>
  (some (some (zv_i q5.1), q5.2))))))) := (zv_lim_eq _ _ _ _ _ _).trans rfl
set_option maxRecDepth 100000 in
theorem qE9_lettersOf (d : Nat) (a0 : Nat) (a1 : Int) (h : zv_H) : E9_lettersOf d a0 a1 h =
  ((C9_sees d a0 a1 h).bind fun g1 =>
  ((zv_gI g1 a0 9 12).bind fun v2 =>
  (some (some (zv_i v2), g1)))) := (zv_lim_eq _ _ _ _ _ _).trans rfl
set_option maxRecDepth 100000 in
theorem qE9_copies (d : Nat) (a0 : Nat) (a1 : Int) (a2 : Nat) (h : zv_H) : E9_copies d a0 a1 a2 h =
  ((C9_sees d a0 a1 h).bind fun g1 =>
  L9_copies_10 d a0 a2 (0 : Int) (0 : Int) g1) := (zv_lim_eq _ _ _ _ _ _).trans rfl
set_option maxRecDepth 100000 in
theorem qL9_copies_10 (d : Nat) (a0 : Nat) (a2 : Nat) (a3 : Int) (a4 : Int) (h : zv_H) : L9_copies_10 d a0 a2 a3 a4 h =
  ((zv_gI h a0 9 11).bind fun v1 =>
  (if a4 < v1 then
    ((zv_gR h a0 9 9).bind fun v2 =>
    ((zv_aB h v2 a4).bind fun v3 =>
    (if v3 = 0 then
      L9_copies_10 d a0 a2 a3 (zv_w (a4 + 1)) h
    else
      ((C9_letterIn d a0 a4 h).bind fun q4 =>
      ((zv_wI q4.2 a2 a3 q4.1).bind fun g5 =>
      L9_copies_10 d a0 a2 (zv_w (a3 + 1)) (zv_w (a4 + 1)) g5)))))
  else
    (some (some (zv_i a3), h)))) := (zv_lim_eq _ _ _ _ _ _).trans rfl
set_option maxRecDepth 100000 in
theorem qE9_visits (d : Nat) (a0 : Nat) (a1 : Int) (h : zv_H) : E9_visits d a0 a1 h =
  ((C9_here d a0 h).bind fun q1 =>
  (if a1 = q1.1 then
    (some (none, q1.2))
  else
    ((zv_gR q1.2 a0 9 0).bind fun v2 =>
    ((zv_wI q1.2 v2 (0 : Int) a1).bind fun g3 =>
    ((zv_gR g3 a0 9 0).bind fun v4 =>
    ((zv_aI g3 v4 (2 : Int)).bind fun v5 =>
    ((zv_wI g3 v4 (2 : Int) (zv_w (v5 + (1 : Int)))).bind fun g6 =>
    ((zv_gR g6 a0 9 0).bind fun v7 =>
    ((zv_aI g6 v7 (2 : Int)).bind fun v8 =>
    ((C9_sets d a0 a1 (7 : Int) v8 g6).bind fun g9 =>
    L9_visits_42 d a0 a1 (79 : Int) g9)))))))))) := (zv_lim_eq _ _ _ _ _ _).trans rfl
set_option maxRecDepth 100000 in
theorem qL9_visits_42 (d : Nat) (a0 : Nat) (a1 : Int) (a2 : Int) (h : zv_H) : L9_visits_42 d a0 a1 a2 h =
  (if a2 ≤ (1 : Int) then
    ((zv_gR h a0 9 0).bind fun v1 =>
    ((zv_wI h v1 (4156 : Int) a1).bind fun g2 =>
    ((zv_gR g2 a0 9 0).bind fun v3 =>
    ((zv_gR g2 a0 9 0).bind fun v4 =>
    ((zv_aI g2 v4 (1 : Int)).bind fun v5 =>
    ((zv_wI g2 v3 (4157 : Int) v5).bind fun g6 =>
    ((zv_gR g6 a0 9 0).bind fun v7 =>
    ((zv_gR g6 a0 9 0).bind fun v8 =>
    ((zv_aI g6 v8 (5 : Int)).bind fun v9 =>
    (if v9 < (40 : Int) then
      ((zv_gR g6 a0 9 0).bind fun v10 =>
      ((zv_aI g6 v10 (5 : Int)).bind fun v11 =>
      ((zv_wI g6 v7 (5 : Int) (zv_w (v11 + (1 : Int)))).bind fun g12 =>
      (some (none, g12)))))
    else
      ((zv_wI g6 v7 (5 : Int) (40 : Int)).bind fun g13 =>
      (some (none, g13)))))))))))))
  else
    ((zv_gR h a0 9 0).bind fun v14 =>
    ((zv_gR h a0 9 0).bind fun v15 =>
    ((zv_aI h v15 (zv_w ((zv_w ((4156 : Int) + a2)) - (2 : Int)))).bind fun v16 =>
    ((zv_wI h v14 (zv_w ((4156 : Int) + a2)) v16).bind fun g17 =>
    L9_visits_42 d a0 a1 (zv_w (a2 + (-1))) g17))))) := (zv_lim_eq _ _ _ _ _ _).trans rfl
set_option maxRecDepth 100000 in
theorem qE9_latestIn (d : Nat) (a0 : Nat) (a1 : Int) (h : zv_H) : E9_latestIn d a0 a1 h =
  ((C9_of d a0 a1 (7 : Int) h).bind fun q1 =>
  L9_latestIn_10 d a0 a1 q1.1 (0 : Int) q1.2) := (zv_lim_eq _ _ _ _ _ _).trans rfl
set_option maxRecDepth 100000 in
theorem qL9_latestIn_10 (d : Nat) (a0 : Nat) (a1 : Int) (a2 : Int) (a3 : Int) (h : zv_H) : L9_latestIn_10 d a0 a1 a2 a3 h =
  (if a3 < (48 : Int) then
    ((C9_isState d a0 a3 h).bind fun q1 =>
    (if q1.1 = 0 then
      L9_latestIn_10 d a0 a1 a2 (zv_w (a3 + 1)) q1.2
    else
      ((C9_of d a0 a3 (7 : Int) q1.2).bind fun q2 =>
      (if q2.1 ≤ a2 then
        L9_latestIn_10 d a0 a1 a2 (zv_w (a3 + 1)) q2.2
      else
        ((C9_isOfLine d a0 a1 a3 q2.2).bind fun q3 =>
        (if q3.1 = 0 then
          L9_latestIn_10 d a0 a1 a2 (zv_w (a3 + 1)) q3.2
        else
          ((C9_of d a0 a3 (7 : Int) q3.2).bind fun q4 =>
          L9_latestIn_10 d a0 a1 q4.1 (zv_w (a3 + 1)) q4.2)))))))
  else
    (some (some (zv_i a2), h))) := (zv_lim_eq _ _ _ _ _ _).trans rfl
set_option maxRecDepth 100000 in
theorem qE9_childOf (d : Nat) (a0 : Nat) (a1 : Int) (a2 : Int) (h : zv_H) : E9_childOf d a0 a1 a2 h =
  L9_childOf_2 d a0 a1 a2 (0 : Int) h := (zv_lim_eq _ _ _ _ _ _).trans rfl
set_option maxRecDepth 100000 in
theorem qL9_childOf_2 (d : Nat) (a0 : Nat) (a1 : Int) (a2 : Int) (a3 : Int) (h : zv_H) : L9_childOf_2 d a0 a1 a2 a3 h =
  (if a3 < (48 : Int) then
    ((C9_isState d a0 a3 h).bind fun q1 =>
    (if q1.1 = 0 then
      L9_childOf_2 d a0 a1 a2 (zv_w (a3 + 1)) q1.2
    else
      ((C9_of d a0 a3 (1 : Int) q1.2).bind fun q2 =>
      (if q2.1 = a1 then
        L9_childOf_35 d a0 a1 a2 a3 (0 : Int) (0 : Int) q2.2
      else
        L9_childOf_2 d a0 a1 a2 (zv_w (a3 + 1)) q2.2))))
  else
    (some (some (zv_i (-1 : Int)), h))) := (zv_lim_eq _ _ _ _ _ _).trans rfl
set_option maxRecDepth 100000 in
theorem qL9_childOf_35 (d : Nat) (a0 : Nat) (a1 : Int) (a2 : Int) (a3 : Int) (a4 : Int) (a5 : Int) (h : zv_H) : L9_childOf_35 d a0 a1 a2 a3 a4 a5 h =
  (if a5 < (48 : Int) then
    ((C9_isState d a0 a5 h).bind fun q1 =>
    (if q1.1 = 0 then
      L9_childOf_35 d a0 a1 a2 a3 (zv_w (a4 + (0 : Int))) (zv_w (a5 + 1)) q1.2
    else
      ((C9_of d a0 a5 (1 : Int) q1.2).bind fun q2 =>
      (if q2.1 = a1 then
        ((C9_latestIn d a0 a5 q2.2).bind fun q3 =>
        ((C9_latestIn d a0 a3 q3.2).bind fun q4 =>
        (if q3.1 ≤ q4.1 then
          L9_childOf_35 d a0 a1 a2 a3 (zv_w (a4 + (0 : Int))) (zv_w (a5 + 1)) q4.2
        else
          L9_childOf_35 d a0 a1 a2 a3 (zv_w (a4 + (1 : Int))) (zv_w (a5 + 1)) q4.2)))
      else
        L9_childOf_35 d a0 a1 a2 a3 (zv_w (a4 + (0 : Int))) (zv_w (a5 + 1)) q2.2))))
  else
    (if a4 = a2 then
      (some (some (zv_i a3), h))
    else
      L9_childOf_2 d a0 a1 a2 (zv_w (a3 + 1)) h)) := (zv_lim_eq _ _ _ _ _ _).trans rfl
set_option maxRecDepth 100000 in
theorem qE9_childrenOf (d : Nat) (a0 : Nat) (a1 : Int) (h : zv_H) : E9_childrenOf d a0 a1 h =
  L9_childrenOf_4 d a0 a1 (0 : Int) (0 : Int) h := (zv_lim_eq _ _ _ _ _ _).trans rfl
set_option maxRecDepth 100000 in
theorem qL9_childrenOf_4 (d : Nat) (a0 : Nat) (a1 : Int) (a2 : Int) (a3 : Int) (h : zv_H) : L9_childrenOf_4 d a0 a1 a2 a3 h =
  (if a3 < (48 : Int) then
    ((C9_isState d a0 a3 h).bind fun q1 =>
    (if q1.1 = 0 then
      L9_childrenOf_4 d a0 a1 (zv_w (a2 + (0 : Int))) (zv_w (a3 + 1)) q1.2
    else
      ((C9_of d a0 a3 (1 : Int) q1.2).bind fun q2 =>
      (if q2.1 = a1 then
        L9_childrenOf_4 d a0 a1 (zv_w (a2 + (1 : Int))) (zv_w (a3 + 1)) q2.2
      else
        L9_childrenOf_4 d a0 a1 (zv_w (a2 + (0 : Int))) (zv_w (a3 + 1)) q2.2))))
  else
    (some (some (zv_i a2), h))) := (zv_lim_eq _ _ _ _ _ _).trans rfl
set_option maxRecDepth 100000 in
theorem qE9_freeState (d : Nat) (a0 : Nat) (h : zv_H) : E9_freeState d a0 h =
  L9_freeState_2 d a0 (0 : Int) h := (zv_lim_eq _ _ _ _ _ _).trans rfl
set_option maxRecDepth 100000 in
theorem qL9_freeState_2 (d : Nat) (a0 : Nat) (a1 : Int) (h : zv_H) : L9_freeState_2 d a0 a1 h =
  (if a1 < (48 : Int) then
    ((C9_of d a0 a1 (0 : Int) h).bind fun q1 =>
    (if q1.1 = (1 : Int) then
      L9_freeState_2 d a0 (zv_w (a1 + 1)) q1.2
    else
      (some (some (zv_i a1), q1.2))))
  else
    (some (some (zv_i a1), h))) := (zv_lim_eq _ _ _ _ _ _).trans rfl
set_option maxRecDepth 100000 in
theorem qE9_isNear (d : Nat) (a0 : Nat) (a1 : Int) (a2 : Int) (a3 : Int) (a4 : Int) (h : zv_H) : E9_isNear d a0 a1 a2 a3 a4 h =
  ((C9_of d a0 a4 (2 : Int) h).bind fun q1 =>
  (if q1.1 = 0 then
    L9_isNear_15 d a0 a1 a2 a3 a4 (1 : Int) q1.2
  else
    L9_isNear_15 d a0 a1 a2 a3 a4 (0 : Int) q1.2)) := (zv_lim_eq _ _ _ _ _ _).trans rfl
set_option maxRecDepth 100000 in
theorem qL9_isNear_15 (d : Nat) (a0 : Nat) (a1 : Int) (a2 : Int) (a3 : Int) (a4 : Int) (e0 : Int) (h : zv_H) : L9_isNear_15 d a0 a1 a2 a3 a4 e0 h =
  ((C9_of d a0 a4 (4 : Int) h).bind fun q1 =>
  ((C9_of d a0 a4 (5 : Int) q1.2).bind fun q2 =>
  (if a1 = 0 then
    (if e0 = 0 then
      (if a2 = q1.1 then
        (some (some (zv_i (1 : Int)), q2.2))
      else
        (some (some (zv_i (0 : Int)), q2.2)))
    else
      (if a2 = (zv_w (q1.1 + q2.1)) then
        (some (some (zv_i (1 : Int)), q2.2))
      else
        (some (some (zv_i (0 : Int)), q2.2))))
  else
    (if e0 = 0 then
      (if a2 = q1.1 then
        (some (some (zv_i (1 : Int)), q2.2))
      else
        (if (zv_w (a2 + a3)) = q1.1 then
          (some (some (zv_i (1 : Int)), q2.2))
        else
          (some (some (zv_i (0 : Int)), q2.2))))
    else
      (if (zv_w (a2 + a3)) = (zv_w (q1.1 + q2.1)) then
        (some (some (zv_i (1 : Int)), q2.2))
      else
        (some (some (zv_i (0 : Int)), q2.2))))))) := (zv_lim_eq _ _ _ _ _ _).trans rfl
set_option maxRecDepth 100000 in
theorem qE9_compares (d : Nat) (a0 : Int) (a1 : Int) (a2 : Int) (h : zv_H) : E9_compares d a0 a1 a2 h =
  (if a0 = 0 then
    (if a1 < a2 then
      (some (some (zv_i (1 : Int)), h))
    else
      (some (some (zv_i (0 : Int)), h)))
  else
    (if a0 = (1 : Int) then
      (if a1 = a2 then
        (some (some (zv_i (1 : Int)), h))
      else
        (some (some (zv_i (0 : Int)), h)))
    else
      (if a1 ≤ a2 then
        (some (some (zv_i (0 : Int)), h))
      else
        (some (some (zv_i (1 : Int)), h))))) := (zv_lim_eq _ _ _ _ _ _).trans rfl
set_option maxRecDepth 100000 in
theorem qE9_holds (d : Nat) (a0 : Nat) (h : zv_H) : E9_holds d a0 h =
  ((zv_gR h a0 9 0).bind fun v1 =>
  ((zv_aI h v1 (4 : Int)).bind fun v2 =>
  (if v2 = 0 then
    ((zv_gR h a0 9 15).bind fun v3 =>
    ((zv_aI h v3 (0 : Int)).bind fun v4 =>
    (if v4 < (3 : Int) then
      ((zv_gR h a0 9 15).bind fun v5 =>
      ((zv_aI h v5 (3 : Int)).bind fun v6 =>
      (if v6 = (1 : Int) then
        ((zv_gR h a0 9 15).bind fun v7 =>
        ((zv_aI h v7 (4 : Int)).bind fun v8 =>
        (if v8 = (1 : Int) then
          ((zv_gR h a0 9 15).bind fun v9 =>
          ((zv_aI h v9 (1 : Int)).bind fun v10 =>
          (if v10 < (8 : Int) then
            (some (some (zv_i (1 : Int)), h))
          else
            (some (some (zv_i (0 : Int)), h)))))
        else
          (some (some (zv_i (0 : Int)), h)))))
      else
        (some (some (zv_i (0 : Int)), h)))))
    else
      (some (some (zv_i (0 : Int)), h)))))
  else
    L9_holds_60 d a0 (0 : Int) (0 : Int) h))) := (zv_lim_eq _ _ _ _ _ _).trans rfl
set_option maxRecDepth 100000 in
theorem qL9_holds_60 (d : Nat) (a0 : Nat) (a1 : Int) (a2 : Int) (h : zv_H) : L9_holds_60 d a0 a1 a2 h =
  ((zv_gR h a0 9 0).bind fun v1 =>
  ((zv_aI h v1 (4 : Int)).bind fun v2 =>
  (if a2 < v2 then
    ((zv_gR h a0 9 0).bind fun v3 =>
    ((zv_aI h v3 (zv_w ((8 : Int) + a2))).bind fun v4 =>
    (if v4 < 0 then
      (if v4 = (-1 : Int) then
        ((zv_gR h a0 9 16).bind fun v5 =>
        ((zv_gR h a0 9 16).bind fun v6 =>
        ((zv_aB h v6 (zv_w (a1 - (1 : Int)))).bind fun v7 =>
        (if v7 = 0 then
          ((zv_wB h v5 (zv_w (a1 - (1 : Int))) (1 : Int)).bind fun g8 =>
          L9_holds_60 d a0 a1 (zv_w (a2 + 1)) g8)
        else
          ((zv_wB h v5 (zv_w (a1 - (1 : Int))) (0 : Int)).bind fun g9 =>
          L9_holds_60 d a0 a1 (zv_w (a2 + 1)) g9)))))
      else
        ((zv_gR h a0 9 16).bind fun v10 =>
        (if v4 = (-2 : Int) then
          ((zv_gR h a0 9 16).bind fun v11 =>
          ((zv_aB h v11 (zv_w ((zv_w (a1 + (-1))) - (1 : Int)))).bind fun v12 =>
          (if v12 = 0 then
            ((zv_wB h v10 (zv_w ((zv_w (a1 + (-1))) - (1 : Int))) (0 : Int)).bind fun g13 =>
            L9_holds_60 d a0 (zv_w (a1 + (-1))) (zv_w (a2 + 1)) g13)
          else
            ((zv_gR h a0 9 16).bind fun v14 =>
            ((zv_aB h v14 (zv_w (a1 + (-1)))).bind fun v15 =>
            (if v15 = 0 then
              ((zv_wB h v10 (zv_w ((zv_w (a1 + (-1))) - (1 : Int))) (0 : Int)).bind fun g16 =>
              L9_holds_60 d a0 (zv_w (a1 + (-1))) (zv_w (a2 + 1)) g16)
            else
              ((zv_wB h v10 (zv_w ((zv_w (a1 + (-1))) - (1 : Int))) (1 : Int)).bind fun g17 =>
              L9_holds_60 d a0 (zv_w (a1 + (-1))) (zv_w (a2 + 1)) g17)))))))
        else
          ((zv_gR h a0 9 16).bind fun v18 =>
          ((zv_aB h v18 (zv_w ((zv_w (a1 + (-1))) - (1 : Int)))).bind fun v19 =>
          (if v19 = 0 then
            ((zv_gR h a0 9 16).bind fun v20 =>
            ((zv_aB h v20 (zv_w (a1 + (-1)))).bind fun v21 =>
            (if v21 = 0 then
              ((zv_wB h v10 (zv_w ((zv_w (a1 + (-1))) - (1 : Int))) (0 : Int)).bind fun g22 =>
              L9_holds_60 d a0 (zv_w (a1 + (-1))) (zv_w (a2 + 1)) g22)
            else
              ((zv_wB h v10 (zv_w ((zv_w (a1 + (-1))) - (1 : Int))) (1 : Int)).bind fun g23 =>
              L9_holds_60 d a0 (zv_w (a1 + (-1))) (zv_w (a2 + 1)) g23))))
          else
            ((zv_wB h v10 (zv_w ((zv_w (a1 + (-1))) - (1 : Int))) (1 : Int)).bind fun g24 =>
            L9_holds_60 d a0 (zv_w (a1 + (-1))) (zv_w (a2 + 1)) g24)))))))
    else
      ((zv_gR h a0 9 16).bind fun v25 =>
      ((zv_gR h a0 9 15).bind fun v26 =>
      ((zv_aI h v26 ((v4).tmod (6 : Int))).bind fun v27 =>
      ((C9_compares d (((zv_w ((v4).tdiv (6 : Int)))).tmod (3 : Int)) v27 (zv_w ((v4).tdiv (18 : Int))) h).bind fun q28 =>
      ((zv_wB q28.2 v25 a1 q28.1).bind fun g29 =>
      L9_holds_60 d a0 (zv_w (a1 + 1)) (zv_w (a2 + 1)) g29))))))))
  else
    ((zv_gR h a0 9 16).bind fun v30 =>
    ((zv_aB h v30 (0 : Int)).bind fun v31 =>
    (some (some (zv_i (zv_nz v31)), h))))))) := (zv_lim_eq _ _ _ _ _ _).trans rfl
set_option maxRecDepth 100000 in
theorem qE9_joins (d : Nat) (a0 : Nat) (a1 : Int) (a2 : Int) (a3 : Int) (h : zv_H) : E9_joins d a0 a1 a2 a3 h =
  ((C9_here d a0 h).bind fun q1 =>
  ((C9_isEdit d a0 q1.1 q1.2).bind fun q2 =>
  (if q2.1 = 0 then
    (some (some (zv_i (0 : Int)), q2.2))
  else
    ((zv_gR q2.2 a0 9 15).bind fun v3 =>
    ((zv_gR q2.2 a0 9 0).bind fun v4 =>
    ((zv_aI q2.2 v4 (1 : Int)).bind fun v5 =>
    ((C9_of d a0 q1.1 (3 : Int) q2.2).bind fun q6 =>
    ((zv_wI q6.2 v3 (0 : Int) (zv_w (v5 - q6.1))).bind fun g7 =>
    ((zv_gR g7 a0 9 15).bind fun v8 =>
    ((C9_depthOf d a0 q1.1 g7).bind fun q9 =>
    ((C9_of d a0 q1.1 (6 : Int) q9.2).bind fun q10 =>
    ((C9_depthOf d a0 q10.1 q10.2).bind fun q11 =>
    ((zv_wI q11.2 v8 (1 : Int) (zv_w ((zv_w (q9.1 - q11.1)) + (1 : Int)))).bind fun g12 =>
    ((zv_gR g12 a0 9 15).bind fun v13 =>
    ((zv_wI g12 v13 (2 : Int) a1).bind fun g14 =>
    ((zv_gR g14 a0 9 15).bind fun v15 =>
    ((C9_of d a0 q1.1 (2 : Int) g14).bind fun q16 =>
    (if q16.1 = a1 then
      L9_joins_92 d a0 a1 a2 a3 q1.1 v15 (3 : Int) (1 : Int) q16.2
    else
      L9_joins_92 d a0 a1 a2 a3 q1.1 v15 (3 : Int) (0 : Int) q16.2)))))))))))))))))) := (zv_lim_eq _ _ _ _ _ _).trans rfl
set_option maxRecDepth 100000 in
theorem qL9_joins_92 (d : Nat) (a0 : Nat) (a1 : Int) (a2 : Int) (a3 : Int) (a4 : Int) (e0 : Nat) (e1 : Int) (e2 : Int) (h : zv_H) : L9_joins_92 d a0 a1 a2 a3 a4 e0 e1 e2 h =
  ((zv_wI h e0 e1 e2).bind fun g1 =>
  ((zv_gR g1 a0 9 15).bind fun v2 =>
  ((C9_isNear d a0 a1 a2 a3 a4 g1).bind fun q3 =>
  (if q3.1 = 0 then
    L9_joins_115 d a0 a3 v2 (4 : Int) (0 : Int) q3.2
  else
    L9_joins_115 d a0 a3 v2 (4 : Int) (1 : Int) q3.2)))) := (zv_lim_eq _ _ _ _ _ _).trans rfl
set_option maxRecDepth 100000 in
theorem qL9_joins_115 (d : Nat) (a0 : Nat) (a3 : Int) (e0 : Nat) (e1 : Int) (e2 : Int) (h : zv_H) : L9_joins_115 d a0 a3 e0 e1 e2 h =
  ((zv_wI h e0 e1 e2).bind fun g1 =>
  ((zv_gR g1 a0 9 15).bind fun v2 =>
  ((zv_wI g1 v2 (5 : Int) a3).bind fun g3 =>
  ((C9_holds d a0 g3).bind fun q4 =>
  (some (some (zv_i (zv_nz q4.1)), q4.2)))))) := (zv_lim_eq _ _ _ _ _ _).trans rfl
set_option maxRecDepth 100000 in
theorem qE9_begins (d : Nat) (a0 : Nat) (a1 : Int) (a2 : Int) (a3 : Int) (a4 : Int) (a5 : Int) (h : zv_H) : E9_begins d a0 a1 a2 a3 a4 a5 h =
  L9_begins_3 d a0 a1 a2 a3 a4 a5 (0 : Int) h := (zv_lim_eq _ _ _ _ _ _).trans rfl
set_option maxRecDepth 100000 in
theorem qL9_begins_3 (d : Nat) (a0 : Nat) (a1 : Int) (a2 : Int) (a3 : Int) (a4 : Int) (a5 : Int) (a6 : Int) (h : zv_H) : L9_begins_3 d a0 a1 a2 a3 a4 a5 a6 h =
  (if a6 < (76 : Int) then
    ((C9_sets d a0 a1 a6 (0 : Int) h).bind fun g1 =>
    L9_begins_3 d a0 a1 a2 a3 a4 a5 (zv_w (a6 + 1)) g1)
  else
    ((C9_sets d a0 a1 (0 : Int) (1 : Int) h).bind fun g2 =>
    ((C9_here d a0 g2).bind fun q3 =>
    ((C9_sets d a0 a1 (1 : Int) q3.1 q3.2).bind fun g4 =>
    ((C9_sets d a0 a1 (2 : Int) a2 g4).bind fun g5 =>
    ((zv_gR g5 a0 9 0).bind fun v6 =>
    ((zv_aI g5 v6 (1 : Int)).bind fun v7 =>
    ((C9_sets d a0 a1 (3 : Int) v7 g5).bind fun g8 =>
    ((C9_sets d a0 a1 (4 : Int) a3 g8).bind fun g9 =>
    ((C9_sets d a0 a1 (5 : Int) a4 g9).bind fun g10 =>
    (if a5 = 0 then
      L9_begins_98 d a0 a1 a0 a1 (6 : Int) a1 g10
    else
      ((C9_here d a0 g10).bind fun q11 =>
      ((C9_of d a0 q11.1 (6 : Int) q11.2).bind fun q12 =>
      L9_begins_98 d a0 a1 a0 a1 (6 : Int) q12.1 q12.2))))))))))))) := (zv_lim_eq _ _ _ _ _ _).trans rfl
set_option maxRecDepth 100000 in
theorem qL9_begins_98 (d : Nat) (a0 : Nat) (a1 : Int) (e0 : Nat) (e1 : Int) (e2 : Int) (e3 : Int) (h : zv_H) : L9_begins_98 d a0 a1 e0 e1 e2 e3 h =
  ((C9_sets d e0 e1 e2 e3 h).bind fun g1 =>
  ((C9_sets d a0 a1 (8 : Int) (-1 : Int) g1).bind fun g2 =>
  (some (none, g2)))) := (zv_lim_eq _ _ _ _ _ _).trans rfl
set_option maxRecDepth 100000 in
theorem qE9_packed (d : Nat) (a0 : Nat) (a1 : Int) (h : zv_H) : E9_packed d a0 a1 h =
  L9_packed_4 d a0 a1 (0 : Int) (0 : Int) h := (zv_lim_eq _ _ _ _ _ _).trans rfl
set_option maxRecDepth 100000 in
theorem qL9_packed_4 (d : Nat) (a0 : Nat) (a1 : Int) (a2 : Int) (a3 : Int) (h : zv_H) : L9_packed_4 d a0 a1 a2 a3 h =
  (if a3 < a1 then
    ((zv_aI h a0 a3).bind fun v1 =>
    L9_packed_4 d a0 a1 (zv_w ((zv_w ((zv_w ((32 : Int) * a2)) + v1)) + (1 : Int))) (zv_w (a3 + 1)) h)
  else
    (some (some (zv_i a2), h))) := (zv_lim_eq _ _ _ _ _ _).trans rfl
set_option maxRecDepth 100000 in
theorem qE9_nameAt (d : Nat) (a0 : Nat) (a1 : Int) (h : zv_H) : E9_nameAt d a0 a1 h =
  L9_nameAt_2 d a0 a1 (0 : Int) h := (zv_lim_eq _ _ _ _ _ _).trans rfl
set_option maxRecDepth 100000 in
theorem qL9_nameAt_2 (d : Nat) (a0 : Nat) (a1 : Int) (a2 : Int) (h : zv_H) : L9_nameAt_2 d a0 a1 a2 h =
  ((zv_gR h a0 9 0).bind fun v1 =>
  ((zv_aI h v1 (3 : Int)).bind fun v2 =>
  (if a2 < v2 then
    ((zv_gR h a0 9 0).bind fun v3 =>
    ((zv_aI h v3 (zv_w ((408 : Int) + (zv_w ((2 : Int) * a2))))).bind fun v4 =>
    (if v4 = a1 then
      (some (some (zv_i a2), h))
    else
      L9_nameAt_2 d a0 a1 (zv_w (a2 + 1)) h)))
  else
    (some (some (zv_i (-1 : Int)), h))))) := (zv_lim_eq _ _ _ _ _ _).trans rfl
set_option maxRecDepth 100000 in
theorem qE9_type (d : Nat) (a0 : Nat) (a1 : Int) (a2 : Int) (h : zv_H) : E9_type d a0 a1 a2 h =
  ((zv_pI h a0 9 4 (0 : Int)).bind fun g1 =>
  L9_type_13 d a0 a1 a2 (0 : Int) (1 : Int) (0 : Int) g1) := (zv_lim_eq _ _ _ _ _ _).trans rfl
set_option maxRecDepth 100000 in
theorem qL9_type_13 (d : Nat) (a0 : Nat) (a1 : Int) (a2 : Int) (a3 : Int) (a4 : Int) (a5 : Int) (h : zv_H) : L9_type_13 d a0 a1 a2 a3 a4 a5 h =
  (if a5 < (12 : Int) then
    (if a4 = 0 then
      L9_type_103 d a0 a3 (0 : Int) h
    else
      (if a5 < (6 : Int) then
        L9_type_37 d a0 a1 a2 a3 a5 a1 h
      else
        L9_type_37 d a0 a1 a2 a3 a5 a2 h))
  else
    L9_type_103 d a0 a3 (0 : Int) h) := (zv_lim_eq _ _ _ _ _ _).trans rfl
set_option maxRecDepth 100000 in
theorem qL9_type_37 (d : Nat) (a0 : Nat) (a1 : Int) (a2 : Int) (a3 : Int) (a5 : Int) (e0 : Int) (h : zv_H) : L9_type_37 d a0 a1 a2 a3 a5 e0 h =
  (if (zv_and (zv_ushr e0 (zv_w ((5 : Int) * ((a5).tmod (6 : Int))))) (31 : Int)) ≤ (26 : Int) then
    (if (zv_and (zv_ushr e0 (zv_w ((5 : Int) * ((a5).tmod (6 : Int))))) (31 : Int)) ≤ 0 then
      L9_type_69 d a0 a1 a2 a3 a5 (zv_and (zv_ushr e0 (zv_w ((5 : Int) * ((a5).tmod (6 : Int))))) (31 : Int)) (0 : Int) h
    else
      L9_type_69 d a0 a1 a2 a3 a5 (zv_and (zv_ushr e0 (zv_w ((5 : Int) * ((a5).tmod (6 : Int))))) (31 : Int)) (1 : Int) h)
  else
    (some (some (zv_i (-1 : Int)), h))) := (zv_lim_eq _ _ _ _ _ _).trans rfl
set_option maxRecDepth 100000 in
theorem qL9_type_69 (d : Nat) (a0 : Nat) (a1 : Int) (a2 : Int) (a3 : Int) (a5 : Int) (a6 : Int) (e0 : Int) (h : zv_H) : L9_type_69 d a0 a1 a2 a3 a5 a6 e0 h =
  ((zv_gR h a0 9 17).bind fun v1 =>
  ((zv_wI h v1 a3 (zv_w (a6 - (1 : Int)))).bind fun g2 =>
  (if e0 = 0 then
    L9_type_13 d a0 a1 a2 (zv_w (a3 + (0 : Int))) e0 (zv_w (a5 + 1)) g2
  else
    L9_type_13 d a0 a1 a2 (zv_w (a3 + (1 : Int))) e0 (zv_w (a5 + 1)) g2))) := (zv_lim_eq _ _ _ _ _ _).trans rfl
set_option maxRecDepth 100000 in
theorem qL9_type_103 (d : Nat) (a0 : Nat) (a3 : Int) (a5 : Int) (h : zv_H) : L9_type_103 d a0 a3 a5 h =
  (if a5 < a3 then
    ((zv_gR h a0 9 18).bind fun v1 =>
    ((zv_gR h a0 9 17).bind fun v2 =>
    ((zv_aI h v2 a5).bind fun v3 =>
    ((zv_wI h v1 a5 v3).bind fun g4 =>
    L9_type_103 d a0 a3 (zv_w (a5 + 1)) g4))))
  else
    ((zv_pI h a0 9 20 a3).bind fun g5 =>
    (some (some (zv_i a3), g5)))) := (zv_lim_eq _ _ _ _ _ _).trans rfl
set_option maxRecDepth 100000 in
theorem qE9_hand (d : Nat) (a0 : Nat) (h : zv_H) : E9_hand d a0 h =
  L9_hand_2 d a0 (0 : Int) h := (zv_lim_eq _ _ _ _ _ _).trans rfl
set_option maxRecDepth 100000 in
theorem qL9_hand_2 (d : Nat) (a0 : Nat) (a1 : Int) (h : zv_H) : L9_hand_2 d a0 a1 h =
  ((zv_gI h a0 9 20).bind fun v1 =>
  (if a1 < v1 then
    ((zv_gR h a0 9 17).bind fun v2 =>
    ((zv_gR h a0 9 18).bind fun v3 =>
    ((zv_aI h v3 a1).bind fun v4 =>
    ((zv_wI h v2 a1 v4).bind fun g5 =>
    L9_hand_2 d a0 (zv_w (a1 + 1)) g5))))
  else
    ((zv_gI h a0 9 20).bind fun v6 =>
    ((zv_pI h a0 9 19 v6).bind fun g7 =>
    (some (none, g7)))))) := (zv_lim_eq _ _ _ _ _ _).trans rfl
set_option maxRecDepth 100000 in
theorem qE9_putNow (d : Nat) (a0 : Nat) (a1 : Int) (h : zv_H) : E9_putNow d a0 a1 h =
  ((C9_here d a0 h).bind fun q1 =>
  ((C9_lettersOf d a0 q1.1 q1.2).bind fun q2 =>
  ((C9_isIn d a1 (0 : Int) q2.1 q2.2).bind fun q3 =>
  (if q3.1 = 0 then
    L9_putNow_25 d a0 q3.2
  else
    ((zv_gI q3.2 a0 9 19).bind fun v4 =>
    (if v4 = 0 then
      L9_putNow_25 d a0 q3.2
    else
      ((C9_states d a0 q3.2).bind fun q5 =>
      (if q5.1 = (48 : Int) then
        ((C9_refuse d a0 (3 : Int) q5.2).bind fun q6 =>
        (some (some (zv_i q6.1), q6.2)))
      else
        ((zv_gI q5.2 a0 9 19).bind fun v7 =>
        (if (zv_w (q2.1 + v7)) ≤ (120 : Int) then
          ((C9_freeState d a0 q5.2).bind fun q8 =>
          (if a1 = 0 then
            L9_putNow_84 d a0 a1 q8.1 (-1 : Int) q8.2
          else
            ((C9_rowPlace d a0 (zv_w (a1 - (1 : Int))) q8.2).bind fun q9 =>
            L9_putNow_84 d a0 a1 q8.1 q9.1 q9.2)))
        else
          ((C9_refuse d a0 (6 : Int) q5.2).bind fun q10 =>
          (some (some (zv_i q10.1), q10.2))))))))))))) := (zv_lim_eq _ _ _ _ _ _).trans rfl
set_option maxRecDepth 100000 in
theorem qL9_putNow_25 (d : Nat) (a0 : Nat) (h : zv_H) : L9_putNow_25 d a0 h =
  ((C9_refuse d a0 (1 : Int) h).bind fun q1 =>
  (some (some (zv_i q1.1), q1.2))) := (zv_lim_eq _ _ _ _ _ _).trans rfl
set_option maxRecDepth 100000 in
theorem qL9_putNow_84 (d : Nat) (a0 : Nat) (a1 : Int) (a3 : Int) (e0 : Int) (h : zv_H) : L9_putNow_84 d a0 a1 a3 e0 h =
  ((zv_gI h a0 9 19).bind fun v1 =>
  ((zv_gI h a0 9 19).bind fun v2 =>
  ((C9_joins d a0 (0 : Int) a1 v2 h).bind fun q3 =>
  ((C9_begins d a0 a3 (0 : Int) a1 v1 q3.1 q3.2).bind fun g4 =>
  L9_putNow_110 d a0 a3 e0 (0 : Int) g4)))) := (zv_lim_eq _ _ _ _ _ _).trans rfl
set_option maxRecDepth 100000 in
theorem qL9_putNow_110 (d : Nat) (a0 : Nat) (a3 : Int) (a4 : Int) (a5 : Int) (h : zv_H) : L9_putNow_110 d a0 a3 a4 a5 h =
  ((zv_gI h a0 9 19).bind fun v1 =>
  (if a5 < v1 then
    ((zv_gR h a0 9 17).bind fun v2 =>
    ((zv_aI h v2 a5).bind fun v3 =>
    ((C9_sets d a0 a3 (zv_w ((12 : Int) + a5)) v3 h).bind fun g4 =>
    L9_putNow_110 d a0 a3 a4 (zv_w (a5 + 1)) g4)))
  else
    (if a4 < 0 then
      L9_putNow_175 d a0 a3 h
    else
      ((zv_gR h a0 9 6).bind fun v5 =>
      ((zv_aI h v5 a4).bind fun v6 =>
      ((C9_sets d a0 a3 (8 : Int) v6 h).bind fun g7 =>
      ((zv_gR g7 a0 9 7).bind fun v8 =>
      ((zv_aI g7 v8 a4).bind fun v9 =>
      ((C9_sets d a0 a3 (9 : Int) v9 g7).bind fun g10 =>
      L9_putNow_175 d a0 a3 g10))))))))) := (zv_lim_eq _ _ _ _ _ _).trans rfl
set_option maxRecDepth 100000 in
theorem qL9_putNow_175 (d : Nat) (a0 : Nat) (a3 : Int) (h : zv_H) : L9_putNow_175 d a0 a3 h =
  ((C9_visits d a0 a3 h).bind fun g1 =>
  (some (some (zv_i a3), g1))) := (zv_lim_eq _ _ _ _ _ _).trans rfl
set_option maxRecDepth 100000 in
theorem qE9_cutNow (d : Nat) (a0 : Nat) (a1 : Int) (a2 : Int) (h : zv_H) : E9_cutNow d a0 a1 a2 h =
  ((C9_isIn d a2 (1 : Int) (12 : Int) h).bind fun q1 =>
  (if q1.1 = 0 then
    L9_cutNow_14 d a0 q1.2
  else
    (if a1 < 0 then
      L9_cutNow_14 d a0 q1.2
    else
      ((C9_here d a0 q1.2).bind fun q2 =>
      ((C9_lettersOf d a0 q2.1 q2.2).bind fun q3 =>
      (if a2 ≤ (zv_w (q3.1 - a1)) then
        ((C9_states d a0 q3.2).bind fun q4 =>
        (if q4.1 = (48 : Int) then
          ((C9_refuse d a0 (3 : Int) q4.2).bind fun q5 =>
          (some (some (zv_i q5.1), q5.2)))
        else
          ((C9_freeState d a0 q4.2).bind fun q6 =>
          ((C9_joins d a0 (1 : Int) a1 a2 q6.2).bind fun q7 =>
          ((C9_begins d a0 q6.1 (1 : Int) a1 a2 q7.1 q7.2).bind fun g8 =>
          L9_cutNow_78 d a0 a1 a2 q6.1 (0 : Int) g8)))))
      else
        ((C9_refuse d a0 (5 : Int) q3.2).bind fun q9 =>
        (some (some (zv_i q9.1), q9.2))))))))) := (zv_lim_eq _ _ _ _ _ _).trans rfl
set_option maxRecDepth 100000 in
theorem qL9_cutNow_14 (d : Nat) (a0 : Nat) (h : zv_H) : L9_cutNow_14 d a0 h =
  ((C9_refuse d a0 (1 : Int) h).bind fun q1 =>
  (some (some (zv_i q1.1), q1.2))) := (zv_lim_eq _ _ _ _ _ _).trans rfl
set_option maxRecDepth 100000 in
theorem qL9_cutNow_78 (d : Nat) (a0 : Nat) (a1 : Int) (a2 : Int) (a3 : Int) (a4 : Int) (h : zv_H) : L9_cutNow_78 d a0 a1 a2 a3 a4 h =
  (if a4 < a2 then
    ((C9_rowPlace d a0 (zv_w (a1 + a4)) h).bind fun q1 =>
    ((zv_gR q1.2 a0 9 6).bind fun v2 =>
    ((zv_aI q1.2 v2 q1.1).bind fun v3 =>
    ((C9_sets d a0 a3 (zv_w ((52 : Int) + (zv_w ((2 : Int) * a4)))) v3 q1.2).bind fun g4 =>
    ((zv_gR g4 a0 9 7).bind fun v5 =>
    ((zv_aI g4 v5 q1.1).bind fun v6 =>
    ((C9_sets d a0 a3 (zv_w ((zv_w ((52 : Int) + (zv_w ((2 : Int) * a4)))) + (1 : Int))) v6 g4).bind fun g7 =>
    L9_cutNow_78 d a0 a1 a2 a3 (zv_w (a4 + 1)) g7)))))))
  else
    ((C9_visits d a0 a3 h).bind fun g8 =>
    (some (some (zv_i a3), g8)))) := (zv_lim_eq _ _ _ _ _ _).trans rfl
set_option maxRecDepth 100000 in
theorem qE9_plain (d : Nat) (a0 : Nat) (h : zv_H) : E9_plain d a0 h =
  L9_plain_2 d a0 (0 : Int) h := (zv_lim_eq _ _ _ _ _ _).trans rfl
set_option maxRecDepth 100000 in
theorem qL9_plain_2 (d : Nat) (a0 : Nat) (a1 : Int) (h : zv_H) : L9_plain_2 d a0 a1 h =
  (if a1 < (48 : Int) then
    ((zv_gR h a0 9 21).bind fun v1 =>
    ((zv_wI h v1 a1 a1).bind fun g2 =>
    L9_plain_2 d a0 (zv_w (a1 + 1)) g2))
  else
    (some (none, h))) := (zv_lim_eq _ _ _ _ _ _).trans rfl
set_option maxRecDepth 100000 in
theorem qE9_carries (d : Nat) (a0 : Nat) (a1 : Int) (h : zv_H) : E9_carries d a0 a1 h =
  ((C9_of d a0 a1 (2 : Int) h).bind fun q1 =>
  (if q1.1 = (1 : Int) then
    ((C9_carriesCut d a0 a1 q1.2).bind fun q2 =>
    (some (some (zv_i q2.1), q2.2)))
  else
    ((C9_here d a0 q1.2).bind fun q3 =>
    ((C9_sees d a0 q3.1 q3.2).bind fun g4 =>
    ((C9_of d a0 a1 (8 : Int) g4).bind fun q5 =>
    (if q5.1 < 0 then
      L9_carries_104 d a0 a1 (0 : Int) q5.2
    else
      ((zv_gR q5.2 a0 9 21).bind fun v6 =>
      ((C9_of d a0 a1 (8 : Int) q5.2).bind fun q7 =>
      ((zv_aI q7.2 v6 q7.1).bind fun v8 =>
      ((C9_of d a0 a1 (9 : Int) q7.2).bind fun q9 =>
      ((C9_rowOf d a0 v8 q9.1 q9.2).bind fun q10 =>
      (if q10.1 < 0 then
        ((C9_refuse d a0 (10 : Int) q10.2).bind fun q11 =>
        (some (some (zv_i q11.1), q11.2)))
      else
        L9_carries_74 d a0 a1 (0 : Int) q10.1 (0 : Int) q10.2)))))))))))) := (zv_lim_eq _ _ _ _ _ _).trans rfl
set_option maxRecDepth 100000 in
theorem qL9_carries_74 (d : Nat) (a0 : Nat) (a1 : Int) (a2 : Int) (a3 : Int) (a4 : Int) (h : zv_H) : L9_carries_74 d a0 a1 a2 a3 a4 h =
  (if a4 ≤ a3 then
    ((zv_gR h a0 9 9).bind fun v1 =>
    ((zv_aB h v1 a4).bind fun v2 =>
    (if v2 = 0 then
      L9_carries_74 d a0 a1 (zv_w (a2 + (0 : Int))) a3 (zv_w (a4 + 1)) h
    else
      L9_carries_74 d a0 a1 (zv_w (a2 + (1 : Int))) a3 (zv_w (a4 + 1)) h)))
  else
    L9_carries_104 d a0 a1 a2 h) := (zv_lim_eq _ _ _ _ _ _).trans rfl
set_option maxRecDepth 100000 in
theorem qL9_carries_104 (d : Nat) (a0 : Nat) (a1 : Int) (a2 : Int) (h : zv_H) : L9_carries_104 d a0 a1 a2 h =
  ((C9_of d a0 a1 (5 : Int) h).bind fun q1 =>
  ((zv_pI q1.2 a0 9 19 q1.1).bind fun g2 =>
  L9_carries_116 d a0 a1 a2 (0 : Int) g2)) := (zv_lim_eq _ _ _ _ _ _).trans rfl
set_option maxRecDepth 100000 in
theorem qL9_carries_116 (d : Nat) (a0 : Nat) (a1 : Int) (a2 : Int) (a3 : Int) (h : zv_H) : L9_carries_116 d a0 a1 a2 a3 h =
  ((zv_gI h a0 9 19).bind fun v1 =>
  (if a3 < v1 then
    ((zv_gR h a0 9 17).bind fun v2 =>
    ((C9_of d a0 a1 (zv_w ((12 : Int) + a3)) h).bind fun q3 =>
    ((zv_wI q3.2 v2 a3 q3.1).bind fun g4 =>
    L9_carries_116 d a0 a1 a2 (zv_w (a3 + 1)) g4)))
  else
    ((C9_putNow d a0 a2 h).bind fun q5 =>
    (some (some (zv_i q5.1), q5.2))))) := (zv_lim_eq _ _ _ _ _ _).trans rfl
set_option maxRecDepth 100000 in
theorem qE9_isTaken (d : Nat) (a0 : Nat) (a1 : Int) (a2 : Int) (h : zv_H) : E9_isTaken d a0 a1 a2 h =
  L9_isTaken_2 d a0 a1 a2 (0 : Int) h := (zv_lim_eq _ _ _ _ _ _).trans rfl
set_option maxRecDepth 100000 in
theorem qL9_isTaken_2 (d : Nat) (a0 : Nat) (a1 : Int) (a2 : Int) (a3 : Int) (h : zv_H) : L9_isTaken_2 d a0 a1 a2 a3 h =
  ((C9_of d a0 a1 (5 : Int) h).bind fun q1 =>
  (if a3 < q1.1 then
    ((zv_gR q1.2 a0 9 21).bind fun v2 =>
    ((C9_of d a0 a1 (zv_w ((52 : Int) + (zv_w ((2 : Int) * a3)))) q1.2).bind fun q3 =>
    ((zv_aI q3.2 v2 q3.1).bind fun v4 =>
    ((zv_gR q3.2 a0 9 6).bind fun v5 =>
    ((zv_aI q3.2 v5 a2).bind fun v6 =>
    (if v4 = v6 then
      ((C9_of d a0 a1 (zv_w ((zv_w ((52 : Int) + (zv_w ((2 : Int) * a3)))) + (1 : Int))) q3.2).bind fun q7 =>
      ((zv_gR q7.2 a0 9 7).bind fun v8 =>
      ((zv_aI q7.2 v8 a2).bind fun v9 =>
      (if q7.1 = v9 then
        (some (some (zv_i (1 : Int)), q7.2))
      else
        L9_isTaken_2 d a0 a1 a2 (zv_w (a3 + 1)) q7.2))))
    else
      L9_isTaken_2 d a0 a1 a2 (zv_w (a3 + 1)) q3.2))))))
  else
    (some (some (zv_i (0 : Int)), q1.2)))) := (zv_lim_eq _ _ _ _ _ _).trans rfl
set_option maxRecDepth 100000 in
theorem qE9_carriesCut (d : Nat) (a0 : Nat) (a1 : Int) (h : zv_H) : E9_carriesCut d a0 a1 h =
  ((C9_here d a0 h).bind fun q1 =>
  ((C9_sees d a0 q1.1 q1.2).bind fun g2 =>
  L9_carriesCut_18 d a0 a1 (-1 : Int) (0 : Int) (0 : Int) (0 : Int) g2)) := (zv_lim_eq _ _ _ _ _ _).trans rfl
set_option maxRecDepth 100000 in
theorem qL9_carriesCut_18 (d : Nat) (a0 : Nat) (a1 : Int) (a2 : Int) (a3 : Int) (a4 : Int) (a5 : Int) (h : zv_H) : L9_carriesCut_18 d a0 a1 a2 a3 a4 a5 h =
  ((zv_gI h a0 9 11).bind fun v1 =>
  (if a5 < v1 then
    ((zv_gR h a0 9 9).bind fun v2 =>
    ((zv_aB h v2 a5).bind fun v3 =>
    (if v3 = 0 then
      L9_carriesCut_18 d a0 a1 a2 a3 a4 (zv_w (a5 + 1)) h
    else
      ((C9_isTaken d a0 a1 a5 h).bind fun q4 =>
      (if q4.1 = 0 then
        L9_carriesCut_18 d a0 a1 a2 a3 (zv_w (a4 + 1)) (zv_w (a5 + 1)) q4.2
      else
        (if a2 < 0 then
          L9_carriesCut_69 d a0 a1 a2 a3 a4 a5 q4.2
        else
          (if a4 = (zv_w (a2 + a3)) then
            L9_carriesCut_69 d a0 a1 a2 a3 a4 a5 q4.2
          else
            ((C9_refuse d a0 (10 : Int) q4.2).bind fun q5 =>
            (some (some (zv_i q5.1), q5.2))))))))))
  else
    (if a3 = 0 then
      ((C9_refuse d a0 (10 : Int) h).bind fun q6 =>
      (some (some (zv_i q6.1), q6.2)))
    else
      ((C9_cutNow d a0 a2 a3 h).bind fun q7 =>
      (some (some (zv_i q7.1), q7.2)))))) := (zv_lim_eq _ _ _ _ _ _).trans rfl
set_option maxRecDepth 100000 in
theorem qL9_carriesCut_69 (d : Nat) (a0 : Nat) (a1 : Int) (a2 : Int) (a3 : Int) (a4 : Int) (a5 : Int) (h : zv_H) : L9_carriesCut_69 d a0 a1 a2 a3 a4 a5 h =
  (if a2 < 0 then
    L9_carriesCut_18 d a0 a1 a4 (zv_w (a3 + 1)) (zv_w (a4 + 1)) (zv_w (a5 + 1)) h
  else
    L9_carriesCut_18 d a0 a1 a2 (zv_w (a3 + 1)) (zv_w (a4 + 1)) (zv_w (a5 + 1)) h) := (zv_lim_eq _ _ _ _ _ _).trans rfl
set_option maxRecDepth 100000 in
theorem qE9_carryNow (d : Nat) (a0 : Nat) (a1 : Int) (h : zv_H) : E9_carryNow d a0 a1 h =
  ((C9_isState d a0 a1 h).bind fun q1 =>
  (if q1.1 = 0 then
    ((C9_refuse d a0 (2 : Int) q1.2).bind fun q2 =>
    (some (some (zv_i q2.1), q2.2)))
  else
    ((C9_here d a0 q1.2).bind fun q3 =>
    ((C9_isOfLine d a0 a1 q3.1 q3.2).bind fun q4 =>
    (if q4.1 = 0 then
      ((C9_isEdit d a0 a1 q4.2).bind fun q5 =>
      (if q5.1 = 0 then
        L9_carryNow_34 d a0 q5.2
      else
        ((C9_plain d a0 q5.2).bind fun g6 =>
        ((C9_carries d a0 a1 g6).bind fun q7 =>
        (some (some (zv_i q7.1), q7.2))))))
    else
      L9_carryNow_34 d a0 q4.2))))) := (zv_lim_eq _ _ _ _ _ _).trans rfl
set_option maxRecDepth 100000 in
theorem qL9_carryNow_34 (d : Nat) (a0 : Nat) (h : zv_H) : L9_carryNow_34 d a0 h =
  ((C9_refuse d a0 (7 : Int) h).bind fun q1 =>
  (some (some (zv_i q1.1), q1.2))) := (zv_lim_eq _ _ _ _ _ _).trans rfl
set_option maxRecDepth 100000 in
theorem qE9_mergeNow (d : Nat) (a0 : Nat) (a1 : Int) (h : zv_H) : E9_mergeNow d a0 a1 h =
  ((C9_isState d a0 a1 h).bind fun q1 =>
  (if q1.1 = 0 then
    ((C9_refuse d a0 (2 : Int) q1.2).bind fun q2 =>
    (some (some (zv_i q2.1), q2.2)))
  else
    ((C9_here d a0 q1.2).bind fun q3 =>
    ((C9_isOfLine d a0 a1 q3.1 q3.2).bind fun q4 =>
    (if q4.1 = 0 then
      ((C9_sees d a0 a1 q4.2).bind fun g5 =>
      ((zv_gI g5 a0 9 10).bind fun v6 =>
      L9_mergeNow_44 d a0 v6 (0 : Int) g5))
    else
      ((C9_refuse d a0 (4 : Int) q4.2).bind fun q7 =>
      (some (some (zv_i q7.1), q7.2)))))))) := (zv_lim_eq _ _ _ _ _ _).trans rfl
set_option maxRecDepth 100000 in
theorem qL9_mergeNow_44 (d : Nat) (a0 : Nat) (a2 : Int) (a3 : Int) (h : zv_H) : L9_mergeNow_44 d a0 a2 a3 h =
  (if a3 < a2 then
    ((zv_gR h a0 9 22).bind fun v1 =>
    ((zv_gR h a0 9 5).bind fun v2 =>
    ((zv_aI h v2 a3).bind fun v3 =>
    ((zv_wI h v1 a3 v3).bind fun g4 =>
    ((zv_gR g4 a0 9 23).bind fun v5 =>
    ((zv_gR g4 a0 9 5).bind fun v6 =>
    ((zv_aI g4 v6 a3).bind fun v7 =>
    ((C9_isEdit d a0 v7 g4).bind fun q8 =>
    (if q8.1 = 0 then
      ((zv_wB q8.2 v5 a3 (0 : Int)).bind fun g9 =>
      L9_mergeNow_44 d a0 a2 (zv_w (a3 + 1)) g9)
    else
      ((zv_gR q8.2 a0 9 8).bind fun v10 =>
      ((zv_gR q8.2 a0 9 5).bind fun v11 =>
      ((zv_aI q8.2 v11 a3).bind fun v12 =>
      ((zv_aB q8.2 v10 v12).bind fun v13 =>
      (if v13 = 0 then
        ((zv_wB q8.2 v5 a3 (0 : Int)).bind fun g14 =>
        L9_mergeNow_44 d a0 a2 (zv_w (a3 + 1)) g14)
      else
        ((zv_gR q8.2 a0 9 5).bind fun v15 =>
        ((zv_aI q8.2 v15 a3).bind fun v16 =>
        ((C9_here d a0 q8.2).bind fun q17 =>
        ((C9_isOfLine d a0 v16 q17.1 q17.2).bind fun q18 =>
        (if q18.1 = 0 then
          ((zv_wB q18.2 v5 a3 (1 : Int)).bind fun g19 =>
          L9_mergeNow_44 d a0 a2 (zv_w (a3 + 1)) g19)
        else
          ((zv_wB q18.2 v5 a3 (0 : Int)).bind fun g20 =>
          L9_mergeNow_44 d a0 a2 (zv_w (a3 + 1)) g20))))))))))))))))))))
  else
    ((C9_plain d a0 h).bind fun g21 =>
    ((zv_pI g21 a0 9 24 (0 : Int)).bind fun g22 =>
    L9_mergeNow_136 d a0 a2 (0 : Int) (1 : Int) g22))) := (zv_lim_eq _ _ _ _ _ _).trans rfl
set_option maxRecDepth 100000 in
theorem qL9_mergeNow_136 (d : Nat) (a0 : Nat) (a2 : Int) (a3 : Int) (a4 : Int) (h : zv_H) : L9_mergeNow_136 d a0 a2 a3 a4 h =
  (if a4 < a2 then
    ((zv_gR h a0 9 23).bind fun v1 =>
    ((zv_aB h v1 a4).bind fun v2 =>
    (if v2 = 0 then
      L9_mergeNow_136 d a0 a2 a3 (zv_w (a4 + 1)) h
    else
      ((zv_gR h a0 9 22).bind fun v3 =>
      ((zv_aI h v3 a4).bind fun v4 =>
      ((C9_carries d a0 v4 h).bind fun q5 =>
      (if q5.1 < 0 then
        L9_mergeNow_187 d a0 a2 a3 a4 q5.1 q5.2
      else
        ((zv_gR q5.2 a0 9 21).bind fun v6 =>
        ((zv_gR q5.2 a0 9 22).bind fun v7 =>
        ((zv_aI q5.2 v7 a4).bind fun v8 =>
        ((zv_wI q5.2 v6 v8 q5.1).bind fun g9 =>
        L9_mergeNow_187 d a0 a2 a3 a4 q5.1 g9)))))))))))
  else
    ((zv_pI h a0 9 3 (0 : Int)).bind fun g10 =>
    (some (some (zv_i a3), g10)))) := (zv_lim_eq _ _ _ _ _ _).trans rfl
set_option maxRecDepth 100000 in
theorem qL9_mergeNow_187 (d : Nat) (a0 : Nat) (a2 : Int) (a3 : Int) (a4 : Int) (a5 : Int) (h : zv_H) : L9_mergeNow_187 d a0 a2 a3 a4 a5 h =
  (if a5 < 0 then
    L9_mergeNow_198 d a0 a2 a4 a5 a3 (0 : Int) h
  else
    L9_mergeNow_198 d a0 a2 a4 a5 a3 (1 : Int) h) := (zv_lim_eq _ _ _ _ _ _).trans rfl
set_option maxRecDepth 100000 in
theorem qL9_mergeNow_198 (d : Nat) (a0 : Nat) (a2 : Int) (a4 : Int) (a5 : Int) (e0 : Int) (e1 : Int) (h : zv_H) : L9_mergeNow_198 d a0 a2 a4 a5 e0 e1 h =
  ((zv_gI h a0 9 24).bind fun v1 =>
  (if a5 < 0 then
    ((zv_pI h a0 9 24 (zv_w (v1 + (1 : Int)))).bind fun g2 =>
    L9_mergeNow_136 d a0 a2 (zv_w (e0 + e1)) (zv_w (a4 + 1)) g2)
  else
    ((zv_pI h a0 9 24 (zv_w (v1 + (0 : Int)))).bind fun g3 =>
    L9_mergeNow_136 d a0 a2 (zv_w (e0 + e1)) (zv_w (a4 + 1)) g3))) := (zv_lim_eq _ _ _ _ _ _).trans rfl
set_option maxRecDepth 100000 in
theorem qE9_undoNow (d : Nat) (a0 : Nat) (h : zv_H) : E9_undoNow d a0 h =
  ((C9_here d a0 h).bind fun q1 =>
  (if q1.1 = 0 then
    ((C9_refuse d a0 (5 : Int) q1.2).bind fun q2 =>
    (some (some (zv_i q2.1), q2.2)))
  else
    ((C9_here d a0 q1.2).bind fun q3 =>
    ((C9_of d a0 q3.1 (6 : Int) q3.2).bind fun q4 =>
    ((C9_of d a0 q4.1 (1 : Int) q4.2).bind fun q5 =>
    ((C9_visits d a0 q5.1 q5.2).bind fun g6 =>
    ((C9_here d a0 g6).bind fun q7 =>
    (some (some (zv_i q7.1), q7.2))))))))) := (zv_lim_eq _ _ _ _ _ _).trans rfl
set_option maxRecDepth 100000 in
theorem qE9_redoNow (d : Nat) (a0 : Nat) (h : zv_H) : E9_redoNow d a0 h =
  ((C9_here d a0 h).bind fun q1 =>
  ((C9_childOf d a0 q1.1 (0 : Int) q1.2).bind fun q2 =>
  (if q2.1 < 0 then
    ((C9_refuse d a0 (5 : Int) q2.2).bind fun q3 =>
    (some (some (zv_i q3.1), q3.2)))
  else
    ((C9_of d a0 q2.1 (6 : Int) q2.2).bind fun q4 =>
    ((C9_childOf d a0 q2.1 (0 : Int) q4.2).bind fun q5 =>
    L9_redoNow_35 d a0 q2.1 q4.1 q5.1 q5.2))))) := (zv_lim_eq _ _ _ _ _ _).trans rfl
set_option maxRecDepth 100000 in
theorem qL9_redoNow_35 (d : Nat) (a0 : Nat) (a1 : Int) (a2 : Int) (a3 : Int) (h : zv_H) : L9_redoNow_35 d a0 a1 a2 a3 h =
  (if a3 < 0 then
    L9_redoNow_62 d a0 a1 h
  else
    ((C9_of d a0 a3 (6 : Int) h).bind fun q1 =>
    (if q1.1 = a2 then
      ((C9_childOf d a0 a3 (0 : Int) q1.2).bind fun q2 =>
      L9_redoNow_35 d a0 a3 a2 q2.1 q2.2)
    else
      L9_redoNow_62 d a0 a1 q1.2))) := (zv_lim_eq _ _ _ _ _ _).trans rfl
set_option maxRecDepth 100000 in
theorem qL9_redoNow_62 (d : Nat) (a0 : Nat) (a1 : Int) (h : zv_H) : L9_redoNow_62 d a0 a1 h =
  ((C9_visits d a0 a1 h).bind fun g1 =>
  (some (some (zv_i a1), g1))) := (zv_lim_eq _ _ _ _ _ _).trans rfl
set_option maxRecDepth 100000 in
theorem qE9_commonOf (d : Nat) (a0 : Nat) (a1 : Int) (a2 : Int) (h : zv_H) : E9_commonOf d a0 a1 a2 h =
  L9_commonOf_2 d a0 a2 a1 h := (zv_lim_eq _ _ _ _ _ _).trans rfl
set_option maxRecDepth 100000 in
theorem qL9_commonOf_2 (d : Nat) (a0 : Nat) (a2 : Int) (a3 : Int) (h : zv_H) : L9_commonOf_2 d a0 a2 a3 h =
  ((C9_isOfLine d a0 a3 a2 h).bind fun q1 =>
  (if q1.1 = 0 then
    ((C9_of d a0 a3 (1 : Int) q1.2).bind fun q2 =>
    L9_commonOf_2 d a0 a2 q2.1 q2.2)
  else
    (some (some (zv_i a3), q1.2)))) := (zv_lim_eq _ _ _ _ _ _).trans rfl
set_option maxRecDepth 100000 in
theorem qE9_wayMany (d : Nat) (a0 : Nat) (a1 : Int) (a2 : Int) (h : zv_H) : E9_wayMany d a0 a1 a2 h =
  ((C9_depthOf d a0 a1 h).bind fun q1 =>
  ((C9_depthOf d a0 a2 q1.2).bind fun q2 =>
  ((C9_commonOf d a0 a1 a2 q2.2).bind fun q3 =>
  ((C9_depthOf d a0 q3.1 q3.2).bind fun q4 =>
  (some (some (zv_i (zv_w ((zv_w (q1.1 + q2.1)) - (zv_w ((2 : Int) * q4.1))))), q4.2)))))) := (zv_lim_eq _ _ _ _ _ _).trans rfl
set_option maxRecDepth 100000 in
theorem qE9_goNow (d : Nat) (a0 : Nat) (a1 : Int) (h : zv_H) : E9_goNow d a0 a1 h =
  ((C9_isState d a0 a1 h).bind fun q1 =>
  (if q1.1 = 0 then
    ((C9_refuse d a0 (2 : Int) q1.2).bind fun q2 =>
    (some (some (zv_i q2.1), q2.2)))
  else
    ((C9_here d a0 q1.2).bind fun q3 =>
    (if a1 = q3.1 then
      ((C9_refuse d a0 (4 : Int) q3.2).bind fun q4 =>
      (some (some (zv_i q4.1), q4.2)))
    else
      ((C9_here d a0 q3.2).bind fun q5 =>
      ((C9_wayMany d a0 q5.1 a1 q5.2).bind fun q6 =>
      ((C9_visits d a0 a1 q6.2).bind fun g7 =>
      (some (some (zv_i q6.1), g7))))))))) := (zv_lim_eq _ _ _ _ _ _).trans rfl
set_option maxRecDepth 100000 in
theorem qE9_nameNow (d : Nat) (a0 : Nat) (h : zv_H) : E9_nameNow d a0 h =
  ((zv_gI h a0 9 19).bind fun v1 =>
  ((C9_isIn d v1 (1 : Int) (6 : Int) h).bind fun q2 =>
  (if q2.1 = 0 then
    ((C9_refuse d a0 (1 : Int) q2.2).bind fun q3 =>
    (some (some (zv_i q3.1), q3.2)))
  else
    ((zv_gR q2.2 a0 9 17).bind fun v4 =>
    ((zv_gI q2.2 a0 9 19).bind fun v5 =>
    ((C9_packed d v4 v5 q2.2).bind fun q6 =>
    ((C9_nameAt d a0 q6.1 q6.2).bind fun q7 =>
    (if q7.1 < 0 then
      ((zv_gR q7.2 a0 9 0).bind fun v8 =>
      ((zv_aI q7.2 v8 (3 : Int)).bind fun v9 =>
      (if v9 = (12 : Int) then
        ((C9_refuse d a0 (3 : Int) q7.2).bind fun q10 =>
        (some (some (zv_i q10.1), q10.2)))
      else
        L9_nameNow_58 d a0 q6.1 q7.1 q7.2)))
    else
      L9_nameNow_58 d a0 q6.1 q7.1 q7.2)))))))) := (zv_lim_eq _ _ _ _ _ _).trans rfl
set_option maxRecDepth 100000 in
theorem qL9_nameNow_58 (d : Nat) (a0 : Nat) (a1 : Int) (a2 : Int) (h : zv_H) : L9_nameNow_58 d a0 a1 a2 h =
  (if a2 < 0 then
    L9_nameNow_89 d a0 a1 a2 h
  else
    ((zv_gR h a0 9 0).bind fun v1 =>
    ((zv_aI h v1 (zv_w ((zv_w ((408 : Int) + (zv_w ((2 : Int) * a2)))) + (1 : Int)))).bind fun v2 =>
    ((C9_here d a0 h).bind fun q3 =>
    (if v2 = q3.1 then
      ((C9_refuse d a0 (4 : Int) q3.2).bind fun q4 =>
      (some (some (zv_i q4.1), q4.2)))
    else
      L9_nameNow_89 d a0 a1 a2 q3.2))))) := (zv_lim_eq _ _ _ _ _ _).trans rfl
set_option maxRecDepth 100000 in
theorem qL9_nameNow_89 (d : Nat) (a0 : Nat) (a1 : Int) (a2 : Int) (h : zv_H) : L9_nameNow_89 d a0 a1 a2 h =
  (if a2 < 0 then
    ((zv_gR h a0 9 0).bind fun v1 =>
    ((zv_aI h v1 (3 : Int)).bind fun v2 =>
    ((zv_gR h a0 9 0).bind fun v3 =>
    ((zv_aI h v3 (3 : Int)).bind fun v4 =>
    ((zv_wI h v3 (3 : Int) (zv_w (v4 + (1 : Int)))).bind fun g5 =>
    L9_nameNow_110 d a0 a1 v2 g5)))))
  else
    L9_nameNow_110 d a0 a1 a2 h) := (zv_lim_eq _ _ _ _ _ _).trans rfl
set_option maxRecDepth 100000 in
theorem qL9_nameNow_110 (d : Nat) (a0 : Nat) (a1 : Int) (a2 : Int) (h : zv_H) : L9_nameNow_110 d a0 a1 a2 h =
  ((zv_gR h a0 9 0).bind fun v1 =>
  ((zv_wI h v1 (zv_w ((408 : Int) + (zv_w ((2 : Int) * a2)))) a1).bind fun g2 =>
  ((zv_gR g2 a0 9 0).bind fun v3 =>
  ((C9_here d a0 g2).bind fun q4 =>
  ((zv_wI q4.2 v3 (zv_w ((zv_w ((408 : Int) + (zv_w ((2 : Int) * a2)))) + (1 : Int))) q4.1).bind fun g5 =>
  ((zv_gR g5 a0 9 0).bind fun v6 =>
  ((zv_aI g5 v6 (3 : Int)).bind fun v7 =>
  (some (some (zv_i v7), g5))))))))) := (zv_lim_eq _ _ _ _ _ _).trans rfl
set_option maxRecDepth 100000 in
theorem qE9_leansOn (d : Nat) (a0 : Nat) (a1 : Int) (a2 : Int) (h : zv_H) : E9_leansOn d a0 a1 a2 h =
  ((C9_of d a0 a1 (2 : Int) h).bind fun q1 =>
  (if q1.1 = 0 then
    ((C9_of d a0 a1 (8 : Int) q1.2).bind fun q2 =>
    (if q2.1 = a2 then
      (some (some (zv_i (1 : Int)), q2.2))
    else
      (some (some (zv_i (0 : Int)), q2.2))))
  else
    L9_leansOn_28 d a0 a1 a2 (0 : Int) q1.2)) := (zv_lim_eq _ _ _ _ _ _).trans rfl
set_option maxRecDepth 100000 in
theorem qL9_leansOn_28 (d : Nat) (a0 : Nat) (a1 : Int) (a2 : Int) (a3 : Int) (h : zv_H) : L9_leansOn_28 d a0 a1 a2 a3 h =
  ((C9_of d a0 a1 (5 : Int) h).bind fun q1 =>
  (if a3 < q1.1 then
    ((C9_of d a0 a1 (zv_w ((52 : Int) + (zv_w ((2 : Int) * a3)))) q1.2).bind fun q2 =>
    (if q2.1 = a2 then
      (some (some (zv_i (1 : Int)), q2.2))
    else
      L9_leansOn_28 d a0 a1 a2 (zv_w (a3 + 1)) q2.2))
  else
    (some (some (zv_i (0 : Int)), q1.2)))) := (zv_lim_eq _ _ _ _ _ _).trans rfl
set_option maxRecDepth 100000 in
theorem qE9_marks (d : Nat) (a0 : Nat) (a1 : Int) (a2 : Int) (h : zv_H) : E9_marks d a0 a1 a2 h =
  ((C9_here d a0 h).bind fun q1 =>
  ((C9_sees d a0 q1.1 q1.2).bind fun g2 =>
  L9_marks_10 d a0 a1 a2 (0 : Int) g2)) := (zv_lim_eq _ _ _ _ _ _).trans rfl
set_option maxRecDepth 100000 in
theorem qL9_marks_10 (d : Nat) (a0 : Nat) (a1 : Int) (a2 : Int) (a3 : Int) (h : zv_H) : L9_marks_10 d a0 a1 a2 a3 h =
  (if a3 < (48 : Int) then
    ((zv_gR h a0 9 25).bind fun v1 =>
    (if a3 = a1 then
      ((zv_wB h v1 a3 (1 : Int)).bind fun g2 =>
      L9_marks_10 d a0 a1 a2 (zv_w (a3 + 1)) g2)
    else
      ((zv_wB h v1 a3 (0 : Int)).bind fun g3 =>
      L9_marks_10 d a0 a1 a2 (zv_w (a3 + 1)) g3)))
  else
    L9_marks_40 d a0 a2 (1 : Int) h) := (zv_lim_eq _ _ _ _ _ _).trans rfl
set_option maxRecDepth 100000 in
theorem qL9_marks_40 (d : Nat) (a0 : Nat) (a2 : Int) (a3 : Int) (h : zv_H) : L9_marks_40 d a0 a2 a3 h =
  ((zv_gI h a0 9 10).bind fun v1 =>
  (if a3 < v1 then
    ((zv_gR h a0 9 5).bind fun v2 =>
    (if a2 = 0 then
      ((zv_aI h v2 a3).bind fun v3 =>
      L9_marks_72 d a0 a2 a3 v3 (1 : Int) h)
    else
      ((zv_gI h a0 9 10).bind fun v4 =>
      ((zv_aI h v2 (zv_w (v4 - a3))).bind fun v5 =>
      L9_marks_72 d a0 a2 a3 v5 (1 : Int) h))))
  else
    (some (none, h)))) := (zv_lim_eq _ _ _ _ _ _).trans rfl
set_option maxRecDepth 100000 in
theorem qL9_marks_72 (d : Nat) (a0 : Nat) (a2 : Int) (a3 : Int) (a4 : Int) (a5 : Int) (h : zv_H) : L9_marks_72 d a0 a2 a3 a4 a5 h =
  ((zv_gI h a0 9 10).bind fun v1 =>
  (if a5 < v1 then
    ((C9_isEdit d a0 a4 h).bind fun q2 =>
    (if q2.1 = 0 then
      L9_marks_40 d a0 a2 (zv_w (a3 + 1)) q2.2
    else
      ((zv_gR q2.2 a0 9 25).bind fun v3 =>
      ((zv_aB q2.2 v3 a4).bind fun v4 =>
      (if v4 = 0 then
        ((zv_gR q2.2 a0 9 5).bind fun v5 =>
        ((zv_aI q2.2 v5 a5).bind fun v6 =>
        ((zv_gR q2.2 a0 9 25).bind fun v7 =>
        ((zv_aB q2.2 v7 v6).bind fun v8 =>
        (if v8 = 0 then
          L9_marks_72 d a0 a2 a3 a4 (zv_w (a5 + 1)) q2.2
        else
          ((C9_isEdit d a0 v6 q2.2).bind fun q9 =>
          (if q9.1 = 0 then
            L9_marks_72 d a0 a2 a3 a4 (zv_w (a5 + 1)) q9.2
          else
            (if a2 = 0 then
              ((C9_isOfLine d a0 v6 a4 q9.2).bind fun q10 =>
              (if q10.1 = 0 then
                L9_marks_72 d a0 a2 a3 a4 (zv_w (a5 + 1)) q10.2
              else
                ((C9_leansOn d a0 a4 v6 q10.2).bind fun q11 =>
                (if q11.1 = 0 then
                  L9_marks_72 d a0 a2 a3 a4 (zv_w (a5 + 1)) q11.2
                else
                  ((zv_gR q11.2 a0 9 25).bind fun v12 =>
                  ((zv_wB q11.2 v12 a4 (1 : Int)).bind fun g13 =>
                  L9_marks_72 d a0 a2 a3 a4 (zv_w (a5 + 1)) g13))))))
            else
              ((C9_isOfLine d a0 a4 v6 q9.2).bind fun q14 =>
              (if q14.1 = 0 then
                L9_marks_72 d a0 a2 a3 a4 (zv_w (a5 + 1)) q14.2
              else
                ((C9_leansOn d a0 v6 a4 q14.2).bind fun q15 =>
                (if q15.1 = 0 then
                  L9_marks_72 d a0 a2 a3 a4 (zv_w (a5 + 1)) q15.2
                else
                  ((zv_gR q15.2 a0 9 25).bind fun v16 =>
                  ((zv_wB q15.2 v16 a4 (1 : Int)).bind fun g17 =>
                  L9_marks_72 d a0 a2 a3 a4 (zv_w (a5 + 1)) g17))))))))))))))
      else
        L9_marks_40 d a0 a2 (zv_w (a3 + 1)) q2.2)))))
  else
    L9_marks_40 d a0 a2 (zv_w (a3 + 1)) h)) := (zv_lim_eq _ _ _ _ _ _).trans rfl
set_option maxRecDepth 100000 in
theorem qE9_triesNames (d : Nat) (a0 : Nat) (a1 : Int) (h : zv_H) : E9_triesNames d a0 a1 h =
  ((C9_here d a0 h).bind fun q1 =>
  ((C9_sees d a0 q1.1 q1.2).bind fun g2 =>
  ((C9_begins d a0 (48 : Int) a1 (-1 : Int) (0 : Int) (0 : Int) g2).bind fun g3 =>
  L9_triesNames_22 d a0 a1 (0 : Int) (1 : Int) g3))) := (zv_lim_eq _ _ _ _ _ _).trans rfl
set_option maxRecDepth 100000 in
theorem qL9_triesNames_22 (d : Nat) (a0 : Nat) (a1 : Int) (a2 : Int) (a3 : Int) (h : zv_H) : L9_triesNames_22 d a0 a1 a2 a3 h =
  ((zv_gI h a0 9 10).bind fun v1 =>
  (if a3 < v1 then
    ((zv_gR h a0 9 25).bind fun v2 =>
    ((zv_gR h a0 9 5).bind fun v3 =>
    ((zv_aI h v3 a3).bind fun v4 =>
    ((zv_aB h v2 v4).bind fun v5 =>
    (if v5 = 0 then
      L9_triesNames_22 d a0 a1 a2 (zv_w (a3 + 1)) h
    else
      ((zv_gR h a0 9 8).bind fun v6 =>
      ((zv_gR h a0 9 5).bind fun v7 =>
      ((zv_aI h v7 a3).bind fun v8 =>
      ((zv_aB h v6 v8).bind fun v9 =>
      (if a1 = (2 : Int) then
        L9_triesNames_65 d a0 a1 a2 a3 v9 (1 : Int) h
      else
        L9_triesNames_65 d a0 a1 a2 a3 v9 (0 : Int) h))))))))))
  else
    (some (some (zv_i a2), h)))) := (zv_lim_eq _ _ _ _ _ _).trans rfl
set_option maxRecDepth 100000 in
theorem qL9_triesNames_65 (d : Nat) (a0 : Nat) (a1 : Int) (a2 : Int) (a3 : Int) (e0 : Int) (e1 : Int) (h : zv_H) : L9_triesNames_65 d a0 a1 a2 a3 e0 e1 h =
  (if e0 = e1 then
    ((zv_gR h a0 9 5).bind fun v1 =>
    ((zv_aI h v1 a3).bind fun v2 =>
    ((C9_namesToo d a0 (48 : Int) v2 h).bind fun g3 =>
    L9_triesNames_22 d a0 a1 (zv_w (a2 + 1)) (zv_w (a3 + 1)) g3)))
  else
    L9_triesNames_22 d a0 a1 a2 (zv_w (a3 + 1)) h) := (zv_lim_eq _ _ _ _ _ _).trans rfl
set_option maxRecDepth 100000 in
theorem qE9_turnNow (d : Nat) (a0 : Nat) (a1 : Int) (a2 : Int) (h : zv_H) : E9_turnNow d a0 a1 a2 h =
  ((C9_isState d a0 a1 h).bind fun q1 =>
  (if q1.1 = 0 then
    ((C9_refuse d a0 (2 : Int) q1.2).bind fun q2 =>
    (some (some (zv_i q2.1), q2.2)))
  else
    ((C9_here d a0 q1.2).bind fun q3 =>
    ((C9_isOfLine d a0 a1 q3.1 q3.2).bind fun q4 =>
    (if q4.1 = 0 then
      L9_turnNow_34 d a0 q4.2
    else
      ((C9_isEdit d a0 a1 q4.2).bind fun q5 =>
      (if q5.1 = 0 then
        L9_turnNow_34 d a0 q5.2
      else
        ((C9_here d a0 q5.2).bind fun q6 =>
        ((C9_sees d a0 q6.1 q6.2).bind fun g7 =>
        ((zv_gR g7 a0 9 8).bind fun v8 =>
        ((zv_aB g7 v8 a1).bind fun v9 =>
        (if a2 = (2 : Int) then
          L9_turnNow_65 d a0 a1 a2 v9 (1 : Int) g7
        else
          L9_turnNow_65 d a0 a1 a2 v9 (0 : Int) g7)))))))))))) := (zv_lim_eq _ _ _ _ _ _).trans rfl
set_option maxRecDepth 100000 in
theorem qL9_turnNow_34 (d : Nat) (a0 : Nat) (h : zv_H) : L9_turnNow_34 d a0 h =
  ((C9_refuse d a0 (7 : Int) h).bind fun q1 =>
  (some (some (zv_i q1.1), q1.2))) := (zv_lim_eq _ _ _ _ _ _).trans rfl
set_option maxRecDepth 100000 in
theorem qL9_turnNow_65 (d : Nat) (a0 : Nat) (a1 : Int) (a2 : Int) (e0 : Int) (e1 : Int) (h : zv_H) : L9_turnNow_65 d a0 a1 a2 e0 e1 h =
  (if e0 = e1 then
    ((C9_states d a0 h).bind fun q1 =>
    (if q1.1 = (48 : Int) then
      ((C9_refuse d a0 (3 : Int) q1.2).bind fun q2 =>
      (some (some (zv_i q2.1), q2.2)))
    else
      (if a2 = (3 : Int) then
        L9_turnNow_101 d a0 a2 a0 a1 (1 : Int) q1.2
      else
        L9_turnNow_101 d a0 a2 a0 a1 (0 : Int) q1.2)))
  else
    ((C9_refuse d a0 (4 : Int) h).bind fun q3 =>
    (some (some (zv_i q3.1), q3.2)))) := (zv_lim_eq _ _ _ _ _ _).trans rfl
set_option maxRecDepth 100000 in
theorem qL9_turnNow_101 (d : Nat) (a0 : Nat) (a2 : Int) (e0 : Nat) (e1 : Int) (e2 : Int) (h : zv_H) : L9_turnNow_101 d a0 a2 e0 e1 e2 h =
  ((C9_marks d e0 e1 e2 h).bind fun g1 =>
  ((C9_triesNames d a0 a2 g1).bind fun q2 =>
  ((C9_lettersOf d a0 (48 : Int) q2.2).bind fun q3 =>
  (if q3.1 ≤ (120 : Int) then
    ((C9_freeState d a0 q3.2).bind fun q4 =>
    ((C9_begins d a0 q4.1 a2 (-1 : Int) q2.1 (0 : Int) q4.2).bind fun g5 =>
    ((C9_of d a0 (48 : Int) (10 : Int) g5).bind fun q6 =>
    ((C9_sets d a0 q4.1 (10 : Int) q6.1 q6.2).bind fun g7 =>
    ((C9_of d a0 (48 : Int) (11 : Int) g7).bind fun q8 =>
    ((C9_sets d a0 q4.1 (11 : Int) q8.1 q8.2).bind fun g9 =>
    ((C9_visits d a0 q4.1 g9).bind fun g10 =>
    (some (some (zv_i q4.1), g10)))))))))
  else
    ((C9_refuse d a0 (6 : Int) q3.2).bind fun q11 =>
    (some (some (zv_i q11.1), q11.2))))))) := (zv_lim_eq _ _ _ _ _ _).trans rfl
set_option maxRecDepth 100000 in
theorem qE9_lays (d : Nat) (a0 : Nat) (a1 : Int) (h : zv_H) : E9_lays d a0 a1 h =
  L9_lays_3 d a0 a1 (24 : Int) h := (zv_lim_eq _ _ _ _ _ _).trans rfl
set_option maxRecDepth 100000 in
theorem qL9_lays_3 (d : Nat) (a0 : Nat) (a1 : Int) (a2 : Int) (h : zv_H) : L9_lays_3 d a0 a1 a2 h =
  (if a2 < 0 then
    (some (none, h))
  else
    ((zv_gR h a0 9 26).bind fun v1 =>
    ((zv_gI h a0 9 27).bind fun v2 =>
    ((zv_wB h v1 v2 (zv_i2b (zv_shr a1 a2))).bind fun g3 =>
    ((zv_gI g3 a0 9 27).bind fun v4 =>
    ((zv_pI g3 a0 9 27 (zv_w (v4 + (1 : Int)))).bind fun g5 =>
    L9_lays_3 d a0 a1 (zv_w (a2 + (-8))) g5)))))) := (zv_lim_eq _ _ _ _ _ _).trans rfl
set_option maxRecDepth 100000 in
theorem qE9_feed (d : Nat) (a0 : Nat) (a1 : Int) (a2 : Int) (a3 : Int) (a4 : Int) (a5 : Int) (h : zv_H) : E9_feed d a0 a1 a2 a3 a4 a5 h =
  ((zv_pI h a0 9 4 (0 : Int)).bind fun g1 =>
  ((zv_gI g1 a0 9 27).bind fun v2 =>
  (if (zv_w (v2 + (20 : Int))) ≤ (700 : Int) then
    ((C9_lays d a0 a1 g1).bind fun g3 =>
    ((C9_lays d a0 a2 g3).bind fun g4 =>
    ((C9_lays d a0 a3 g4).bind fun g5 =>
    ((C9_lays d a0 a4 g5).bind fun g6 =>
    ((C9_lays d a0 a5 g6).bind fun g7 =>
    ((zv_gI g7 a0 9 27).bind fun v8 =>
    (some (some (zv_i v8), g7))))))))
  else
    (some (some (zv_i (-1 : Int)), g1))))) := (zv_lim_eq _ _ _ _ _ _).trans rfl
set_option maxRecDepth 100000 in
theorem qE9_isOf (d : Nat) (a0 : Nat) (a1 : Int) (a2 : Int) (a3 : Int) (h : zv_H) : E9_isOf d a0 a1 a2 a3 h =
  ((zv_gI h a0 9 36).bind fun v1 =>
  (if a1 < v1 then
    ((zv_gR h a0 9 26).bind fun v2 =>
    ((zv_aB h v2 a1).bind fun v3 =>
    ((C9_isIn d v3 a2 a3 h).bind fun q4 =>
    (if q4.1 = 0 then
      (some (some (zv_i (0 : Int)), q4.2))
    else
      (some (some (zv_i (1 : Int)), q4.2))))))
  else
    (some (some (zv_i (0 : Int)), h)))) := (zv_lim_eq _ _ _ _ _ _).trans rfl
set_option maxRecDepth 100000 in
theorem qE9_reads (d : Nat) (a0 : Nat) (h : zv_H) : E9_reads d a0 h =
  ((zv_gI h a0 9 33).bind fun v1 =>
  ((zv_pI h a0 9 32 v1).bind fun g2 =>
  L9_reads_8 d a0 g2)) := (zv_lim_eq _ _ _ _ _ _).trans rfl
set_option maxRecDepth 100000 in
theorem qL9_reads_8 (d : Nat) (a0 : Nat) (h : zv_H) : L9_reads_8 d a0 h =
  ((zv_gI h a0 9 32).bind fun v1 =>
  ((zv_gI h a0 9 36).bind fun v2 =>
  (if v1 < v2 then
    ((zv_gR h a0 9 26).bind fun v3 =>
    ((zv_gI h a0 9 32).bind fun v4 =>
    ((zv_aB h v3 v4).bind fun v5 =>
    (if v5 = (10 : Int) then
      ((zv_gI h a0 9 32).bind fun v6 =>
      ((zv_pI h a0 9 32 (zv_w (v6 + (1 : Int)))).bind fun g7 =>
      L9_reads_8 d a0 g7))
    else
      ((zv_gR h a0 9 26).bind fun v8 =>
      ((zv_gI h a0 9 32).bind fun v9 =>
      ((zv_aB h v8 v9).bind fun v10 =>
      (if v10 = (32 : Int) then
        ((zv_gI h a0 9 32).bind fun v11 =>
        ((zv_pI h a0 9 32 (zv_w (v11 + (1 : Int)))).bind fun g12 =>
        L9_reads_8 d a0 g12))
      else
        L9_reads_60 d a0 h))))))))
  else
    L9_reads_60 d a0 h))) := (zv_lim_eq _ _ _ _ _ _).trans rfl
set_option maxRecDepth 100000 in
theorem qL9_reads_60 (d : Nat) (a0 : Nat) (h : zv_H) : L9_reads_60 d a0 h =
  ((zv_gI h a0 9 32).bind fun v1 =>
  ((zv_pI h a0 9 33 (zv_w (v1 + (1 : Int)))).bind fun g2 =>
  ((zv_gI g2 a0 9 32).bind fun v3 =>
  ((zv_gI g2 a0 9 36).bind fun v4 =>
  (if v3 < v4 then
    ((zv_gR g2 a0 9 26).bind fun v5 =>
    ((zv_gI g2 a0 9 32).bind fun v6 =>
    ((zv_aB g2 v5 v6).bind fun v7 =>
    ((CJ_idx d 1000023 (zv_i2c v7) g2).bind fun q8 =>
    (if q8.1 < 0 then
      L9_reads_110 d a0 a0 (4 : Int) q8.2
    else
      L9_reads_110 d a0 a0 (3 : Int) q8.2)))))
  else
    L9_reads_110 d a0 a0 (0 : Int) g2))))) := (zv_lim_eq _ _ _ _ _ _).trans rfl
set_option maxRecDepth 100000 in
theorem qL9_reads_110 (d : Nat) (a0 : Nat) (e0 : Nat) (e1 : Int) (h : zv_H) : L9_reads_110 d a0 e0 e1 h =
  ((zv_pI h e0 9 34 e1).bind fun g1 =>
  ((zv_gI g1 a0 9 32).bind fun v2 =>
  ((C9_isOf d a0 v2 (97 : Int) (122 : Int) g1).bind fun q3 =>
  (if q3.1 = 0 then
    ((zv_gI q3.2 a0 9 32).bind fun v4 =>
    ((C9_isOf d a0 v4 (48 : Int) (57 : Int) q3.2).bind fun q5 =>
    (if q5.1 = 0 then
      (some (none, q5.2))
    else
      ((zv_pI q5.2 a0 9 35 (0 : Int)).bind fun g6 =>
      ((zv_gI g6 a0 9 32).bind fun v7 =>
      ((zv_pI g6 a0 9 33 v7).bind fun g8 =>
      L9_reads_250 d a0 g8))))))
  else
    ((zv_pI q3.2 a0 9 34 (1 : Int)).bind fun g9 =>
    ((zv_pJ g9 a0 9 38 (Int64.ofNat 0)).bind fun g10 =>
    ((zv_gI g10 a0 9 32).bind fun v11 =>
    ((zv_pI g10 a0 9 33 v11).bind fun g12 =>
    L9_reads_146 d a0 g12)))))))) := (zv_lim_eq _ _ _ _ _ _).trans rfl
set_option maxRecDepth 100000 in
theorem qL9_reads_146 (d : Nat) (a0 : Nat) (h : zv_H) : L9_reads_146 d a0 h =
  ((zv_gI h a0 9 33).bind fun v1 =>
  ((C9_isOf d a0 v1 (97 : Int) (122 : Int) h).bind fun q2 =>
  (if q2.1 = 0 then
    (some (none, q2.2))
  else
    ((zv_gI q2.2 a0 9 33).bind fun v3 =>
    ((zv_gI q2.2 a0 9 32).bind fun v4 =>
    (if (zv_w (v3 - v4)) < (9 : Int) then
      ((zv_gJ q2.2 a0 9 38).bind fun v5 =>
      ((zv_gR q2.2 a0 9 26).bind fun v6 =>
      ((zv_gI q2.2 a0 9 33).bind fun v7 =>
      ((zv_aB q2.2 v6 v7).bind fun v8 =>
      ((zv_pJ q2.2 a0 9 38 ((((27 : Int64) * v5) + (zv_i2l v8)) - (96 : Int64))).bind fun g9 =>
      ((zv_gI g9 a0 9 33).bind fun v10 =>
      ((zv_pI g9 a0 9 33 (zv_w (v10 + (1 : Int)))).bind fun g11 =>
      L9_reads_146 d a0 g11)))))))
    else
      ((zv_gJ q2.2 a0 9 38).bind fun v12 =>
      ((zv_pJ q2.2 a0 9 38 v12).bind fun g13 =>
      ((zv_gI g13 a0 9 33).bind fun v14 =>
      ((zv_pI g13 a0 9 33 (zv_w (v14 + (1 : Int)))).bind fun g15 =>
      L9_reads_146 d a0 g15)))))))))) := (zv_lim_eq _ _ _ _ _ _).trans rfl
set_option maxRecDepth 100000 in
theorem qL9_reads_250 (d : Nat) (a0 : Nat) (h : zv_H) : L9_reads_250 d a0 h =
  ((zv_gI h a0 9 33).bind fun v1 =>
  ((C9_isOf d a0 v1 (48 : Int) (57 : Int) h).bind fun q2 =>
  (if q2.1 = 0 then
    ((zv_gI q2.2 a0 9 33).bind fun v3 =>
    ((zv_gI q2.2 a0 9 32).bind fun v4 =>
    (if (zv_w (v3 - v4)) ≤ (3 : Int) then
      ((zv_pI q2.2 a0 9 34 (2 : Int)).bind fun g5 =>
      (some (none, g5)))
    else
      ((zv_pI q2.2 a0 9 34 (4 : Int)).bind fun g6 =>
      (some (none, g6))))))
  else
    ((zv_gI q2.2 a0 9 33).bind fun v7 =>
    ((zv_gI q2.2 a0 9 32).bind fun v8 =>
    (if (zv_w (v7 - v8)) < (3 : Int) then
      ((zv_gI q2.2 a0 9 35).bind fun v9 =>
      ((zv_gR q2.2 a0 9 26).bind fun v10 =>
      ((zv_gI q2.2 a0 9 33).bind fun v11 =>
      ((zv_aB q2.2 v10 v11).bind fun v12 =>
      ((zv_pI q2.2 a0 9 35 (zv_w ((zv_w ((zv_w ((10 : Int) * v9)) + v12)) - (48 : Int)))).bind fun g13 =>
      ((zv_gI g13 a0 9 33).bind fun v14 =>
      ((zv_pI g13 a0 9 33 (zv_w (v14 + (1 : Int)))).bind fun g15 =>
      L9_reads_250 d a0 g15)))))))
    else
      ((zv_gI q2.2 a0 9 35).bind fun v16 =>
      ((zv_pI q2.2 a0 9 35 v16).bind fun g17 =>
      ((zv_gI g17 a0 9 33).bind fun v18 =>
      ((zv_pI g17 a0 9 33 (zv_w (v18 + (1 : Int)))).bind fun g19 =>
      L9_reads_250 d a0 g19)))))))))) := (zv_lim_eq _ _ _ _ _ _).trans rfl
set_option maxRecDepth 100000 in
theorem qE9_must (d : Nat) (a0 : Nat) (a1 : Int) (a2 : Int) (h : zv_H) : E9_must d a0 a1 a2 h =
  (if a1 = 0 then
    ((zv_gI h a0 9 30).bind fun v1 =>
    (if v1 ≤ 0 then
      (if a2 = (2 : Int) then
        ((zv_gI h a0 9 34).bind fun v2 =>
        (if v2 = (4 : Int) then
          ((zv_pI h a0 9 30 (1 : Int)).bind fun g3 =>
          ((zv_gI g3 a0 9 32).bind fun v4 =>
          ((zv_pI g3 a0 9 31 v4).bind fun g5 =>
          (some (none, g5)))))
        else
          ((zv_pI h a0 9 30 a2).bind fun g6 =>
          ((zv_gI g6 a0 9 32).bind fun v7 =>
          ((zv_pI g6 a0 9 31 v7).bind fun g8 =>
          (some (none, g8)))))))
      else
        ((zv_pI h a0 9 30 a2).bind fun g9 =>
        ((zv_gI g9 a0 9 32).bind fun v10 =>
        ((zv_pI g9 a0 9 31 v10).bind fun g11 =>
        (some (none, g11))))))
    else
      (some (none, h))))
  else
    (some (none, h))) := (zv_lim_eq _ _ _ _ _ _).trans rfl
set_option maxRecDepth 100000 in
theorem qE9_which (d : Nat) (a0 : Nat) (a1 : Nat) (h : zv_H) : E9_which d a0 a1 h =
  L9_which_2 d a0 a1 (0 : Int) h := (zv_lim_eq _ _ _ _ _ _).trans rfl
set_option maxRecDepth 100000 in
theorem qL9_which_2 (d : Nat) (a0 : Nat) (a1 : Nat) (a2 : Int) (h : zv_H) : L9_which_2 d a0 a1 a2 h =
  ((zv_al h a1).bind fun v1 =>
  (if a2 < v1 then
    ((zv_gI h a0 9 34).bind fun v2 =>
    (if v2 = (1 : Int) then
      ((zv_gI h a0 9 30).bind fun v3 =>
      (if v3 = 0 then
        ((zv_aJ h a1 a2).bind fun v4 =>
        ((zv_gJ h a0 9 38).bind fun v5 =>
        (if (zv_lcmp v4 v5) = 0 then
          ((zv_gI h a0 9 33).bind fun v6 =>
          ((zv_gI h a0 9 32).bind fun v7 =>
          (if (zv_w (v6 - v7)) ≤ (8 : Int) then
            (some (some (zv_i a2), h))
          else
            L9_which_2 d a0 a1 (zv_w (a2 + 1)) h)))
        else
          L9_which_2 d a0 a1 (zv_w (a2 + 1)) h)))
      else
        (some (some (zv_i (-1 : Int)), h))))
    else
      (some (some (zv_i (-1 : Int)), h))))
  else
    (some (some (zv_i (-1 : Int)), h)))) := (zv_lim_eq _ _ _ _ _ _).trans rfl
set_option maxRecDepth 100000 in
theorem qE9_isSign (d : Nat) (a0 : Nat) (a1 : Int) (h : zv_H) : E9_isSign d a0 a1 h =
  ((zv_gI h a0 9 30).bind fun v1 =>
  (if v1 = 0 then
    ((zv_gI h a0 9 34).bind fun v2 =>
    (if v2 = (3 : Int) then
      ((zv_gR h a0 9 26).bind fun v3 =>
      ((zv_gI h a0 9 32).bind fun v4 =>
      ((zv_aB h v3 v4).bind fun v5 =>
      (if v5 = a1 then
        (some (some (zv_i (1 : Int)), h))
      else
        (some (some (zv_i (0 : Int)), h))))))
    else
      (some (some (zv_i (0 : Int)), h))))
  else
    (some (some (zv_i (0 : Int)), h)))) := (zv_lim_eq _ _ _ _ _ _).trans rfl
set_option maxRecDepth 100000 in
theorem qE9_takes (d : Nat) (a0 : Nat) (a1 : Int) (h : zv_H) : E9_takes d a0 a1 h =
  ((C9_isSign d a0 a1 h).bind fun q1 =>
  ((C9_must d a0 q1.1 (2 : Int) q1.2).bind fun g2 =>
  ((zv_gI g2 a0 9 30).bind fun v3 =>
  (if v3 = 0 then
    ((C9_reads d a0 g2).bind fun g4 =>
    (some (none, g4)))
  else
    (some (none, g2)))))) := (zv_lim_eq _ _ _ _ _ _).trans rfl
set_option maxRecDepth 100000 in
theorem qE9_takesNumber (d : Nat) (a0 : Nat) (h : zv_H) : E9_takesNumber d a0 h =
  ((zv_gI h a0 9 34).bind fun v1 =>
  (if v1 = (2 : Int) then
    L9_takesNumber_14 d a0 a0 (1 : Int) h
  else
    L9_takesNumber_14 d a0 a0 (0 : Int) h)) := (zv_lim_eq _ _ _ _ _ _).trans rfl
set_option maxRecDepth 100000 in
theorem qL9_takesNumber_14 (d : Nat) (a0 : Nat) (e0 : Nat) (e1 : Int) (h : zv_H) : L9_takesNumber_14 d a0 e0 e1 h =
  ((C9_must d e0 e1 (2 : Int) h).bind fun g1 =>
  ((zv_gI g1 a0 9 35).bind fun v2 =>
  ((zv_gI g1 a0 9 30).bind fun v3 =>
  (if v3 = 0 then
    ((C9_reads d a0 g1).bind fun g4 =>
    (some (some (zv_i v2), g4)))
  else
    (some (some (zv_i v2), g1)))))) := (zv_lim_eq _ _ _ _ _ _).trans rfl
set_option maxRecDepth 100000 in
theorem qE9_takesWord (d : Nat) (a0 : Nat) (a1 : Int) (h : zv_H) : E9_takesWord d a0 a1 h =
  ((zv_gI h a0 9 34).bind fun v1 =>
  (if v1 = (1 : Int) then
    L9_takesWord_14 d a0 a1 a0 (1 : Int) h
  else
    L9_takesWord_14 d a0 a1 a0 (0 : Int) h)) := (zv_lim_eq _ _ _ _ _ _).trans rfl
set_option maxRecDepth 100000 in
theorem qL9_takesWord_14 (d : Nat) (a0 : Nat) (a1 : Int) (e0 : Nat) (e1 : Int) (h : zv_H) : L9_takesWord_14 d a0 a1 e0 e1 h =
  ((C9_must d e0 e1 (2 : Int) h).bind fun g1 =>
  ((zv_gI g1 a0 9 33).bind fun v2 =>
  ((zv_gI g1 a0 9 32).bind fun v3 =>
  (if (zv_w (v2 - v3)) ≤ a1 then
    L9_takesWord_37 d a0 a0 (1 : Int) g1
  else
    L9_takesWord_37 d a0 a0 (0 : Int) g1)))) := (zv_lim_eq _ _ _ _ _ _).trans rfl
set_option maxRecDepth 100000 in
theorem qL9_takesWord_37 (d : Nat) (a0 : Nat) (e0 : Nat) (e1 : Int) (h : zv_H) : L9_takesWord_37 d a0 e0 e1 h =
  ((C9_must d e0 e1 (4 : Int) h).bind fun g1 =>
  ((zv_gI g1 a0 9 30).bind fun v2 =>
  (if v2 ≤ 0 then
    ((zv_gI g1 a0 9 33).bind fun v3 =>
    ((zv_gI g1 a0 9 32).bind fun v4 =>
    ((zv_pI g1 a0 9 19 (zv_w (v3 - v4))).bind fun g5 =>
    L9_takesWord_64 d a0 (0 : Int) g5)))
  else
    (some (none, g1))))) := (zv_lim_eq _ _ _ _ _ _).trans rfl
set_option maxRecDepth 100000 in
theorem qL9_takesWord_64 (d : Nat) (a0 : Nat) (a2 : Int) (h : zv_H) : L9_takesWord_64 d a0 a2 h =
  ((zv_gI h a0 9 19).bind fun v1 =>
  (if a2 < v1 then
    ((zv_gR h a0 9 17).bind fun v2 =>
    ((zv_gR h a0 9 26).bind fun v3 =>
    ((zv_gI h a0 9 32).bind fun v4 =>
    ((zv_aB h v3 (zv_w (v4 + a2))).bind fun v5 =>
    ((zv_wI h v2 a2 (zv_w (v5 - (97 : Int)))).bind fun g6 =>
    L9_takesWord_64 d a0 (zv_w (a2 + 1)) g6)))))
  else
    ((C9_reads d a0 h).bind fun g7 =>
    (some (none, g7))))) := (zv_lim_eq _ _ _ _ _ _).trans rfl
set_option maxRecDepth 100000 in
theorem qE9_emits (d : Nat) (a0 : Nat) (a1 : Int) (h : zv_H) : E9_emits d a0 a1 h =
  ((zv_gI h a0 9 30).bind fun v1 =>
  (if v1 ≤ 0 then
    ((zv_gR h a0 9 0).bind fun v2 =>
    ((zv_gR h a0 9 0).bind fun v3 =>
    ((zv_aI h v3 (4 : Int)).bind fun v4 =>
    ((zv_wI h v2 (zv_w ((8 : Int) + v4)) a1).bind fun g5 =>
    ((zv_gR g5 a0 9 0).bind fun v6 =>
    ((zv_aI g5 v6 (4 : Int)).bind fun v7 =>
    ((zv_wI g5 v6 (4 : Int) (zv_w (v7 + (1 : Int)))).bind fun g8 =>
    (some (none, g8)))))))))
  else
    (some (none, h)))) := (zv_lim_eq _ _ _ _ _ _).trans rfl
set_option maxRecDepth 100000 in
theorem qE9_test (d : Nat) (a0 : Nat) (h : zv_H) : E9_test d a0 h =
  ((C9_side d a0 h).bind fun g1 =>
  L9_test_4 d a0 g1) := (zv_lim_eq _ _ _ _ _ _).trans rfl
set_option maxRecDepth 100000 in
theorem qL9_test_4 (d : Nat) (a0 : Nat) (h : zv_H) : L9_test_4 d a0 h =
  ((zv_gR h a0 9 40).bind fun v1 =>
  ((C9_which d a0 v1 h).bind fun q2 =>
  (if q2.1 = (2 : Int) then
    ((C9_reads d a0 q2.2).bind fun g3 =>
    ((C9_side d a0 g3).bind fun g4 =>
    ((C9_emits d a0 (-3 : Int) g4).bind fun g5 =>
    L9_test_4 d a0 g5)))
  else
    (some (none, q2.2))))) := (zv_lim_eq _ _ _ _ _ _).trans rfl
set_option maxRecDepth 100000 in
theorem qE9_side (d : Nat) (a0 : Nat) (h : zv_H) : E9_side d a0 h =
  ((C9_fact d a0 h).bind fun g1 =>
  L9_side_4 d a0 g1) := (zv_lim_eq _ _ _ _ _ _).trans rfl
set_option maxRecDepth 100000 in
theorem qL9_side_4 (d : Nat) (a0 : Nat) (h : zv_H) : L9_side_4 d a0 h =
  ((zv_gR h a0 9 40).bind fun v1 =>
  ((C9_which d a0 v1 h).bind fun q2 =>
  (if q2.1 = (3 : Int) then
    ((C9_reads d a0 q2.2).bind fun g3 =>
    ((C9_fact d a0 g3).bind fun g4 =>
    ((C9_emits d a0 (-2 : Int) g4).bind fun g5 =>
    L9_side_4 d a0 g5)))
  else
    (some (none, q2.2))))) := (zv_lim_eq _ _ _ _ _ _).trans rfl
set_option maxRecDepth 100000 in
theorem qE9_fact (d : Nat) (a0 : Nat) (h : zv_H) : E9_fact d a0 h =
  ((zv_gR h a0 9 40).bind fun v1 =>
  ((C9_which d a0 v1 h).bind fun q2 =>
  (if q2.1 = (4 : Int) then
    L9_fact_17 d a0 (1 : Int) q2.2
  else
    L9_fact_17 d a0 (0 : Int) q2.2))) := (zv_lim_eq _ _ _ _ _ _).trans rfl
set_option maxRecDepth 100000 in
theorem qL9_fact_17 (d : Nat) (a0 : Nat) (e0 : Int) (h : zv_H) : L9_fact_17 d a0 e0 h =
  ((zv_gI h a0 9 30).bind fun v1 =>
  (if v1 = 0 then
    (if e0 = 0 then
      ((C9_isSign d a0 (91 : Int) h).bind fun q2 =>
      (if q2.1 = 0 then
        L9_fact_117 d a0 q2.2
      else
        L9_fact_38 d a0 e0 q2.2))
    else
      L9_fact_38 d a0 e0 h)
  else
    L9_fact_117 d a0 h)) := (zv_lim_eq _ _ _ _ _ _).trans rfl
set_option maxRecDepth 100000 in
theorem qL9_fact_38 (d : Nat) (a0 : Nat) (a1 : Int) (h : zv_H) : L9_fact_38 d a0 a1 h =
  ((zv_gI h a0 9 37).bind fun v1 =>
  (if v1 < (6 : Int) then
    L9_fact_53 d a0 a1 a0 (1 : Int) h
  else
    L9_fact_53 d a0 a1 a0 (0 : Int) h)) := (zv_lim_eq _ _ _ _ _ _).trans rfl
set_option maxRecDepth 100000 in
theorem qL9_fact_53 (d : Nat) (a0 : Nat) (a1 : Int) (e0 : Nat) (e1 : Int) (h : zv_H) : L9_fact_53 d a0 a1 e0 e1 h =
  ((C9_must d e0 e1 (6 : Int) h).bind fun g1 =>
  ((zv_gI g1 a0 9 30).bind fun v2 =>
  (if v2 ≤ 0 then
    ((zv_gI g1 a0 9 37).bind fun v3 =>
    ((zv_pI g1 a0 9 37 (zv_w (v3 + (1 : Int)))).bind fun g4 =>
    ((C9_reads d a0 g4).bind fun g5 =>
    (if a1 = 0 then
      ((C9_test d a0 g5).bind fun g6 =>
      ((C9_takes d a0 (93 : Int) g6).bind fun g7 =>
      ((zv_gI g7 a0 9 37).bind fun v8 =>
      ((zv_pI g7 a0 9 37 (zv_w (v8 - (1 : Int)))).bind fun g9 =>
      (some (none, g9))))))
    else
      ((C9_fact d a0 g5).bind fun g10 =>
      ((C9_emits d a0 (-1 : Int) g10).bind fun g11 =>
      ((zv_gI g11 a0 9 37).bind fun v12 =>
      ((zv_pI g11 a0 9 37 (zv_w (v12 - (1 : Int)))).bind fun g13 =>
      (some (none, g13))))))))))
  else
    (some (none, g1))))) := (zv_lim_eq _ _ _ _ _ _).trans rfl
set_option maxRecDepth 100000 in
theorem qL9_fact_117 (d : Nat) (a0 : Nat) (h : zv_H) : L9_fact_117 d a0 h =
  ((zv_gR h a0 9 41).bind fun v1 =>
  ((C9_which d a0 v1 h).bind fun q2 =>
  (if q2.1 < 0 then
    L9_fact_136 d a0 q2.1 a0 (0 : Int) q2.2
  else
    L9_fact_136 d a0 q2.1 a0 (1 : Int) q2.2))) := (zv_lim_eq _ _ _ _ _ _).trans rfl
set_option maxRecDepth 100000 in
theorem qL9_fact_136 (d : Nat) (a0 : Nat) (a2 : Int) (e0 : Nat) (e1 : Int) (h : zv_H) : L9_fact_136 d a0 a2 e0 e1 h =
  ((C9_must d e0 e1 (2 : Int) h).bind fun g1 =>
  ((zv_gI g1 a0 9 30).bind fun v2 =>
  (if v2 ≤ 0 then
    ((C9_reads d a0 g1).bind fun g3 =>
    ((C9_isSign d a0 (60 : Int) g3).bind fun q4 =>
    (if q4.1 = 0 then
      ((C9_isSign d a0 (61 : Int) q4.2).bind fun q5 =>
      (if q5.1 = 0 then
        ((C9_isSign d a0 (62 : Int) q5.2).bind fun q6 =>
        (if q6.1 = 0 then
          L9_fact_192 d a0 a2 (-1 : Int) q6.2
        else
          L9_fact_192 d a0 a2 (2 : Int) q6.2))
      else
        L9_fact_192 d a0 a2 (1 : Int) q5.2))
    else
      L9_fact_192 d a0 a2 (0 : Int) q4.2)))
  else
    (some (none, g1))))) := (zv_lim_eq _ _ _ _ _ _).trans rfl
set_option maxRecDepth 100000 in
theorem qL9_fact_192 (d : Nat) (a0 : Nat) (a2 : Int) (e0 : Int) (h : zv_H) : L9_fact_192 d a0 a2 e0 h =
  (if e0 < 0 then
    L9_fact_203 d a0 a2 e0 a0 (0 : Int) h
  else
    L9_fact_203 d a0 a2 e0 a0 (1 : Int) h) := (zv_lim_eq _ _ _ _ _ _).trans rfl
set_option maxRecDepth 100000 in
theorem qL9_fact_203 (d : Nat) (a0 : Nat) (a2 : Int) (a3 : Int) (e0 : Nat) (e1 : Int) (h : zv_H) : L9_fact_203 d a0 a2 a3 e0 e1 h =
  ((C9_must d e0 e1 (2 : Int) h).bind fun g1 =>
  ((zv_gI g1 a0 9 30).bind fun v2 =>
  (if v2 = 0 then
    ((C9_reads d a0 g1).bind fun g3 =>
    L9_fact_218 d a0 a2 a3 g3)
  else
    L9_fact_218 d a0 a2 a3 g1))) := (zv_lim_eq _ _ _ _ _ _).trans rfl
set_option maxRecDepth 100000 in
theorem qL9_fact_218 (d : Nat) (a0 : Nat) (a2 : Int) (a3 : Int) (h : zv_H) : L9_fact_218 d a0 a2 a3 h =
  ((C9_takesNumber d a0 h).bind fun q1 =>
  ((C9_emits d a0 (zv_w ((zv_w (a2 + (zv_w ((6 : Int) * a3)))) + (zv_w ((18 : Int) * q1.1)))) q1.2).bind fun g2 =>
  (some (none, g2)))) := (zv_lim_eq _ _ _ _ _ _).trans rfl
set_option maxRecDepth 100000 in
theorem qE9_readsLine (d : Nat) (a0 : Nat) (h : zv_H) : E9_readsLine d a0 h =
  ((zv_gR h a0 9 39).bind fun v1 =>
  ((C9_which d a0 v1 h).bind fun q2 =>
  (if q2.1 < 0 then
    L9_readsLine_19 d a0 q2.1 a0 (0 : Int) q2.2
  else
    L9_readsLine_19 d a0 q2.1 a0 (1 : Int) q2.2))) := (zv_lim_eq _ _ _ _ _ _).trans rfl
set_option maxRecDepth 100000 in
theorem qL9_readsLine_19 (d : Nat) (a0 : Nat) (a1 : Int) (e0 : Nat) (e1 : Int) (h : zv_H) : L9_readsLine_19 d a0 a1 e0 e1 h =
  ((C9_must d e0 e1 (2 : Int) h).bind fun g1 =>
  ((zv_gI g1 a0 9 30).bind fun v2 =>
  (if v2 ≤ 0 then
    ((C9_reads d a0 g1).bind fun g3 =>
    ((zv_pI g3 a0 9 42 (0 : Int)).bind fun g4 =>
    ((zv_pI g4 a0 9 43 (0 : Int)).bind fun g5 =>
    (if a1 < (3 : Int) then
      L9_readsLine_61 d a0 a1 g5
    else
      (if a1 = (5 : Int) then
        L9_readsLine_61 d a0 a1 g5
      else
        (if a1 ≤ (6 : Int) then
          L9_readsLine_69 d a0 a1 g5
        else
          L9_readsLine_61 d a0 a1 g5))))))
  else
    (some (none, g1))))) := (zv_lim_eq _ _ _ _ _ _).trans rfl
set_option maxRecDepth 100000 in
theorem qL9_readsLine_61 (d : Nat) (a0 : Nat) (a1 : Int) (h : zv_H) : L9_readsLine_61 d a0 a1 h =
  ((C9_takesNumber d a0 h).bind fun q1 =>
  ((zv_pI q1.2 a0 9 42 q1.1).bind fun g2 =>
  L9_readsLine_69 d a0 a1 g2)) := (zv_lim_eq _ _ _ _ _ _).trans rfl
set_option maxRecDepth 100000 in
theorem qL9_readsLine_69 (d : Nat) (a0 : Nat) (a1 : Int) (h : zv_H) : L9_readsLine_69 d a0 a1 h =
  (if a1 = (1 : Int) then
    ((C9_takesNumber d a0 h).bind fun q1 =>
    ((zv_pI q1.2 a0 9 43 q1.1).bind fun g2 =>
    L9_readsLine_82 d a0 a1 g2))
  else
    L9_readsLine_82 d a0 a1 h) := (zv_lim_eq _ _ _ _ _ _).trans rfl
set_option maxRecDepth 100000 in
theorem qL9_readsLine_82 (d : Nat) (a0 : Nat) (a1 : Int) (h : zv_H) : L9_readsLine_82 d a0 a1 h =
  (if a1 = 0 then
    ((C9_takesWord d a0 (12 : Int) h).bind fun g1 =>
    L9_readsLine_92 d a0 a1 g1)
  else
    L9_readsLine_92 d a0 a1 h) := (zv_lim_eq _ _ _ _ _ _).trans rfl
set_option maxRecDepth 100000 in
theorem qL9_readsLine_92 (d : Nat) (a0 : Nat) (a1 : Int) (h : zv_H) : L9_readsLine_92 d a0 a1 h =
  (if a1 = (6 : Int) then
    ((C9_takesWord d a0 (6 : Int) h).bind fun g1 =>
    L9_readsLine_104 d a0 a1 g1)
  else
    L9_readsLine_104 d a0 a1 h) := (zv_lim_eq _ _ _ _ _ _).trans rfl
set_option maxRecDepth 100000 in
theorem qL9_readsLine_104 (d : Nat) (a0 : Nat) (a1 : Int) (h : zv_H) : L9_readsLine_104 d a0 a1 h =
  ((zv_gI h a0 9 34).bind fun v1 =>
  (if v1 = (3 : Int) then
    ((zv_gR h a0 9 26).bind fun v2 =>
    ((zv_gI h a0 9 32).bind fun v3 =>
    ((zv_aB h v2 v3).bind fun v4 =>
    (if v4 = (59 : Int) then
      L9_readsLine_132 d a0 a1 a0 (1 : Int) h
    else
      L9_readsLine_131 d a0 a1 a0 h))))
  else
    L9_readsLine_131 d a0 a1 a0 h)) := (zv_lim_eq _ _ _ _ _ _).trans rfl
set_option maxRecDepth 100000 in
theorem qL9_readsLine_131 (d : Nat) (a0 : Nat) (a1 : Int) (e0 : Nat) (h : zv_H) : L9_readsLine_131 d a0 a1 e0 h =
  L9_readsLine_132 d a0 a1 e0 (0 : Int) h := (zv_lim_eq _ _ _ _ _ _).trans rfl
set_option maxRecDepth 100000 in
theorem qL9_readsLine_132 (d : Nat) (a0 : Nat) (a1 : Int) (e0 : Nat) (e1 : Int) (h : zv_H) : L9_readsLine_132 d a0 a1 e0 e1 h =
  ((C9_must d e0 e1 (2 : Int) h).bind fun g1 =>
  ((zv_gI g1 a0 9 30).bind fun v2 =>
  (if v2 ≤ 0 then
    ((C9_does d a0 a1 g1).bind fun q3 =>
    (if q3.1 < 0 then
      L9_readsLine_158 d a0 a0 (0 : Int) q3.2
    else
      L9_readsLine_158 d a0 a0 (1 : Int) q3.2))
  else
    (some (none, g1))))) := (zv_lim_eq _ _ _ _ _ _).trans rfl
set_option maxRecDepth 100000 in
theorem qL9_readsLine_158 (d : Nat) (a0 : Nat) (e0 : Nat) (e1 : Int) (h : zv_H) : L9_readsLine_158 d a0 e0 e1 h =
  ((C9_must d e0 e1 (7 : Int) h).bind fun g1 =>
  ((zv_gI g1 a0 9 30).bind fun v2 =>
  (if v2 = 0 then
    ((C9_reads d a0 g1).bind fun g3 =>
    (some (none, g3)))
  else
    (some (none, g1))))) := (zv_lim_eq _ _ _ _ _ _).trans rfl
set_option maxRecDepth 100000 in
theorem qE9_does (d : Nat) (a0 : Nat) (a1 : Int) (h : zv_H) : E9_does d a0 a1 h =
  (if a1 = (0 : Int) then
    ((zv_gI h a0 9 42).bind fun v1 =>
    ((C9_putNow d a0 v1 h).bind fun q2 =>
    (some (some (zv_i q2.1), q2.2))))
  else
  if a1 = (1 : Int) then
    ((zv_gI h a0 9 42).bind fun v3 =>
    ((zv_gI h a0 9 43).bind fun v4 =>
    ((C9_cutNow d a0 v3 v4 h).bind fun q5 =>
    (some (some (zv_i q5.1), q5.2)))))
  else
  if a1 = (2 : Int) then
    ((zv_gR h a0 9 0).bind fun v6 =>
    ((zv_aI h v6 (1 : Int)).bind fun v7 =>
    ((zv_gI h a0 9 42).bind fun v8 =>
    ((zv_wI h v6 (1 : Int) (zv_w (v7 + v8))).bind fun g9 =>
    (some (some (zv_i (0 : Int)), g9))))))
  else
  if a1 = (3 : Int) then
    ((C9_undoNow d a0 h).bind fun q10 =>
    (some (some (zv_i q10.1), q10.2)))
  else
  if a1 = (4 : Int) then
    ((C9_redoNow d a0 h).bind fun q11 =>
    (some (some (zv_i q11.1), q11.2)))
  else
  if a1 = (5 : Int) then
    ((zv_gI h a0 9 42).bind fun v12 =>
    ((C9_goNow d a0 v12 h).bind fun q13 =>
    (some (some (zv_i q13.1), q13.2))))
  else
  if a1 = (6 : Int) then
    ((C9_nameNow d a0 h).bind fun q14 =>
    (some (some (zv_i q14.1), q14.2)))
  else
  if a1 = (7 : Int) then
    ((zv_gI h a0 9 42).bind fun v15 =>
    ((C9_turnNow d a0 v15 (2 : Int) h).bind fun q16 =>
    (some (some (zv_i q16.1), q16.2))))
  else
  if a1 = (8 : Int) then
    ((zv_gI h a0 9 42).bind fun v17 =>
    ((C9_turnNow d a0 v17 (3 : Int) h).bind fun q18 =>
    (some (some (zv_i q18.1), q18.2))))
  else
  if a1 = (9 : Int) then
    ((zv_gI h a0 9 42).bind fun v19 =>
    ((C9_carryNow d a0 v19 h).bind fun q20 =>
    (some (some (zv_i q20.1), q20.2))))
  else
  if a1 = (10 : Int) then
    ((zv_gI h a0 9 42).bind fun v21 =>
    ((C9_mergeNow d a0 v21 h).bind fun q22 =>
    (some (some (zv_i q22.1), q22.2))))
  else
    ((zv_gI h a0 9 42).bind fun v23 =>
    ((C9_pruneNow d a0 v23 h).bind fun q24 =>
    (some (some (zv_i q24.1), q24.2))))) := (zv_lim_eq _ _ _ _ _ _).trans rfl
set_option maxRecDepth 100000 in
theorem qE9_load (d : Nat) (a0 : Nat) (a1 : Int) (h : zv_H) : E9_load d a0 a1 h =
  ((zv_gI h a0 9 27).bind fun v1 =>
  ((C9_isIn d a1 (0 : Int) v1 h).bind fun q2 =>
  (if q2.1 = 0 then
    L9_load_18 d a0 a1 a0 (1 : Int) q2.2
  else
    L9_load_18 d a0 a1 a0 (0 : Int) q2.2))) := (zv_lim_eq _ _ _ _ _ _).trans rfl
set_option maxRecDepth 100000 in
theorem qL9_load_18 (d : Nat) (a0 : Nat) (a1 : Int) (e0 : Nat) (e1 : Int) (h : zv_H) : L9_load_18 d a0 a1 e0 e1 h =
  ((C9_is d e0 e1 h).bind fun q1 =>
  (if q1.1 = 0 then
    (some (some (zv_i (-1 : Int)), q1.2))
  else
    ((zv_pI q1.2 a0 9 36 a1).bind fun g2 =>
    ((zv_pI g2 a0 9 33 (0 : Int)).bind fun g3 =>
    ((zv_pI g3 a0 9 30 (0 : Int)).bind fun g4 =>
    ((zv_pI g4 a0 9 37 (0 : Int)).bind fun g5 =>
    L9_load_48 d a0 (0 : Int) g5)))))) := (zv_lim_eq _ _ _ _ _ _).trans rfl
set_option maxRecDepth 100000 in
theorem qL9_load_48 (d : Nat) (a0 : Nat) (a2 : Int) (h : zv_H) : L9_load_48 d a0 a2 h =
  (if a2 < (4236 : Int) then
    ((zv_gR h a0 9 1).bind fun v1 =>
    ((zv_gR h a0 9 0).bind fun v2 =>
    ((zv_aI h v2 a2).bind fun v3 =>
    ((zv_wI h v1 a2 v3).bind fun g4 =>
    L9_load_48 d a0 (zv_w (a2 + 1)) g4))))
  else
    ((C9_clears d a0 h).bind fun g5 =>
    ((C9_reads d a0 g5).bind fun g6 =>
    ((zv_gR g6 a0 9 40).bind fun v7 =>
    ((C9_which d a0 v7 g6).bind fun q8 =>
    (if q8.1 = 0 then
      ((C9_reads d a0 q8.2).bind fun g9 =>
      ((C9_takesWord d a0 (40 : Int) g9).bind fun g10 =>
      L9_load_104 d a0 (0 : Int) g10))
    else
      L9_load_156 d a0 q8.2)))))) := (zv_lim_eq _ _ _ _ _ _).trans rfl
set_option maxRecDepth 100000 in
theorem qL9_load_104 (d : Nat) (a0 : Nat) (a2 : Int) (h : zv_H) : L9_load_104 d a0 a2 h =
  ((zv_gI h a0 9 19).bind fun v1 =>
  (if a2 < v1 then
    ((zv_gI h a0 9 30).bind fun v2 =>
    (if v2 = 0 then
      ((zv_gR h a0 9 17).bind fun v3 =>
      ((zv_aI h v3 a2).bind fun v4 =>
      ((C9_sets d a0 (0 : Int) (zv_w ((12 : Int) + a2)) v4 h).bind fun g5 =>
      L9_load_104 d a0 (zv_w (a2 + 1)) g5)))
    else
      L9_load_140 d a0 h))
  else
    L9_load_140 d a0 h)) := (zv_lim_eq _ _ _ _ _ _).trans rfl
set_option maxRecDepth 100000 in
theorem qL9_load_140 (d : Nat) (a0 : Nat) (h : zv_H) : L9_load_140 d a0 h =
  ((zv_gI h a0 9 19).bind fun v1 =>
  ((C9_sets d a0 (0 : Int) (5 : Int) v1 h).bind fun g2 =>
  ((C9_takes d a0 (59 : Int) g2).bind fun g3 =>
  L9_load_156 d a0 g3))) := (zv_lim_eq _ _ _ _ _ _).trans rfl
set_option maxRecDepth 100000 in
theorem qL9_load_156 (d : Nat) (a0 : Nat) (h : zv_H) : L9_load_156 d a0 h =
  ((zv_gR h a0 9 40).bind fun v1 =>
  ((C9_which d a0 v1 h).bind fun q2 =>
  (if q2.1 = (1 : Int) then
    ((C9_reads d a0 q2.2).bind fun g3 =>
    ((C9_test d a0 g3).bind fun g4 =>
    ((C9_takes d a0 (59 : Int) g4).bind fun g5 =>
    L9_load_182 d a0 g5)))
  else
    L9_load_182 d a0 q2.2))) := (zv_lim_eq _ _ _ _ _ _).trans rfl
set_option maxRecDepth 100000 in
theorem qL9_load_182 (d : Nat) (a0 : Nat) (h : zv_H) : L9_load_182 d a0 h =
  ((zv_gI h a0 9 30).bind fun v1 =>
  (if v1 = 0 then
    ((zv_gI h a0 9 34).bind fun v2 =>
    (if v2 = 0 then
      L9_load_203 d a0 h
    else
      ((C9_readsLine d a0 h).bind fun g3 =>
      L9_load_182 d a0 g3)))
  else
    L9_load_203 d a0 h)) := (zv_lim_eq _ _ _ _ _ _).trans rfl
set_option maxRecDepth 100000 in
theorem qL9_load_203 (d : Nat) (a0 : Nat) (h : zv_H) : L9_load_203 d a0 h =
  ((zv_pI h a0 9 27 (0 : Int)).bind fun g1 =>
  ((zv_gI g1 a0 9 30).bind fun v2 =>
  ((zv_pI g1 a0 9 28 v2).bind fun g3 =>
  ((zv_gI g3 a0 9 30).bind fun v4 =>
  (if v4 ≤ 0 then
    L9_load_232 d a0 a0 (-1 : Int) g3
  else
    ((zv_gI g3 a0 9 31).bind fun v5 =>
    L9_load_232 d a0 a0 v5 g3)))))) := (zv_lim_eq _ _ _ _ _ _).trans rfl
set_option maxRecDepth 100000 in
theorem qL9_load_232 (d : Nat) (a0 : Nat) (e0 : Nat) (e1 : Int) (h : zv_H) : L9_load_232 d a0 e0 e1 h =
  ((zv_pI h e0 9 29 e1).bind fun g1 =>
  ((zv_pI g1 a0 9 3 (0 : Int)).bind fun g2 =>
  ((zv_gI g2 a0 9 30).bind fun v3 =>
  (if v3 = 0 then
    ((C9_states d a0 g2).bind fun q4 =>
    (some (some (zv_i q4.1), q4.2)))
  else
    L9_load_254 d a0 (0 : Int) g2)))) := (zv_lim_eq _ _ _ _ _ _).trans rfl
set_option maxRecDepth 100000 in
theorem qL9_load_254 (d : Nat) (a0 : Nat) (a2 : Int) (h : zv_H) : L9_load_254 d a0 a2 h =
  (if a2 < (4236 : Int) then
    ((zv_gR h a0 9 0).bind fun v1 =>
    ((zv_gR h a0 9 1).bind fun v2 =>
    ((zv_aI h v2 a2).bind fun v3 =>
    ((zv_wI h v1 a2 v3).bind fun g4 =>
    L9_load_254 d a0 (zv_w (a2 + 1)) g4))))
  else
    ((C9_refuse d a0 (9 : Int) h).bind fun q5 =>
    (some (some (zv_i q5.1), q5.2)))) := (zv_lim_eq _ _ _ _ _ _).trans rfl
set_option maxRecDepth 100000 in
theorem qE9_fault (d : Nat) (a0 : Nat) (a1 : Int) (h : zv_H) : E9_fault d a0 a1 h =
  ((zv_pI h a0 9 4 (0 : Int)).bind fun g1 =>
  (if a1 = 0 then
    ((zv_gI g1 a0 9 28).bind fun v2 =>
    (some (some (zv_i v2), g1)))
  else
    (if a1 = (1 : Int) then
      ((zv_gI g1 a0 9 29).bind fun v3 =>
      (some (some (zv_i v3), g1)))
    else
      (some (some (zv_i (-1 : Int)), g1))))) := (zv_lim_eq _ _ _ _ _ _).trans rfl
set_option maxRecDepth 100000 in
theorem qE9_leaves (d : Nat) (a0 : Nat) (h : zv_H) : E9_leaves d a0 h =
  L9_leaves_4 d a0 (0 : Int) (0 : Int) h := (zv_lim_eq _ _ _ _ _ _).trans rfl
set_option maxRecDepth 100000 in
theorem qL9_leaves_4 (d : Nat) (a0 : Nat) (a1 : Int) (a2 : Int) (h : zv_H) : L9_leaves_4 d a0 a1 a2 h =
  (if a2 < (48 : Int) then
    ((C9_isState d a0 a2 h).bind fun q1 =>
    (if q1.1 = 0 then
      L9_leaves_4 d a0 (zv_w (a1 + (0 : Int))) (zv_w (a2 + 1)) q1.2
    else
      ((C9_childrenOf d a0 a2 q1.2).bind fun q2 =>
      (if q2.1 = 0 then
        L9_leaves_4 d a0 (zv_w (a1 + (1 : Int))) (zv_w (a2 + 1)) q2.2
      else
        L9_leaves_4 d a0 (zv_w (a1 + (0 : Int))) (zv_w (a2 + 1)) q2.2))))
  else
    (some (some (zv_i a1), h))) := (zv_lim_eq _ _ _ _ _ _).trans rfl
set_option maxRecDepth 100000 in
theorem qE9_groups (d : Nat) (a0 : Nat) (h : zv_H) : E9_groups d a0 h =
  ((C9_here d a0 h).bind fun q1 =>
  L9_groups_7 d a0 (0 : Int) q1.1 q1.2) := (zv_lim_eq _ _ _ _ _ _).trans rfl
set_option maxRecDepth 100000 in
theorem qL9_groups_7 (d : Nat) (a0 : Nat) (a1 : Int) (a2 : Int) (h : zv_H) : L9_groups_7 d a0 a1 a2 h =
  (if a2 ≤ 0 then
    (some (some (zv_i a1), h))
  else
    ((C9_of d a0 a2 (6 : Int) h).bind fun q1 =>
    (if q1.1 = a2 then
      L9_groups_28 d a0 a2 a1 (1 : Int) q1.2
    else
      L9_groups_28 d a0 a2 a1 (0 : Int) q1.2))) := (zv_lim_eq _ _ _ _ _ _).trans rfl
set_option maxRecDepth 100000 in
theorem qL9_groups_28 (d : Nat) (a0 : Nat) (a2 : Int) (e0 : Int) (e1 : Int) (h : zv_H) : L9_groups_28 d a0 a2 e0 e1 h =
  ((C9_of d a0 a2 (1 : Int) h).bind fun q1 =>
  L9_groups_7 d a0 (zv_w (e0 + e1)) q1.1 q1.2) := (zv_lim_eq _ _ _ _ _ _).trans rfl
set_option maxRecDepth 100000 in
theorem qE9_gone (d : Nat) (a0 : Nat) (h : zv_H) : E9_gone d a0 h =
  ((C9_here d a0 h).bind fun q1 =>
  ((C9_sees d a0 q1.1 q1.2).bind fun g2 =>
  L9_gone_12 d a0 (0 : Int) (1 : Int) g2)) := (zv_lim_eq _ _ _ _ _ _).trans rfl
set_option maxRecDepth 100000 in
theorem qL9_gone_12 (d : Nat) (a0 : Nat) (a1 : Int) (a2 : Int) (h : zv_H) : L9_gone_12 d a0 a1 a2 h =
  ((zv_gI h a0 9 10).bind fun v1 =>
  (if a2 < v1 then
    ((zv_gR h a0 9 5).bind fun v2 =>
    ((zv_aI h v2 a2).bind fun v3 =>
    ((C9_isEdit d a0 v3 h).bind fun q4 =>
    (if q4.1 = 0 then
      L9_gone_12 d a0 (zv_w (a1 + (0 : Int))) (zv_w (a2 + 1)) q4.2
    else
      ((zv_gR q4.2 a0 9 8).bind fun v5 =>
      ((zv_gR q4.2 a0 9 5).bind fun v6 =>
      ((zv_aI q4.2 v6 a2).bind fun v7 =>
      ((zv_aB q4.2 v5 v7).bind fun v8 =>
      (if v8 = 0 then
        L9_gone_12 d a0 (zv_w (a1 + (1 : Int))) (zv_w (a2 + 1)) q4.2
      else
        L9_gone_12 d a0 (zv_w (a1 + (0 : Int))) (zv_w (a2 + 1)) q4.2)))))))))
  else
    (some (some (zv_i a1), h)))) := (zv_lim_eq _ _ _ _ _ _).trans rfl
set_option maxRecDepth 100000 in
theorem qE9_many (d : Nat) (a0 : Nat) (a1 : Int) (h : zv_H) : E9_many d a0 a1 h =
  ((C9_isIn d a1 (0 : Int) (9 : Int) h).bind fun q1 =>
  (if q1.1 = 0 then
    L9_many_16 d a0 a1 a0 (1 : Int) q1.2
  else
    L9_many_16 d a0 a1 a0 (0 : Int) q1.2)) := (zv_lim_eq _ _ _ _ _ _).trans rfl
set_option maxRecDepth 100000 in
theorem qL9_many_16 (d : Nat) (a0 : Nat) (a1 : Int) (e0 : Nat) (e1 : Int) (h : zv_H) : L9_many_16 d a0 a1 e0 e1 h =
  ((C9_is d e0 e1 h).bind fun q1 =>
  (if q1.1 = 0 then
    (some (some (zv_i (-1 : Int)), q1.2))
  else
    ((C9_here d a0 q1.2).bind fun q2 =>
    ((C9_sees d a0 q2.1 q2.2).bind fun g3 =>
    (if a1 = (0 : Int) then
      ((C9_states d a0 g3).bind fun q4 =>
      (some (some (zv_i q4.1), q4.2)))
    else
    if a1 = (1 : Int) then
      ((C9_here d a0 g3).bind fun q5 =>
      (some (some (zv_i q5.1), q5.2)))
    else
    if a1 = (2 : Int) then
      ((zv_gR g3 a0 9 0).bind fun v6 =>
      ((zv_aI g3 v6 (1 : Int)).bind fun v7 =>
      (some (some (zv_i v7), g3))))
    else
    if a1 = (3 : Int) then
      ((zv_gI g3 a0 9 12).bind fun v8 =>
      (some (some (zv_i v8), g3)))
    else
    if a1 = (4 : Int) then
      ((zv_gI g3 a0 9 11).bind fun v9 =>
      (some (some (zv_i v9), g3)))
    else
    if a1 = (5 : Int) then
      ((zv_gR g3 a0 9 0).bind fun v10 =>
      ((zv_aI g3 v10 (3 : Int)).bind fun v11 =>
      (some (some (zv_i v11), g3))))
    else
    if a1 = (6 : Int) then
      ((C9_leaves d a0 g3).bind fun q12 =>
      (some (some (zv_i q12.1), q12.2)))
    else
    if a1 = (7 : Int) then
      ((C9_groups d a0 g3).bind fun q13 =>
      (some (some (zv_i q13.1), q13.2)))
    else
    if a1 = (8 : Int) then
      ((C9_gone d a0 g3).bind fun q14 =>
      (some (some (zv_i q14.1), q14.2)))
    else
      ((zv_gR g3 a0 9 0).bind fun v15 =>
      ((zv_aI g3 v15 (2 : Int)).bind fun v16 =>
      (some (some (zv_i v16), g3))))))))) := (zv_lim_eq _ _ _ _ _ _).trans rfl
set_option maxRecDepth 100000 in
theorem qE9_letter (d : Nat) (a0 : Nat) (a1 : Int) (a2 : Int) (h : zv_H) : E9_letter d a0 a1 a2 h =
  (if a2 < 0 then
    L9_letter_22 d a0 a1 a2 a0 (1 : Int) h
  else
    ((C9_isState d a0 a1 h).bind fun q1 =>
    (if q1.1 = 0 then
      L9_letter_22 d a0 a1 a2 a0 (2 : Int) q1.2
    else
      L9_letter_22 d a0 a1 a2 a0 (0 : Int) q1.2))) := (zv_lim_eq _ _ _ _ _ _).trans rfl
set_option maxRecDepth 100000 in
theorem qL9_letter_22 (d : Nat) (a0 : Nat) (a1 : Int) (a2 : Int) (e0 : Nat) (e1 : Int) (h : zv_H) : L9_letter_22 d a0 a1 a2 e0 e1 h =
  ((C9_is d e0 e1 h).bind fun q1 =>
  (if q1.1 = 0 then
    (some (some (zv_i (-1 : Int)), q1.2))
  else
    ((C9_sees d a0 a1 q1.2).bind fun g2 =>
    ((zv_gI g2 a0 9 12).bind fun v3 =>
    (if a2 < v3 then
      ((C9_rowPlace d a0 a2 g2).bind fun q4 =>
      ((C9_letterIn d a0 q4.1 q4.2).bind fun q5 =>
      (some (some (zv_i q5.1), q5.2))))
    else
      ((C9_refuse d a0 (5 : Int) g2).bind fun q6 =>
      (some (some (zv_i q6.1), q6.2)))))))) := (zv_lim_eq _ _ _ _ _ _).trans rfl
set_option maxRecDepth 100000 in
theorem qE9_namesOf (d : Nat) (a0 : Nat) (a1 : Int) (h : zv_H) : E9_namesOf d a0 a1 h =
  L9_namesOf_4 d a0 a1 (0 : Int) (0 : Int) h := (zv_lim_eq _ _ _ _ _ _).trans rfl
set_option maxRecDepth 100000 in
theorem qL9_namesOf_4 (d : Nat) (a0 : Nat) (a1 : Int) (a2 : Int) (a3 : Int) (h : zv_H) : L9_namesOf_4 d a0 a1 a2 a3 h =
  ((zv_gR h a0 9 0).bind fun v1 =>
  ((zv_aI h v1 (3 : Int)).bind fun v2 =>
  (if a3 < v2 then
    ((zv_gR h a0 9 0).bind fun v3 =>
    ((zv_aI h v3 (zv_w ((zv_w ((408 : Int) + (zv_w ((2 : Int) * a3)))) + (1 : Int)))).bind fun v4 =>
    (if v4 = a1 then
      L9_namesOf_4 d a0 a1 (zv_w (a2 + (1 : Int))) (zv_w (a3 + 1)) h
    else
      L9_namesOf_4 d a0 a1 (zv_w (a2 + (0 : Int))) (zv_w (a3 + 1)) h)))
  else
    (some (some (zv_i a2), h))))) := (zv_lim_eq _ _ _ _ _ _).trans rfl
set_option maxRecDepth 100000 in
theorem qE9_state (d : Nat) (a0 : Nat) (a1 : Int) (a2 : Int) (h : zv_H) : E9_state d a0 a1 a2 h =
  ((C9_isIn d a2 (0 : Int) (9 : Int) h).bind fun q1 =>
  (if q1.1 = 0 then
    L9_state_28 d a0 a1 a2 a0 (1 : Int) q1.2
  else
    ((C9_isState d a0 a1 q1.2).bind fun q2 =>
    (if q2.1 = 0 then
      L9_state_28 d a0 a1 a2 a0 (2 : Int) q2.2
    else
      L9_state_28 d a0 a1 a2 a0 (0 : Int) q2.2)))) := (zv_lim_eq _ _ _ _ _ _).trans rfl
set_option maxRecDepth 100000 in
theorem qL9_state_28 (d : Nat) (a0 : Nat) (a1 : Int) (a2 : Int) (e0 : Nat) (e1 : Int) (h : zv_H) : L9_state_28 d a0 a1 a2 e0 e1 h =
  ((C9_is d e0 e1 h).bind fun q1 =>
  (if q1.1 = 0 then
    (some (some (zv_i (-1 : Int)), q1.2))
  else
    (if a2 < (6 : Int) then
      ((C9_of d a0 a1 (zv_w ((1 : Int) + a2)) q1.2).bind fun q2 =>
      (some (some (zv_i q2.1), q2.2)))
    else
      (if a2 = (6 : Int) then
        ((C9_childrenOf d a0 a1 q1.2).bind fun q3 =>
        (some (some (zv_i q3.1), q3.2)))
      else
        (if a2 = (7 : Int) then
          ((C9_depthOf d a0 a1 q1.2).bind fun q4 =>
          (some (some (zv_i q4.1), q4.2)))
        else
          (if a2 = (8 : Int) then
            ((C9_lettersOf d a0 a1 q1.2).bind fun q5 =>
            (some (some (zv_i q5.1), q5.2)))
          else
            ((C9_namesOf d a0 a1 q1.2).bind fun q6 =>
            (some (some (zv_i q6.1), q6.2))))))))) := (zv_lim_eq _ _ _ _ _ _).trans rfl
set_option maxRecDepth 100000 in
theorem qE9_child (d : Nat) (a0 : Nat) (a1 : Int) (a2 : Int) (h : zv_H) : E9_child d a0 a1 a2 h =
  (if a2 < 0 then
    L9_child_22 d a0 a1 a2 a0 (1 : Int) h
  else
    ((C9_isState d a0 a1 h).bind fun q1 =>
    (if q1.1 = 0 then
      L9_child_22 d a0 a1 a2 a0 (2 : Int) q1.2
    else
      L9_child_22 d a0 a1 a2 a0 (0 : Int) q1.2))) := (zv_lim_eq _ _ _ _ _ _).trans rfl
set_option maxRecDepth 100000 in
theorem qL9_child_22 (d : Nat) (a0 : Nat) (a1 : Int) (a2 : Int) (e0 : Nat) (e1 : Int) (h : zv_H) : L9_child_22 d a0 a1 a2 e0 e1 h =
  ((C9_is d e0 e1 h).bind fun q1 =>
  (if q1.1 = 0 then
    (some (some (zv_i (-1 : Int)), q1.2))
  else
    (if a2 < (48 : Int) then
      ((C9_childOf d a0 a1 a2 q1.2).bind fun q2 =>
      L9_child_46 d a0 q2.1 q2.2)
    else
      L9_child_46 d a0 (-1 : Int) q1.2))) := (zv_lim_eq _ _ _ _ _ _).trans rfl
set_option maxRecDepth 100000 in
theorem qL9_child_46 (d : Nat) (a0 : Nat) (e0 : Int) (h : zv_H) : L9_child_46 d a0 e0 h =
  (if e0 < 0 then
    ((C9_refuse d a0 (5 : Int) h).bind fun q1 =>
    (some (some (zv_i q1.1), q1.2)))
  else
    (some (some (zv_i e0), h))) := (zv_lim_eq _ _ _ _ _ _).trans rfl
set_option maxRecDepth 100000 in
theorem qE9_force (d : Nat) (a0 : Nat) (a1 : Int) (a2 : Int) (h : zv_H) : E9_force d a0 a1 a2 h =
  ((C9_isState d a0 a1 h).bind fun q1 =>
  (if q1.1 = 0 then
    L9_force_17 d a0 a1 a2 a0 q1.2
  else
    ((C9_isState d a0 a2 q1.2).bind fun q2 =>
    (if q2.1 = 0 then
      L9_force_17 d a0 a1 a2 a0 q2.2
    else
      ((C9_isEdit d a0 a1 q2.2).bind fun q3 =>
      (if q3.1 = 0 then
        L9_force_38 d a0 a1 a2 a0 q3.2
      else
        ((C9_isOfLine d a0 a1 a2 q3.2).bind fun q4 =>
        (if q4.1 = 0 then
          L9_force_38 d a0 a1 a2 a0 q4.2
        else
          L9_force_43 d a0 a1 a2 a0 (0 : Int) q4.2)))))))) := (zv_lim_eq _ _ _ _ _ _).trans rfl
set_option maxRecDepth 100000 in
theorem qL9_force_17 (d : Nat) (a0 : Nat) (a1 : Int) (a2 : Int) (e0 : Nat) (h : zv_H) : L9_force_17 d a0 a1 a2 e0 h =
  L9_force_43 d a0 a1 a2 e0 (2 : Int) h := (zv_lim_eq _ _ _ _ _ _).trans rfl
set_option maxRecDepth 100000 in
theorem qL9_force_38 (d : Nat) (a0 : Nat) (a1 : Int) (a2 : Int) (e0 : Nat) (h : zv_H) : L9_force_38 d a0 a1 a2 e0 h =
  L9_force_43 d a0 a1 a2 e0 (5 : Int) h := (zv_lim_eq _ _ _ _ _ _).trans rfl
set_option maxRecDepth 100000 in
theorem qL9_force_43 (d : Nat) (a0 : Nat) (a1 : Int) (a2 : Int) (e0 : Nat) (e1 : Int) (h : zv_H) : L9_force_43 d a0 a1 a2 e0 e1 h =
  ((C9_is d e0 e1 h).bind fun q1 =>
  (if q1.1 = 0 then
    (some (some (zv_i (-1 : Int)), q1.2))
  else
    ((C9_sees d a0 a2 q1.2).bind fun g2 =>
    ((zv_gR g2 a0 9 8).bind fun v3 =>
    ((zv_aB g2 v3 a1).bind fun v4 =>
    (if v4 = 0 then
      (some (some (zv_i (0 : Int)), g2))
    else
      (some (some (zv_i (1 : Int)), g2)))))))) := (zv_lim_eq _ _ _ _ _ _).trans rfl
set_option maxRecDepth 100000 in
theorem qE9_blame (d : Nat) (a0 : Nat) (a1 : Int) (a2 : Int) (h : zv_H) : E9_blame d a0 a1 a2 h =
  (if a1 < 0 then
    L9_blame_18 d a0 a1 a2 a0 h
  else
    ((C9_isIn d a2 (0 : Int) (2 : Int) h).bind fun q1 =>
    (if q1.1 = 0 then
      L9_blame_18 d a0 a1 a2 a0 q1.2
    else
      L9_blame_19 d a0 a1 a2 a0 (0 : Int) q1.2))) := (zv_lim_eq _ _ _ _ _ _).trans rfl
set_option maxRecDepth 100000 in
theorem qL9_blame_18 (d : Nat) (a0 : Nat) (a1 : Int) (a2 : Int) (e0 : Nat) (h : zv_H) : L9_blame_18 d a0 a1 a2 e0 h =
  L9_blame_19 d a0 a1 a2 e0 (1 : Int) h := (zv_lim_eq _ _ _ _ _ _).trans rfl
set_option maxRecDepth 100000 in
theorem qL9_blame_19 (d : Nat) (a0 : Nat) (a1 : Int) (a2 : Int) (e0 : Nat) (e1 : Int) (h : zv_H) : L9_blame_19 d a0 a1 a2 e0 e1 h =
  ((C9_is d e0 e1 h).bind fun q1 =>
  (if q1.1 = 0 then
    (some (some (zv_i (-1 : Int)), q1.2))
  else
    ((C9_here d a0 q1.2).bind fun q2 =>
    ((C9_sees d a0 q2.1 q2.2).bind fun g3 =>
    ((zv_gI g3 a0 9 12).bind fun v4 =>
    (if a1 < v4 then
      ((C9_rowPlace d a0 a1 g3).bind fun q5 =>
      (if a2 = 0 then
        ((zv_gR q5.2 a0 9 6).bind fun v6 =>
        ((zv_aI q5.2 v6 q5.1).bind fun v7 =>
        (some (some (zv_i v7), q5.2))))
      else
        (if a2 = (1 : Int) then
          ((zv_gR q5.2 a0 9 7).bind fun v8 =>
          ((zv_aI q5.2 v8 q5.1).bind fun v9 =>
          (some (some (zv_i v9), q5.2))))
        else
          (some (some (zv_i q5.1), q5.2)))))
    else
      ((C9_refuse d a0 (5 : Int) g3).bind fun q10 =>
      (some (some (zv_i q10.1), q10.2))))))))) := (zv_lim_eq _ _ _ _ _ _).trans rfl
set_option maxRecDepth 100000 in
theorem qE9_cutsOf (d : Nat) (a0 : Nat) (a1 : Int) (a2 : Int) (a3 : Int) (h : zv_H) : E9_cutsOf d a0 a1 a2 a3 h =
  (if a3 = 0 then
    L9_cutsOf_14 d a0 a1 a2 a3 (0 : Int) (1 : Int) h
  else
    L9_cutsOf_14 d a0 a1 a2 a3 (-1 : Int) (1 : Int) h) := (zv_lim_eq _ _ _ _ _ _).trans rfl
set_option maxRecDepth 100000 in
theorem qL9_cutsOf_14 (d : Nat) (a0 : Nat) (a1 : Int) (a2 : Int) (a3 : Int) (a4 : Int) (a5 : Int) (h : zv_H) : L9_cutsOf_14 d a0 a1 a2 a3 a4 a5 h =
  ((zv_gI h a0 9 10).bind fun v1 =>
  (if a5 < v1 then
    ((zv_gR h a0 9 5).bind fun v2 =>
    ((zv_aI h v2 a5).bind fun v3 =>
    ((C9_of d a0 v3 (2 : Int) h).bind fun q4 =>
    (if q4.1 = (1 : Int) then
      L9_cutsOf_49 d a0 a1 a2 a3 a4 a5 v3 (0 : Int) q4.2
    else
      L9_cutsOf_14 d a0 a1 a2 a3 a4 (zv_w (a5 + 1)) q4.2))))
  else
    (some (some (zv_i a4), h)))) := (zv_lim_eq _ _ _ _ _ _).trans rfl
set_option maxRecDepth 100000 in
theorem qL9_cutsOf_49 (d : Nat) (a0 : Nat) (a1 : Int) (a2 : Int) (a3 : Int) (a4 : Int) (a5 : Int) (a6 : Int) (a7 : Int) (h : zv_H) : L9_cutsOf_49 d a0 a1 a2 a3 a4 a5 a6 a7 h =
  ((C9_of d a0 a6 (5 : Int) h).bind fun q1 =>
  (if a7 < q1.1 then
    ((C9_of d a0 a6 (zv_w ((52 : Int) + (zv_w ((2 : Int) * a7)))) q1.2).bind fun q2 =>
    (if q2.1 = a1 then
      ((C9_of d a0 a6 (zv_w ((zv_w ((52 : Int) + (zv_w ((2 : Int) * a7)))) + (1 : Int))) q2.2).bind fun q3 =>
      (if q3.1 = a2 then
        (if a3 = 0 then
          ((zv_gR q3.2 a0 9 8).bind fun v4 =>
          ((zv_aB q3.2 v4 a6).bind fun v5 =>
          (if v5 = 0 then
            L9_cutsOf_49 d a0 a1 a2 a3 a4 a5 a6 (zv_w (a7 + 1)) q3.2
          else
            L9_cutsOf_49 d a0 a1 a2 a3 (zv_w (a4 + (1 : Int))) a5 a6 (zv_w (a7 + 1)) q3.2)))
        else
          L9_cutsOf_49 d a0 a1 a2 a3 a6 a5 a6 (zv_w (a7 + 1)) q3.2)
      else
        L9_cutsOf_49 d a0 a1 a2 a3 a4 a5 a6 (zv_w (a7 + 1)) q3.2))
    else
      L9_cutsOf_49 d a0 a1 a2 a3 a4 a5 a6 (zv_w (a7 + 1)) q2.2))
  else
    L9_cutsOf_14 d a0 a1 a2 a3 a4 (zv_w (a5 + 1)) q1.2)) := (zv_lim_eq _ _ _ _ _ _).trans rfl
set_option maxRecDepth 100000 in
theorem qE9_row (d : Nat) (a0 : Nat) (a1 : Int) (a2 : Int) (h : zv_H) : E9_row d a0 a1 a2 h =
  (if a1 < 0 then
    L9_row_18 d a0 a1 a2 a0 h
  else
    ((C9_isIn d a2 (0 : Int) (4 : Int) h).bind fun q1 =>
    (if q1.1 = 0 then
      L9_row_18 d a0 a1 a2 a0 q1.2
    else
      L9_row_19 d a0 a1 a2 a0 (0 : Int) q1.2))) := (zv_lim_eq _ _ _ _ _ _).trans rfl
set_option maxRecDepth 100000 in
theorem qL9_row_18 (d : Nat) (a0 : Nat) (a1 : Int) (a2 : Int) (e0 : Nat) (h : zv_H) : L9_row_18 d a0 a1 a2 e0 h =
  L9_row_19 d a0 a1 a2 e0 (1 : Int) h := (zv_lim_eq _ _ _ _ _ _).trans rfl
set_option maxRecDepth 100000 in
theorem qL9_row_19 (d : Nat) (a0 : Nat) (a1 : Int) (a2 : Int) (e0 : Nat) (e1 : Int) (h : zv_H) : L9_row_19 d a0 a1 a2 e0 e1 h =
  ((C9_is d e0 e1 h).bind fun q1 =>
  (if q1.1 = 0 then
    (some (some (zv_i (-1 : Int)), q1.2))
  else
    ((C9_here d a0 q1.2).bind fun q2 =>
    ((C9_sees d a0 q2.1 q2.2).bind fun g3 =>
    ((zv_gI g3 a0 9 11).bind fun v4 =>
    (if a1 < v4 then
      (if a2 = 0 then
        ((C9_letterIn d a0 a1 g3).bind fun q5 =>
        (some (some (zv_i q5.1), q5.2)))
      else
        (if a2 = (1 : Int) then
          ((zv_gR g3 a0 9 6).bind fun v6 =>
          ((zv_aI g3 v6 a1).bind fun v7 =>
          (some (some (zv_i v7), g3))))
        else
          (if a2 = (2 : Int) then
            ((zv_gR g3 a0 9 9).bind fun v8 =>
            ((zv_aB g3 v8 a1).bind fun v9 =>
            (if v9 = 0 then
              (some (some (zv_i (0 : Int)), g3))
            else
              (some (some (zv_i (1 : Int)), g3)))))
          else
            ((zv_gR g3 a0 9 6).bind fun v10 =>
            ((zv_aI g3 v10 a1).bind fun v11 =>
            ((zv_gR g3 a0 9 7).bind fun v12 =>
            ((zv_aI g3 v12 a1).bind fun v13 =>
            (if a2 = (4 : Int) then
              L9_row_120 d a0 v11 v13 (1 : Int) g3
            else
              L9_row_120 d a0 v11 v13 (0 : Int) g3))))))))
    else
      ((C9_refuse d a0 (5 : Int) g3).bind fun q14 =>
      (some (some (zv_i q14.1), q14.2))))))))) := (zv_lim_eq _ _ _ _ _ _).trans rfl
set_option maxRecDepth 100000 in
theorem qL9_row_120 (d : Nat) (e0 : Nat) (e1 : Int) (e2 : Int) (e3 : Int) (h : zv_H) : L9_row_120 d e0 e1 e2 e3 h =
  ((C9_cutsOf d e0 e1 e2 e3 h).bind fun q1 =>
  (some (some (zv_i q1.1), q1.2))) := (zv_lim_eq _ _ _ _ _ _).trans rfl
set_option maxRecDepth 100000 in
theorem qE9_visit (d : Nat) (a0 : Nat) (a1 : Int) (a2 : Int) (h : zv_H) : E9_visit d a0 a1 a2 h =
  ((C9_isIn d a1 (0 : Int) (39 : Int) h).bind fun q1 =>
  (if q1.1 = 0 then
    L9_visit_20 d a0 a1 a2 a0 q1.2
  else
    ((C9_isIn d a2 (0 : Int) (1 : Int) q1.2).bind fun q2 =>
    (if q2.1 = 0 then
      L9_visit_20 d a0 a1 a2 a0 q2.2
    else
      ((zv_gR q2.2 a0 9 0).bind fun v3 =>
      ((zv_aI q2.2 v3 (5 : Int)).bind fun v4 =>
      (if a1 < v4 then
        L9_visit_39 d a0 a1 a2 a0 (0 : Int) q2.2
      else
        L9_visit_39 d a0 a1 a2 a0 (5 : Int) q2.2))))))) := (zv_lim_eq _ _ _ _ _ _).trans rfl
set_option maxRecDepth 100000 in
theorem qL9_visit_20 (d : Nat) (a0 : Nat) (a1 : Int) (a2 : Int) (e0 : Nat) (h : zv_H) : L9_visit_20 d a0 a1 a2 e0 h =
  L9_visit_39 d a0 a1 a2 e0 (1 : Int) h := (zv_lim_eq _ _ _ _ _ _).trans rfl
set_option maxRecDepth 100000 in
theorem qL9_visit_39 (d : Nat) (a0 : Nat) (a1 : Int) (a2 : Int) (e0 : Nat) (e1 : Int) (h : zv_H) : L9_visit_39 d a0 a1 a2 e0 e1 h =
  ((C9_is d e0 e1 h).bind fun q1 =>
  (if q1.1 = 0 then
    (some (some (zv_i (-1 : Int)), q1.2))
  else
    ((zv_gR q1.2 a0 9 0).bind fun v2 =>
    ((zv_aI q1.2 v2 (zv_w ((zv_w ((4156 : Int) + (zv_w ((2 : Int) * a1)))) + a2))).bind fun v3 =>
    (some (some (zv_i v3), q1.2)))))) := (zv_lim_eq _ _ _ _ _ _).trans rfl
set_option maxRecDepth 100000 in
theorem qE9_named (d : Nat) (a0 : Nat) (h : zv_H) : E9_named d a0 h =
  ((zv_gI h a0 9 20).bind fun v1 =>
  ((C9_isIn d v1 (1 : Int) (6 : Int) h).bind fun q2 =>
  (if q2.1 = 0 then
    L9_named_19 d a0 a0 (1 : Int) q2.2
  else
    L9_named_19 d a0 a0 (0 : Int) q2.2))) := (zv_lim_eq _ _ _ _ _ _).trans rfl
set_option maxRecDepth 100000 in
theorem qL9_named_19 (d : Nat) (a0 : Nat) (e0 : Nat) (e1 : Int) (h : zv_H) : L9_named_19 d a0 e0 e1 h =
  ((C9_is d e0 e1 h).bind fun q1 =>
  (if q1.1 = 0 then
    (some (some (zv_i (-1 : Int)), q1.2))
  else
    ((zv_gR q1.2 a0 9 18).bind fun v2 =>
    ((zv_gI q1.2 a0 9 20).bind fun v3 =>
    ((C9_packed d v2 v3 q1.2).bind fun q4 =>
    ((C9_nameAt d a0 q4.1 q4.2).bind fun q5 =>
    (if q5.1 < 0 then
      ((C9_refuse d a0 (5 : Int) q5.2).bind fun q6 =>
      (some (some (zv_i q6.1), q6.2)))
    else
      ((zv_gR q5.2 a0 9 0).bind fun v7 =>
      ((zv_aI q5.2 v7 (zv_w ((zv_w ((408 : Int) + (zv_w ((2 : Int) * q5.1)))) + (1 : Int)))).bind fun v8 =>
      (some (some (zv_i v8), q5.2))))))))))) := (zv_lim_eq _ _ _ _ _ _).trans rfl
set_option maxRecDepth 100000 in
theorem qE9_leans (d : Nat) (a0 : Nat) (a1 : Int) (a2 : Int) (h : zv_H) : E9_leans d a0 a1 a2 h =
  ((C9_isState d a0 a1 h).bind fun q1 =>
  (if q1.1 = 0 then
    L9_leans_17 d a0 a1 a2 a0 q1.2
  else
    ((C9_isState d a0 a2 q1.2).bind fun q2 =>
    (if q2.1 = 0 then
      L9_leans_17 d a0 a1 a2 a0 q2.2
    else
      (if a1 = a2 then
        L9_leans_42 d a0 a1 a2 a0 q2.2
      else
        ((C9_isEdit d a0 a1 q2.2).bind fun q3 =>
        (if q3.1 = 0 then
          L9_leans_42 d a0 a1 a2 a0 q3.2
        else
          ((C9_isEdit d a0 a2 q3.2).bind fun q4 =>
          (if q4.1 = 0 then
            L9_leans_42 d a0 a1 a2 a0 q4.2
          else
            L9_leans_47 d a0 a1 a2 a0 (0 : Int) q4.2))))))))) := (zv_lim_eq _ _ _ _ _ _).trans rfl
set_option maxRecDepth 100000 in
theorem qL9_leans_17 (d : Nat) (a0 : Nat) (a1 : Int) (a2 : Int) (e0 : Nat) (h : zv_H) : L9_leans_17 d a0 a1 a2 e0 h =
  L9_leans_47 d a0 a1 a2 e0 (2 : Int) h := (zv_lim_eq _ _ _ _ _ _).trans rfl
set_option maxRecDepth 100000 in
theorem qL9_leans_42 (d : Nat) (a0 : Nat) (a1 : Int) (a2 : Int) (e0 : Nat) (h : zv_H) : L9_leans_42 d a0 a1 a2 e0 h =
  L9_leans_47 d a0 a1 a2 e0 (5 : Int) h := (zv_lim_eq _ _ _ _ _ _).trans rfl
set_option maxRecDepth 100000 in
theorem qL9_leans_47 (d : Nat) (a0 : Nat) (a1 : Int) (a2 : Int) (e0 : Nat) (e1 : Int) (h : zv_H) : L9_leans_47 d a0 a1 a2 e0 e1 h =
  ((C9_is d e0 e1 h).bind fun q1 =>
  (if q1.1 = 0 then
    (some (some (zv_i (-1 : Int)), q1.2))
  else
    ((C9_isOfLine d a0 a1 a2 q1.2).bind fun q2 =>
    (if q2.1 = 0 then
      ((C9_isOfLine d a0 a2 a1 q2.2).bind fun q3 =>
      (if q3.1 = 0 then
        ((C9_refuse d a0 (5 : Int) q3.2).bind fun q4 =>
        (some (some (zv_i q4.1), q4.2)))
      else
        ((C9_leansOn d a0 a1 a2 q3.2).bind fun q5 =>
        (if q5.1 = 0 then
          (some (some (zv_i (0 : Int)), q5.2))
        else
          (some (some (zv_i (1 : Int)), q5.2))))))
    else
      ((C9_leansOn d a0 a2 a1 q2.2).bind fun q6 =>
      (if q6.1 = 0 then
        (some (some (zv_i (0 : Int)), q6.2))
      else
        (some (some (zv_i (1 : Int)), q6.2)))))))) := (zv_lim_eq _ _ _ _ _ _).trans rfl
set_option maxRecDepth 100000 in
theorem qE9_put (d : Nat) (a0 : Nat) (a1 : Int) (h : zv_H) : E9_put d a0 a1 h =
  ((C9_is d a0 (0 : Int) h).bind fun q1 =>
  ((C9_hand d a0 q1.2).bind fun g2 =>
  ((C9_putNow d a0 a1 g2).bind fun q3 =>
  (some (some (zv_i q3.1), q3.2))))) := (zv_lim_eq _ _ _ _ _ _).trans rfl
set_option maxRecDepth 100000 in
theorem qE9_cut (d : Nat) (a0 : Nat) (a1 : Int) (a2 : Int) (h : zv_H) : E9_cut d a0 a1 a2 h =
  ((C9_is d a0 (0 : Int) h).bind fun q1 =>
  ((C9_cutNow d a0 a1 a2 q1.2).bind fun q2 =>
  (some (some (zv_i q2.1), q2.2)))) := (zv_lim_eq _ _ _ _ _ _).trans rfl
set_option maxRecDepth 100000 in
theorem qE9_wait (d : Nat) (a0 : Nat) (a1 : Int) (h : zv_H) : E9_wait d a0 a1 h =
  ((C9_isIn d a1 (0 : Int) (999 : Int) h).bind fun q1 =>
  (if q1.1 = 0 then
    L9_wait_17 d a0 a1 a0 (1 : Int) q1.2
  else
    L9_wait_17 d a0 a1 a0 (0 : Int) q1.2)) := (zv_lim_eq _ _ _ _ _ _).trans rfl
set_option maxRecDepth 100000 in
theorem qL9_wait_17 (d : Nat) (a0 : Nat) (a1 : Int) (e0 : Nat) (e1 : Int) (h : zv_H) : L9_wait_17 d a0 a1 e0 e1 h =
  ((C9_is d e0 e1 h).bind fun q1 =>
  (if q1.1 = 0 then
    (some (some (zv_i (-1 : Int)), q1.2))
  else
    ((zv_gR q1.2 a0 9 0).bind fun v2 =>
    ((zv_aI q1.2 v2 (1 : Int)).bind fun v3 =>
    ((zv_wI q1.2 v2 (1 : Int) (zv_w (v3 + a1))).bind fun g4 =>
    ((zv_gR g4 a0 9 0).bind fun v5 =>
    ((zv_aI g4 v5 (1 : Int)).bind fun v6 =>
    (some (some (zv_i v6), g4))))))))) := (zv_lim_eq _ _ _ _ _ _).trans rfl
set_option maxRecDepth 100000 in
theorem qE9_undo (d : Nat) (a0 : Nat) (h : zv_H) : E9_undo d a0 h =
  ((C9_is d a0 (0 : Int) h).bind fun q1 =>
  ((C9_undoNow d a0 q1.2).bind fun q2 =>
  (some (some (zv_i q2.1), q2.2)))) := (zv_lim_eq _ _ _ _ _ _).trans rfl
set_option maxRecDepth 100000 in
theorem qE9_redo (d : Nat) (a0 : Nat) (h : zv_H) : E9_redo d a0 h =
  ((C9_is d a0 (0 : Int) h).bind fun q1 =>
  ((C9_redoNow d a0 q1.2).bind fun q2 =>
  (some (some (zv_i q2.1), q2.2)))) := (zv_lim_eq _ _ _ _ _ _).trans rfl
set_option maxRecDepth 100000 in
theorem qE9_go (d : Nat) (a0 : Nat) (a1 : Int) (h : zv_H) : E9_go d a0 a1 h =
  ((C9_is d a0 (0 : Int) h).bind fun q1 =>
  ((C9_goNow d a0 a1 q1.2).bind fun q2 =>
  (some (some (zv_i q2.1), q2.2)))) := (zv_lim_eq _ _ _ _ _ _).trans rfl
set_option maxRecDepth 100000 in
theorem qE9_name (d : Nat) (a0 : Nat) (h : zv_H) : E9_name d a0 h =
  ((C9_is d a0 (0 : Int) h).bind fun q1 =>
  ((C9_hand d a0 q1.2).bind fun g2 =>
  ((C9_nameNow d a0 g2).bind fun q3 =>
  (some (some (zv_i q3.1), q3.2))))) := (zv_lim_eq _ _ _ _ _ _).trans rfl
set_option maxRecDepth 100000 in
theorem qE9_unname (d : Nat) (a0 : Nat) (h : zv_H) : E9_unname d a0 h =
  ((zv_gI h a0 9 20).bind fun v1 =>
  ((C9_isIn d v1 (1 : Int) (6 : Int) h).bind fun q2 =>
  (if q2.1 = 0 then
    L9_unname_19 d a0 a0 (1 : Int) q2.2
  else
    L9_unname_19 d a0 a0 (0 : Int) q2.2))) := (zv_lim_eq _ _ _ _ _ _).trans rfl
set_option maxRecDepth 100000 in
theorem qL9_unname_19 (d : Nat) (a0 : Nat) (e0 : Nat) (e1 : Int) (h : zv_H) : L9_unname_19 d a0 e0 e1 h =
  ((C9_is d e0 e1 h).bind fun q1 =>
  (if q1.1 = 0 then
    (some (some (zv_i (-1 : Int)), q1.2))
  else
    ((zv_gR q1.2 a0 9 18).bind fun v2 =>
    ((zv_gI q1.2 a0 9 20).bind fun v3 =>
    ((C9_packed d v2 v3 q1.2).bind fun q4 =>
    ((C9_nameAt d a0 q4.1 q4.2).bind fun q5 =>
    (if q5.1 < 0 then
      ((C9_refuse d a0 (5 : Int) q5.2).bind fun q6 =>
      (some (some (zv_i q6.1), q6.2)))
    else
      ((zv_gR q5.2 a0 9 0).bind fun v7 =>
      ((zv_aI q5.2 v7 (3 : Int)).bind fun v8 =>
      ((zv_wI q5.2 v7 (3 : Int) (zv_w (v8 - (1 : Int)))).bind fun g9 =>
      L9_unname_67 d a0 (zv_w ((2 : Int) * q5.1)) g9)))))))))) := (zv_lim_eq _ _ _ _ _ _).trans rfl
set_option maxRecDepth 100000 in
theorem qL9_unname_67 (d : Nat) (a0 : Nat) (a2 : Int) (h : zv_H) : L9_unname_67 d a0 a2 h =
  ((zv_gR h a0 9 0).bind fun v1 =>
  ((zv_aI h v1 (3 : Int)).bind fun v2 =>
  (if a2 < (zv_w ((2 : Int) * v2)) then
    ((zv_gR h a0 9 0).bind fun v3 =>
    ((zv_gR h a0 9 0).bind fun v4 =>
    ((zv_aI h v4 (zv_w ((zv_w ((408 : Int) + a2)) + (2 : Int)))).bind fun v5 =>
    ((zv_wI h v3 (zv_w ((408 : Int) + a2)) v5).bind fun g6 =>
    L9_unname_67 d a0 (zv_w (a2 + 1)) g6))))
  else
    ((zv_gR h a0 9 0).bind fun v7 =>
    ((zv_aI h v7 (3 : Int)).bind fun v8 =>
    (some (some (zv_i v8), h))))))) := (zv_lim_eq _ _ _ _ _ _).trans rfl
set_option maxRecDepth 100000 in
theorem qE9_withdraw (d : Nat) (a0 : Nat) (a1 : Int) (h : zv_H) : E9_withdraw d a0 a1 h =
  ((C9_is d a0 (0 : Int) h).bind fun q1 =>
  ((C9_turnNow d a0 a1 (2 : Int) q1.2).bind fun q2 =>
  (some (some (zv_i q2.1), q2.2)))) := (zv_lim_eq _ _ _ _ _ _).trans rfl
set_option maxRecDepth 100000 in
theorem qE9_restore (d : Nat) (a0 : Nat) (a1 : Int) (h : zv_H) : E9_restore d a0 a1 h =
  ((C9_is d a0 (0 : Int) h).bind fun q1 =>
  ((C9_turnNow d a0 a1 (3 : Int) q1.2).bind fun q2 =>
  (some (some (zv_i q2.1), q2.2)))) := (zv_lim_eq _ _ _ _ _ _).trans rfl
set_option maxRecDepth 100000 in
theorem qE9_firstOut (d : Nat) (a0 : Nat) (h : zv_H) : E9_firstOut d a0 h =
  L9_firstOut_4 d a0 (-1 : Int) (1 : Int) h := (zv_lim_eq _ _ _ _ _ _).trans rfl
set_option maxRecDepth 100000 in
theorem qL9_firstOut_4 (d : Nat) (a0 : Nat) (a1 : Int) (a2 : Int) (h : zv_H) : L9_firstOut_4 d a0 a1 a2 h =
  (if a2 < (48 : Int) then
    ((C9_isState d a0 a2 h).bind fun q1 =>
    (if q1.1 = 0 then
      L9_firstOut_4 d a0 a1 (zv_w (a2 + 1)) q1.2
    else
      ((C9_here d a0 q1.2).bind fun q2 =>
      (if a2 = q2.1 then
        L9_firstOut_4 d a0 a1 (zv_w (a2 + 1)) q2.2
      else
        ((C9_childrenOf d a0 a2 q2.2).bind fun q3 =>
        (if q3.1 ≤ 0 then
          ((C9_namesOf d a0 a2 q3.2).bind fun q4 =>
          (if q4.1 ≤ 0 then
            (if a1 < 0 then
              L9_firstOut_4 d a0 a2 (zv_w (a2 + 1)) q4.2
            else
              ((C9_of d a0 a2 (7 : Int) q4.2).bind fun q5 =>
              ((C9_of d a0 a1 (7 : Int) q5.2).bind fun q6 =>
              (if q5.1 < q6.1 then
                L9_firstOut_4 d a0 a2 (zv_w (a2 + 1)) q6.2
              else
                L9_firstOut_4 d a0 a1 (zv_w (a2 + 1)) q6.2))))
          else
            L9_firstOut_4 d a0 a1 (zv_w (a2 + 1)) q4.2))
        else
          L9_firstOut_4 d a0 a1 (zv_w (a2 + 1)) q3.2))))))
  else
    (some (some (zv_i a1), h))) := (zv_lim_eq _ _ _ _ _ _).trans rfl
set_option maxRecDepth 100000 in
theorem qE9_carry (d : Nat) (a0 : Nat) (a1 : Int) (h : zv_H) : E9_carry d a0 a1 h =
  ((C9_is d a0 (0 : Int) h).bind fun q1 =>
  ((C9_carryNow d a0 a1 q1.2).bind fun q2 =>
  (some (some (zv_i q2.1), q2.2)))) := (zv_lim_eq _ _ _ _ _ _).trans rfl
set_option maxRecDepth 100000 in
theorem qE9_merge (d : Nat) (a0 : Nat) (a1 : Int) (h : zv_H) : E9_merge d a0 a1 h =
  ((C9_is d a0 (0 : Int) h).bind fun q1 =>
  ((C9_mergeNow d a0 a1 q1.2).bind fun q2 =>
  (some (some (zv_i q2.1), q2.2)))) := (zv_lim_eq _ _ _ _ _ _).trans rfl
set_option maxRecDepth 100000 in
theorem qE9_prune (d : Nat) (a0 : Nat) (a1 : Int) (h : zv_H) : E9_prune d a0 a1 h =
  ((C9_is d a0 (0 : Int) h).bind fun q1 =>
  ((C9_pruneNow d a0 a1 q1.2).bind fun q2 =>
  (some (some (zv_i q2.1), q2.2)))) := (zv_lim_eq _ _ _ _ _ _).trans rfl
set_option maxRecDepth 100000 in
theorem qE9_pruneNow (d : Nat) (a0 : Nat) (a1 : Int) (h : zv_H) : E9_pruneNow d a0 a1 h =
  ((C9_isIn d a1 (1 : Int) (48 : Int) h).bind fun q1 =>
  (if q1.1 = 0 then
    ((C9_refuse d a0 (1 : Int) q1.2).bind fun q2 =>
    (some (some (zv_i q2.1), q2.2)))
  else
    ((C9_firstOut d a0 q1.2).bind fun q3 =>
    L9_pruneNow_23 d a0 a1 (0 : Int) q3.1 q3.2))) := (zv_lim_eq _ _ _ _ _ _).trans rfl
set_option maxRecDepth 100000 in
theorem qL9_pruneNow_23 (d : Nat) (a0 : Nat) (a1 : Int) (a2 : Int) (a3 : Int) (h : zv_H) : L9_pruneNow_23 d a0 a1 a2 a3 h =
  (if a3 < 0 then
    (some (some (zv_i a2), h))
  else
    ((C9_states d a0 h).bind fun q1 =>
    (if q1.1 ≤ a1 then
      (some (some (zv_i a2), q1.2))
    else
      ((C9_sets d a0 a3 (0 : Int) (0 : Int) q1.2).bind fun g2 =>
      L9_pruneNow_45 d a0 a1 a2 a3 (0 : Int) g2)))) := (zv_lim_eq _ _ _ _ _ _).trans rfl
set_option maxRecDepth 100000 in
theorem qL9_pruneNow_45 (d : Nat) (a0 : Nat) (a1 : Int) (a2 : Int) (a3 : Int) (a4 : Int) (h : zv_H) : L9_pruneNow_45 d a0 a1 a2 a3 a4 h =
  ((zv_gR h a0 9 0).bind fun v1 =>
  ((zv_aI h v1 (5 : Int)).bind fun v2 =>
  (if a4 < v2 then
    ((zv_gR h a0 9 0).bind fun v3 =>
    ((zv_aI h v3 (zv_w ((4156 : Int) + (zv_w ((2 : Int) * a4))))).bind fun v4 =>
    (if v4 = a3 then
      ((zv_gR h a0 9 0).bind fun v5 =>
      ((zv_wI h v5 (zv_w ((4156 : Int) + (zv_w ((2 : Int) * a4)))) (-1 : Int)).bind fun g6 =>
      L9_pruneNow_45 d a0 a1 a2 a3 (zv_w (a4 + 1)) g6))
    else
      L9_pruneNow_45 d a0 a1 a2 a3 (zv_w (a4 + 1)) h)))
  else
    ((C9_firstOut d a0 h).bind fun q7 =>
    L9_pruneNow_23 d a0 a1 (zv_w (a2 + 1)) q7.1 q7.2)))) := (zv_lim_eq _ _ _ _ _ _).trans rfl
set_option maxRecDepth 100000 in
theorem qE9_common (d : Nat) (a0 : Nat) (a1 : Int) (a2 : Int) (h : zv_H) : E9_common d a0 a1 a2 h =
  ((C9_isState d a0 a1 h).bind fun q1 =>
  (if q1.1 = 0 then
    L9_common_21 d a0 a1 a2 a0 q1.2
  else
    ((C9_isState d a0 a2 q1.2).bind fun q2 =>
    (if q2.1 = 0 then
      L9_common_21 d a0 a1 a2 a0 q2.2
    else
      L9_common_22 d a0 a1 a2 a0 (0 : Int) q2.2)))) := (zv_lim_eq _ _ _ _ _ _).trans rfl
set_option maxRecDepth 100000 in
theorem qL9_common_21 (d : Nat) (a0 : Nat) (a1 : Int) (a2 : Int) (e0 : Nat) (h : zv_H) : L9_common_21 d a0 a1 a2 e0 h =
  L9_common_22 d a0 a1 a2 e0 (2 : Int) h := (zv_lim_eq _ _ _ _ _ _).trans rfl
set_option maxRecDepth 100000 in
theorem qL9_common_22 (d : Nat) (a0 : Nat) (a1 : Int) (a2 : Int) (e0 : Nat) (e1 : Int) (h : zv_H) : L9_common_22 d a0 a1 a2 e0 e1 h =
  ((C9_is d e0 e1 h).bind fun q1 =>
  (if q1.1 = 0 then
    (some (some (zv_i (-1 : Int)), q1.2))
  else
    ((C9_commonOf d a0 a1 a2 q1.2).bind fun q2 =>
    (some (some (zv_i q2.1), q2.2))))) := (zv_lim_eq _ _ _ _ _ _).trans rfl
set_option maxRecDepth 100000 in
theorem qE9_way (d : Nat) (a0 : Nat) (a1 : Int) (a2 : Int) (a3 : Int) (h : zv_H) : E9_way d a0 a1 a2 a3 h =
  (if a3 < 0 then
    L9_way_30 d a0 a1 a2 a3 a0 (1 : Int) h
  else
    ((C9_isState d a0 a1 h).bind fun q1 =>
    (if q1.1 = 0 then
      L9_way_25 d a0 a1 a2 a3 a0 q1.2
    else
      ((C9_isState d a0 a2 q1.2).bind fun q2 =>
      (if q2.1 = 0 then
        L9_way_25 d a0 a1 a2 a3 a0 q2.2
      else
        L9_way_30 d a0 a1 a2 a3 a0 (0 : Int) q2.2))))) := (zv_lim_eq _ _ _ _ _ _).trans rfl
set_option maxRecDepth 100000 in
theorem qL9_way_25 (d : Nat) (a0 : Nat) (a1 : Int) (a2 : Int) (a3 : Int) (e0 : Nat) (h : zv_H) : L9_way_25 d a0 a1 a2 a3 e0 h =
  L9_way_30 d a0 a1 a2 a3 e0 (2 : Int) h := (zv_lim_eq _ _ _ _ _ _).trans rfl
set_option maxRecDepth 100000 in
theorem qL9_way_30 (d : Nat) (a0 : Nat) (a1 : Int) (a2 : Int) (a3 : Int) (e0 : Nat) (e1 : Int) (h : zv_H) : L9_way_30 d a0 a1 a2 a3 e0 e1 h =
  ((C9_is d e0 e1 h).bind fun q1 =>
  (if q1.1 = 0 then
    (some (some (zv_i (-1 : Int)), q1.2))
  else
    ((C9_depthOf d a0 a1 q1.2).bind fun q2 =>
    ((C9_commonOf d a0 a1 a2 q2.2).bind fun q3 =>
    ((C9_depthOf d a0 q3.1 q3.2).bind fun q4 =>
    ((C9_wayMany d a0 a1 a2 q4.2).bind fun q5 =>
    (if a3 ≤ q5.1 then
      (if a3 ≤ (zv_w (q2.1 - q4.1)) then
        L9_way_87 d a0 a3 (zv_w (q2.1 - q4.1)) q5.1 a1 q5.2
      else
        L9_way_87 d a0 a3 (zv_w (q2.1 - q4.1)) q5.1 a2 q5.2)
    else
      ((C9_refuse d a0 (5 : Int) q5.2).bind fun q6 =>
      (some (some (zv_i q6.1), q6.2)))))))))) := (zv_lim_eq _ _ _ _ _ _).trans rfl
set_option maxRecDepth 100000 in
theorem qL9_way_87 (d : Nat) (a0 : Nat) (a3 : Int) (a4 : Int) (a5 : Int) (e0 : Int) (h : zv_H) : L9_way_87 d a0 a3 a4 a5 e0 h =
  (if a3 ≤ a4 then
    L9_way_105 d a0 e0 a3 h
  else
    L9_way_105 d a0 e0 (zv_w (a5 - a3)) h) := (zv_lim_eq _ _ _ _ _ _).trans rfl
set_option maxRecDepth 100000 in
theorem qL9_way_105 (d : Nat) (a0 : Nat) (a6 : Int) (a7 : Int) (h : zv_H) : L9_way_105 d a0 a6 a7 h =
  (if a7 ≤ 0 then
    (some (some (zv_i a6), h))
  else
    ((C9_of d a0 a6 (1 : Int) h).bind fun q1 =>
    L9_way_105 d a0 q1.1 (zv_w (a7 + (-1))) q1.2)) := (zv_lim_eq _ _ _ _ _ _).trans rfl
set_option maxRecDepth 100000 in
theorem qE9_keysOf (d : Nat) (a0 : Nat) (a1 : Int) (h : zv_H) : E9_keysOf d a0 a1 h =
  ((C9_sees d a0 a1 h).bind fun g1 =>
  L9_keysOf_9 d a0 (0 : Int) (0 : Int) g1) := (zv_lim_eq _ _ _ _ _ _).trans rfl
set_option maxRecDepth 100000 in
theorem qL9_keysOf_9 (d : Nat) (a0 : Nat) (a2 : Int) (a3 : Int) (h : zv_H) : L9_keysOf_9 d a0 a2 a3 h =
  ((zv_gI h a0 9 11).bind fun v1 =>
  (if a3 < v1 then
    ((zv_gR h a0 9 9).bind fun v2 =>
    ((zv_aB h v2 a3).bind fun v3 =>
    (if v3 = 0 then
      L9_keysOf_9 d a0 a2 (zv_w (a3 + 1)) h
    else
      ((zv_gR h a0 9 44).bind fun v4 =>
      ((zv_gR h a0 9 6).bind fun v5 =>
      ((zv_aI h v5 a3).bind fun v6 =>
      ((zv_gR h a0 9 7).bind fun v7 =>
      ((zv_aI h v7 a3).bind fun v8 =>
      ((zv_wI h v4 a2 (zv_w ((zv_w ((64 : Int) * v6)) + v8))).bind fun g9 =>
      L9_keysOf_9 d a0 (zv_w (a2 + 1)) (zv_w (a3 + 1)) g9)))))))))
  else
    (some (some (zv_i a2), h)))) := (zv_lim_eq _ _ _ _ _ _).trans rfl
set_option maxRecDepth 100000 in
theorem qE9_keptOf (d : Nat) (a0 : Nat) (a1 : Int) (a2 : Int) (h : zv_H) : E9_keptOf d a0 a1 a2 h =
  ((C9_keysOf d a0 a1 h).bind fun q1 =>
  ((C9_sees d a0 a2 q1.2).bind fun g2 =>
  L9_keptOf_17 d a0 q1.1 (0 : Int) (0 : Int) g2)) := (zv_lim_eq _ _ _ _ _ _).trans rfl
set_option maxRecDepth 100000 in
theorem qL9_keptOf_17 (d : Nat) (a0 : Nat) (a3 : Int) (a4 : Int) (a5 : Int) (h : zv_H) : L9_keptOf_17 d a0 a3 a4 a5 h =
  ((zv_gI h a0 9 11).bind fun v1 =>
  (if a5 < v1 then
    ((zv_gR h a0 9 9).bind fun v2 =>
    ((zv_aB h v2 a5).bind fun v3 =>
    (if v3 = 0 then
      L9_keptOf_17 d a0 a3 a4 (zv_w (a5 + 1)) h
    else
      L9_keptOf_42 d a0 a3 a4 a5 (0 : Int) h)))
  else
    (some (some (zv_i a4), h)))) := (zv_lim_eq _ _ _ _ _ _).trans rfl
set_option maxRecDepth 100000 in
theorem qL9_keptOf_42 (d : Nat) (a0 : Nat) (a3 : Int) (a4 : Int) (a5 : Int) (a6 : Int) (h : zv_H) : L9_keptOf_42 d a0 a3 a4 a5 a6 h =
  (if a6 < a3 then
    ((zv_gR h a0 9 44).bind fun v1 =>
    ((zv_aI h v1 a6).bind fun v2 =>
    ((zv_gR h a0 9 6).bind fun v3 =>
    ((zv_aI h v3 a5).bind fun v4 =>
    ((zv_gR h a0 9 7).bind fun v5 =>
    ((zv_aI h v5 a5).bind fun v6 =>
    (if v2 = (zv_w ((zv_w ((64 : Int) * v4)) + v6)) then
      L9_keptOf_42 d a0 a3 (zv_w (a4 + (1 : Int))) a5 (zv_w (a6 + 1)) h
    else
      L9_keptOf_42 d a0 a3 (zv_w (a4 + (0 : Int))) a5 (zv_w (a6 + 1)) h)))))))
  else
    L9_keptOf_17 d a0 a3 a4 (zv_w (a5 + 1)) h) := (zv_lim_eq _ _ _ _ _ _).trans rfl
set_option maxRecDepth 100000 in
theorem qE9_differ (d : Nat) (a0 : Nat) (a1 : Int) (a2 : Int) (h : zv_H) : E9_differ d a0 a1 a2 h =
  ((zv_gR h a0 9 13).bind fun v1 =>
  ((C9_copies d a0 a1 v1 h).bind fun q2 =>
  ((zv_gR q2.2 a0 9 14).bind fun v3 =>
  ((C9_copies d a0 a2 v3 q2.2).bind fun q4 =>
  L9_differ_24 d a0 q2.1 q4.1 (0 : Int) q4.2)))) := (zv_lim_eq _ _ _ _ _ _).trans rfl
set_option maxRecDepth 100000 in
theorem qL9_differ_24 (d : Nat) (a0 : Nat) (a3 : Int) (a4 : Int) (a5 : Int) (h : zv_H) : L9_differ_24 d a0 a3 a4 a5 h =
  (if a5 < a3 then
    (if a5 < a4 then
      ((zv_gR h a0 9 13).bind fun v1 =>
      ((zv_aI h v1 a5).bind fun v2 =>
      ((zv_gR h a0 9 14).bind fun v3 =>
      ((zv_aI h v3 a5).bind fun v4 =>
      (if v2 = v4 then
        L9_differ_24 d a0 a3 a4 (zv_w (a5 + 1)) h
      else
        L9_differ_60 d a3 a4 a5 h)))))
    else
      L9_differ_60 d a3 a4 a5 h)
  else
    L9_differ_60 d a3 a4 a5 h) := (zv_lim_eq _ _ _ _ _ _).trans rfl
set_option maxRecDepth 100000 in
theorem qL9_differ_60 (d : Nat) (a3 : Int) (a4 : Int) (a5 : Int) (h : zv_H) : L9_differ_60 d a3 a4 a5 h =
  (if a5 = a3 then
    (if a5 = a4 then
      (some (some (zv_i (-1 : Int)), h))
    else
      (some (some (zv_i a5), h)))
  else
    (some (some (zv_i a5), h))) := (zv_lim_eq _ _ _ _ _ _).trans rfl
set_option maxRecDepth 100000 in
theorem qE9_between (d : Nat) (a0 : Nat) (a1 : Int) (a2 : Int) (a3 : Int) (h : zv_H) : E9_between d a0 a1 a2 a3 h =
  ((C9_isIn d a3 (0 : Int) (3 : Int) h).bind fun q1 =>
  (if q1.1 = 0 then
    L9_between_35 d a0 a1 a2 a3 a0 (1 : Int) q1.2
  else
    ((C9_isState d a0 a1 q1.2).bind fun q2 =>
    (if q2.1 = 0 then
      L9_between_30 d a0 a1 a2 a3 a0 q2.2
    else
      ((C9_isState d a0 a2 q2.2).bind fun q3 =>
      (if q3.1 = 0 then
        L9_between_30 d a0 a1 a2 a3 a0 q3.2
      else
        L9_between_35 d a0 a1 a2 a3 a0 (0 : Int) q3.2)))))) := (zv_lim_eq _ _ _ _ _ _).trans rfl
set_option maxRecDepth 100000 in
theorem qL9_between_30 (d : Nat) (a0 : Nat) (a1 : Int) (a2 : Int) (a3 : Int) (e0 : Nat) (h : zv_H) : L9_between_30 d a0 a1 a2 a3 e0 h =
  L9_between_35 d a0 a1 a2 a3 e0 (2 : Int) h := (zv_lim_eq _ _ _ _ _ _).trans rfl
set_option maxRecDepth 100000 in
theorem qL9_between_35 (d : Nat) (a0 : Nat) (a1 : Int) (a2 : Int) (a3 : Int) (e0 : Nat) (e1 : Int) (h : zv_H) : L9_between_35 d a0 a1 a2 a3 e0 e1 h =
  ((C9_is d e0 e1 h).bind fun q1 =>
  (if q1.1 = 0 then
    (some (some (zv_i (-1 : Int)), q1.2))
  else
    (if a3 = (3 : Int) then
      ((C9_differ d a0 a1 a2 q1.2).bind fun q2 =>
      (some (some (zv_i q2.1), q2.2)))
    else
      ((C9_keptOf d a0 a1 a2 q1.2).bind fun q3 =>
      (if a3 = 0 then
        (some (some (zv_i q3.1), q3.2))
      else
        (if a3 = (1 : Int) then
          ((C9_lettersOf d a0 a1 q3.2).bind fun q4 =>
          (some (some (zv_i (zv_w (q4.1 - q3.1))), q4.2)))
        else
          ((C9_lettersOf d a0 a2 q3.2).bind fun q5 =>
          (some (some (zv_i (zv_w (q5.1 - q3.1))), q5.2))))))))) := (zv_lim_eq _ _ _ _ _ _).trans rfl
set_option maxRecDepth 100000 in
theorem qE9_least (d : Nat) (a0 : Nat) (a1 : Int) (a2 : Int) (h : zv_H) : E9_least d a0 a1 a2 h =
  ((C9_isState d a0 a1 h).bind fun q1 =>
  (if q1.1 = 0 then
    L9_least_21 d a0 a1 a2 a0 q1.2
  else
    ((C9_isState d a0 a2 q1.2).bind fun q2 =>
    (if q2.1 = 0 then
      L9_least_21 d a0 a1 a2 a0 q2.2
    else
      L9_least_22 d a0 a1 a2 a0 (0 : Int) q2.2)))) := (zv_lim_eq _ _ _ _ _ _).trans rfl
set_option maxRecDepth 100000 in
theorem qL9_least_21 (d : Nat) (a0 : Nat) (a1 : Int) (a2 : Int) (e0 : Nat) (h : zv_H) : L9_least_21 d a0 a1 a2 e0 h =
  L9_least_22 d a0 a1 a2 e0 (2 : Int) h := (zv_lim_eq _ _ _ _ _ _).trans rfl
set_option maxRecDepth 100000 in
theorem qL9_least_22 (d : Nat) (a0 : Nat) (a1 : Int) (a2 : Int) (e0 : Nat) (e1 : Int) (h : zv_H) : L9_least_22 d a0 a1 a2 e0 e1 h =
  ((C9_is d e0 e1 h).bind fun q1 =>
  (if q1.1 = 0 then
    (some (some (zv_i (-1 : Int)), q1.2))
  else
    ((zv_gR q1.2 a0 9 13).bind fun v2 =>
    ((C9_copies d a0 a1 v2 q1.2).bind fun q3 =>
    ((zv_gR q3.2 a0 9 14).bind fun v4 =>
    ((C9_copies d a0 a2 v4 q3.2).bind fun q5 =>
    L9_least_58 d a0 q3.1 q5.1 (121 : Int) (0 : Int) q5.2)))))) := (zv_lim_eq _ _ _ _ _ _).trans rfl
set_option maxRecDepth 100000 in
theorem qL9_least_58 (d : Nat) (a0 : Nat) (a3 : Int) (a4 : Int) (a5 : Int) (a6 : Int) (h : zv_H) : L9_least_58 d a0 a3 a4 a5 a6 h =
  (if a6 ≤ a3 then
    L9_least_67 d a0 a3 a4 a5 a6 (0 : Int) h
  else
    ((zv_gR h a0 9 45).bind fun v1 =>
    ((zv_aI h v1 (zv_w ((zv_w (a5 * a3)) + a4))).bind fun v2 =>
    (some (some (zv_i (zv_w ((zv_w (a3 + a4)) - (zv_w ((2 : Int) * v2))))), h))))) := (zv_lim_eq _ _ _ _ _ _).trans rfl
set_option maxRecDepth 100000 in
theorem qL9_least_67 (d : Nat) (a0 : Nat) (a3 : Int) (a4 : Int) (a5 : Int) (a6 : Int) (a7 : Int) (h : zv_H) : L9_least_67 d a0 a3 a4 a5 a6 a7 h =
  (if a7 ≤ a4 then
    (if a6 ≤ 0 then
      ((zv_gR h a0 9 45).bind fun v1 =>
      ((zv_wI h v1 (zv_w ((zv_w (a5 * a6)) + a7)) (0 : Int)).bind fun g2 =>
      L9_least_67 d a0 a3 a4 a5 a6 (zv_w (a7 + 1)) g2))
    else
      (if a7 ≤ 0 then
        ((zv_gR h a0 9 45).bind fun v3 =>
        ((zv_wI h v3 (zv_w ((zv_w (a5 * a6)) + a7)) (0 : Int)).bind fun g4 =>
        L9_least_67 d a0 a3 a4 a5 a6 (zv_w (a7 + 1)) g4))
      else
        ((zv_gR h a0 9 45).bind fun v5 =>
        ((zv_aI h v5 (zv_w ((zv_w (a5 * (zv_w (a6 - (1 : Int))))) + a7))).bind fun v6 =>
        ((zv_gR h a0 9 45).bind fun v7 =>
        ((zv_aI h v7 (zv_w ((zv_w ((zv_w (a5 * a6)) + a7)) - (1 : Int)))).bind fun v8 =>
        ((zv_gR h a0 9 13).bind fun v9 =>
        ((zv_aI h v9 (zv_w (a6 - (1 : Int)))).bind fun v10 =>
        ((zv_gR h a0 9 14).bind fun v11 =>
        ((zv_aI h v11 (zv_w (a7 - (1 : Int)))).bind fun v12 =>
        (if v10 = v12 then
          ((zv_gR h a0 9 45).bind fun v13 =>
          ((zv_aI h v13 (zv_w ((zv_w ((zv_w (a5 * (zv_w (a6 - (1 : Int))))) + a7)) - (1 : Int)))).bind fun v14 =>
          ((zv_gR h a0 9 45).bind fun v15 =>
          ((zv_wI h v15 (zv_w ((zv_w (a5 * a6)) + a7)) (zv_w (v14 + (1 : Int)))).bind fun g16 =>
          L9_least_67 d a0 a3 a4 a5 a6 (zv_w (a7 + 1)) g16))))
        else
          (if v6 ≤ v8 then
            ((zv_gR h a0 9 45).bind fun v17 =>
            ((zv_wI h v17 (zv_w ((zv_w (a5 * a6)) + a7)) v8).bind fun g18 =>
            L9_least_67 d a0 a3 a4 a5 a6 (zv_w (a7 + 1)) g18))
          else
            ((zv_gR h a0 9 45).bind fun v19 =>
            ((zv_wI h v19 (zv_w ((zv_w (a5 * a6)) + a7)) v6).bind fun g20 =>
            L9_least_67 d a0 a3 a4 a5 a6 (zv_w (a7 + 1)) g20))))))))))))))
  else
    L9_least_58 d a0 a3 a4 a5 (zv_w (a6 + 1)) h) := (zv_lim_eq _ _ _ _ _ _).trans rfl
set_option maxRecDepth 100000 in
theorem qE9_merges (d : Nat) (a0 : Nat) (a1 : Int) (a2 : Int) (h : zv_H) : E9_merges d a0 a1 a2 h =
  ((C9_isIn d a2 (0 : Int) (2 : Int) h).bind fun q1 =>
  (if q1.1 = 0 then
    L9_merges_15 d a0 a1 a2 a0 (1 : Int) q1.2
  else
    L9_merges_15 d a0 a1 a2 a0 (0 : Int) q1.2)) := (zv_lim_eq _ _ _ _ _ _).trans rfl
set_option maxRecDepth 100000 in
theorem qL9_merges_15 (d : Nat) (a0 : Nat) (a1 : Int) (a2 : Int) (e0 : Nat) (e1 : Int) (h : zv_H) : L9_merges_15 d a0 a1 a2 e0 e1 h =
  ((C9_is d e0 e1 h).bind fun q1 =>
  (if q1.1 = 0 then
    (some (some (zv_i (-1 : Int)), q1.2))
  else
    L9_merges_25 d a0 a1 a2 (0 : Int) q1.2)) := (zv_lim_eq _ _ _ _ _ _).trans rfl
set_option maxRecDepth 100000 in
theorem qL9_merges_25 (d : Nat) (a0 : Nat) (a1 : Int) (a2 : Int) (a3 : Int) (h : zv_H) : L9_merges_25 d a0 a1 a2 a3 h =
  (if a3 < (4236 : Int) then
    ((zv_gR h a0 9 2).bind fun v1 =>
    ((zv_gR h a0 9 0).bind fun v2 =>
    ((zv_aI h v2 a3).bind fun v3 =>
    ((zv_wI h v1 a3 v3).bind fun g4 =>
    L9_merges_25 d a0 a1 a2 (zv_w (a3 + 1)) g4))))
  else
    ((C9_mergeNow d a0 a1 h).bind fun q5 =>
    (if q5.1 < 0 then
      (some (some (zv_i (-1 : Int)), q5.2))
    else
      (if a2 = 0 then
        L9_merges_94 d a0 q5.1 (0 : Int) q5.2
      else
        (if a2 = (1 : Int) then
          ((zv_gI q5.2 a0 9 24).bind fun v6 =>
          L9_merges_94 d a0 v6 (0 : Int) q5.2)
        else
          ((C9_here d a0 q5.2).bind fun q7 =>
          ((C9_lettersOf d a0 q7.1 q7.2).bind fun q8 =>
          L9_merges_94 d a0 q8.1 (0 : Int) q8.2))))))) := (zv_lim_eq _ _ _ _ _ _).trans rfl
set_option maxRecDepth 100000 in
theorem qL9_merges_94 (d : Nat) (a0 : Nat) (a3 : Int) (a4 : Int) (h : zv_H) : L9_merges_94 d a0 a3 a4 h =
  (if a4 < (4236 : Int) then
    ((zv_gR h a0 9 0).bind fun v1 =>
    ((zv_gR h a0 9 2).bind fun v2 =>
    ((zv_aI h v2 a4).bind fun v3 =>
    ((zv_wI h v1 a4 v3).bind fun g4 =>
    L9_merges_94 d a0 a3 (zv_w (a4 + 1)) g4))))
  else
    (some (some (zv_i a3), h))) := (zv_lim_eq _ _ _ _ _ _).trans rfl
set_option maxRecDepth 100000 in
theorem qE9_tells (d : Nat) (a0 : Nat) (a1 : Int) (h : zv_H) : E9_tells d a0 a1 h =
  ((zv_gR h a0 9 46).bind fun v1 =>
  ((zv_gI h a0 9 47).bind fun v2 =>
  ((zv_wI h v1 v2 a1).bind fun g3 =>
  ((zv_gI g3 a0 9 47).bind fun v4 =>
  ((zv_pI g3 a0 9 47 (zv_w (v4 + (1 : Int)))).bind fun g5 =>
  (some (none, g5))))))) := (zv_lim_eq _ _ _ _ _ _).trans rfl
set_option maxRecDepth 100000 in
theorem qE9_tellsNumber (d : Nat) (a0 : Nat) (a1 : Int) (h : zv_H) : E9_tellsNumber d a0 a1 h =
  (if a1 ≤ (9 : Int) then
    L9_tellsNumber_17 d a0 a1 h
  else
    ((C9_tells d a0 (zv_w ((48 : Int) + (zv_w ((a1).tdiv (10 : Int))))) h).bind fun g1 =>
    L9_tellsNumber_17 d a0 a1 g1)) := (zv_lim_eq _ _ _ _ _ _).trans rfl
set_option maxRecDepth 100000 in
theorem qL9_tellsNumber_17 (d : Nat) (a0 : Nat) (a1 : Int) (h : zv_H) : L9_tellsNumber_17 d a0 a1 h =
  ((C9_tells d a0 (zv_w ((48 : Int) + ((a1).tmod (10 : Int)))) h).bind fun g1 =>
  (some (none, g1))) := (zv_lim_eq _ _ _ _ _ _).trans rfl
set_option maxRecDepth 100000 in
theorem qE9_tellsNames (d : Nat) (a0 : Nat) (h : zv_H) : E9_tellsNames d a0 h =
  L9_tellsNames_2 d a0 (0 : Int) h := (zv_lim_eq _ _ _ _ _ _).trans rfl
set_option maxRecDepth 100000 in
theorem qL9_tellsNames_2 (d : Nat) (a0 : Nat) (a1 : Int) (h : zv_H) : L9_tellsNames_2 d a0 a1 h =
  ((zv_gR h a0 9 0).bind fun v1 =>
  ((zv_aI h v1 (3 : Int)).bind fun v2 =>
  (if a1 < v2 then
    (if a1 ≤ 0 then
      ((zv_gR h a0 9 0).bind fun v3 =>
      ((zv_aI h v3 (zv_w ((408 : Int) + (zv_w ((2 : Int) * a1))))).bind fun v4 =>
      L9_tellsNames_38 d a0 a1 v4 (25 : Int) h))
    else
      ((C9_tells d a0 (32 : Int) h).bind fun g5 =>
      ((zv_gR g5 a0 9 0).bind fun v6 =>
      ((zv_aI g5 v6 (zv_w ((408 : Int) + (zv_w ((2 : Int) * a1))))).bind fun v7 =>
      L9_tellsNames_38 d a0 a1 v7 (25 : Int) g5))))
  else
    (some (none, h))))) := (zv_lim_eq _ _ _ _ _ _).trans rfl
set_option maxRecDepth 100000 in
theorem qL9_tellsNames_38 (d : Nat) (a0 : Nat) (a1 : Int) (a2 : Int) (a3 : Int) (h : zv_H) : L9_tellsNames_38 d a0 a1 a2 a3 h =
  (if a3 < 0 then
    ((C9_tells d a0 (61 : Int) h).bind fun g1 =>
    ((zv_gR g1 a0 9 0).bind fun v2 =>
    ((zv_aI g1 v2 (zv_w ((zv_w ((408 : Int) + (zv_w ((2 : Int) * a1)))) + (1 : Int)))).bind fun v3 =>
    ((C9_tellsNumber d a0 v3 g1).bind fun g4 =>
    L9_tellsNames_2 d a0 (zv_w (a1 + 1)) g4))))
  else
    (if (zv_shr a2 a3) ≤ 0 then
      L9_tellsNames_38 d a0 a1 a2 (zv_w (a3 + (-5))) h
    else
      ((C9_tells d a0 (zv_w ((96 : Int) + (zv_and (zv_shr a2 a3) (31 : Int)))) h).bind fun g5 =>
      L9_tellsNames_38 d a0 a1 a2 (zv_w (a3 + (-5))) g5))) := (zv_lim_eq _ _ _ _ _ _).trans rfl
set_option maxRecDepth 100000 in
theorem qE9_tell (d : Nat) (a0 : Nat) (a1 : Int) (h : zv_H) : E9_tell d a0 a1 h =
  ((C9_isIn d a1 (0 : Int) (2 : Int) h).bind fun q1 =>
  (if q1.1 = 0 then
    L9_tell_15 d a0 a1 a0 (1 : Int) q1.2
  else
    L9_tell_15 d a0 a1 a0 (0 : Int) q1.2)) := (zv_lim_eq _ _ _ _ _ _).trans rfl
set_option maxRecDepth 100000 in
theorem qL9_tell_15 (d : Nat) (a0 : Nat) (a1 : Int) (e0 : Nat) (e1 : Int) (h : zv_H) : L9_tell_15 d a0 a1 e0 e1 h =
  ((C9_is d e0 e1 h).bind fun q1 =>
  (if q1.1 = 0 then
    (some (some (zv_i (-1 : Int)), q1.2))
  else
    ((zv_pI q1.2 a0 9 47 (0 : Int)).bind fun g2 =>
    ((C9_here d a0 g2).bind fun q3 =>
    ((C9_sees d a0 q3.1 q3.2).bind fun g4 =>
    L9_tell_38 d a0 a1 (0 : Int) g4))))) := (zv_lim_eq _ _ _ _ _ _).trans rfl
set_option maxRecDepth 100000 in
theorem qL9_tell_38 (d : Nat) (a0 : Nat) (a1 : Int) (a2 : Int) (h : zv_H) : L9_tell_38 d a0 a1 a2 h =
  ((zv_gI h a0 9 11).bind fun v1 =>
  (if a2 < v1 then
    (if a1 = 0 then
      ((zv_gR h a0 9 9).bind fun v2 =>
      ((zv_aB h v2 a2).bind fun v3 =>
      (if v3 = 0 then
        L9_tell_38 d a0 a1 (zv_w (a2 + 1)) h
      else
        ((C9_letterIn d a0 a2 h).bind fun q4 =>
        ((C9_tells d a0 (zv_w ((97 : Int) + q4.1)) q4.2).bind fun g5 =>
        L9_tell_38 d a0 a1 (zv_w (a2 + 1)) g5)))))
    else
      L9_tell_79 d a0 a1 (0 : Int) h)
  else
    L9_tell_79 d a0 a1 (0 : Int) h)) := (zv_lim_eq _ _ _ _ _ _).trans rfl
set_option maxRecDepth 100000 in
theorem qL9_tell_79 (d : Nat) (a0 : Nat) (a1 : Int) (a2 : Int) (h : zv_H) : L9_tell_79 d a0 a1 a2 h =
  ((zv_gI h a0 9 10).bind fun v1 =>
  (if a2 < v1 then
    (if a1 = (1 : Int) then
      (if a2 ≤ 0 then
        L9_tell_102 d a0 a1 a2 h
      else
        ((C9_tells d a0 (60 : Int) h).bind fun g2 =>
        L9_tell_102 d a0 a1 a2 g2))
    else
      L9_tell_118 d a0 a1 h)
  else
    L9_tell_118 d a0 a1 h)) := (zv_lim_eq _ _ _ _ _ _).trans rfl
set_option maxRecDepth 100000 in
theorem qL9_tell_102 (d : Nat) (a0 : Nat) (a1 : Int) (a2 : Int) (h : zv_H) : L9_tell_102 d a0 a1 a2 h =
  ((zv_gR h a0 9 5).bind fun v1 =>
  ((zv_aI h v1 a2).bind fun v2 =>
  ((C9_tellsNumber d a0 v2 h).bind fun g3 =>
  L9_tell_79 d a0 a1 (zv_w (a2 + 1)) g3))) := (zv_lim_eq _ _ _ _ _ _).trans rfl
set_option maxRecDepth 100000 in
theorem qL9_tell_118 (d : Nat) (a0 : Nat) (a1 : Int) (h : zv_H) : L9_tell_118 d a0 a1 h =
  (if a1 = (2 : Int) then
    ((C9_tellsNames d a0 h).bind fun g1 =>
    ((zv_gI g1 a0 9 47).bind fun v2 =>
    (some (some (zv_i v2), g1))))
  else
    ((zv_gI h a0 9 47).bind fun v3 =>
    (some (some (zv_i v3), h)))) := (zv_lim_eq _ _ _ _ _ _).trans rfl
set_option maxRecDepth 100000 in
theorem qE9_out (d : Nat) (a0 : Nat) (a1 : Int) (h : zv_H) : E9_out d a0 a1 h =
  (if a1 < 0 then
    L9_out_22 d a0 a1 a0 (1 : Int) h
  else
    ((zv_gI h a0 9 47).bind fun v1 =>
    (if a1 < v1 then
      L9_out_22 d a0 a1 a0 (0 : Int) h
    else
      L9_out_22 d a0 a1 a0 (5 : Int) h))) := (zv_lim_eq _ _ _ _ _ _).trans rfl
set_option maxRecDepth 100000 in
theorem qL9_out_22 (d : Nat) (a0 : Nat) (a1 : Int) (e0 : Nat) (e1 : Int) (h : zv_H) : L9_out_22 d a0 a1 e0 e1 h =
  ((C9_is d e0 e1 h).bind fun q1 =>
  (if q1.1 = 0 then
    (some (some (zv_i (-1 : Int)), q1.2))
  else
    ((zv_gR q1.2 a0 9 46).bind fun v2 =>
    ((zv_aI q1.2 v2 a1).bind fun v3 =>
    (some (some (zv_i v3), q1.2)))))) := (zv_lim_eq _ _ _ _ _ _).trans rfl
set_option maxRecDepth 100000 in
theorem qE9_leaning (d : Nat) (a0 : Nat) (a1 : Int) (a2 : Int) (h : zv_H) : E9_leaning d a0 a1 a2 h =
  ((C9_isIn d a2 (0 : Int) (3 : Int) h).bind fun q1 =>
  (if q1.1 = 0 then
    L9_leaning_52 d a0 a1 a2 a0 (1 : Int) q1.2
  else
    ((C9_isState d a0 a1 q1.2).bind fun q2 =>
    (if q2.1 = 0 then
      L9_leaning_52 d a0 a1 a2 a0 (2 : Int) q2.2
    else
      ((C9_here d a0 q2.2).bind fun q3 =>
      ((C9_isOfLine d a0 a1 q3.1 q3.2).bind fun q4 =>
      (if q4.1 = 0 then
        L9_leaning_46 d a0 a1 a2 a0 q4.2
      else
        ((C9_isEdit d a0 a1 q4.2).bind fun q5 =>
        (if q5.1 = 0 then
          L9_leaning_46 d a0 a1 a2 a0 q5.2
        else
          L9_leaning_52 d a0 a1 a2 a0 (0 : Int) q5.2))))))))) := (zv_lim_eq _ _ _ _ _ _).trans rfl
set_option maxRecDepth 100000 in
theorem qL9_leaning_46 (d : Nat) (a0 : Nat) (a1 : Int) (a2 : Int) (e0 : Nat) (h : zv_H) : L9_leaning_46 d a0 a1 a2 e0 h =
  L9_leaning_52 d a0 a1 a2 e0 (7 : Int) h := (zv_lim_eq _ _ _ _ _ _).trans rfl
set_option maxRecDepth 100000 in
theorem qL9_leaning_52 (d : Nat) (a0 : Nat) (a1 : Int) (a2 : Int) (e0 : Nat) (e1 : Int) (h : zv_H) : L9_leaning_52 d a0 a1 a2 e0 e1 h =
  ((C9_is d e0 e1 h).bind fun q1 =>
  (if q1.1 = 0 then
    (some (some (zv_i (-1 : Int)), q1.2))
  else
    ((C9_marks d a0 a1 (0 : Int) q1.2).bind fun g2 =>
    (if a2 = (3 : Int) then
      ((C9_triesNames d a0 (2 : Int) g2).bind fun q3 =>
      ((C9_lettersOf d a0 (48 : Int) q3.2).bind fun q4 =>
      (some (some (zv_i q4.1), q4.2))))
    else
      L9_leaning_89 d a0 a2 (0 : Int) (1 : Int) g2)))) := (zv_lim_eq _ _ _ _ _ _).trans rfl
set_option maxRecDepth 100000 in
theorem qL9_leaning_89 (d : Nat) (a0 : Nat) (a2 : Int) (a3 : Int) (a4 : Int) (h : zv_H) : L9_leaning_89 d a0 a2 a3 a4 h =
  ((zv_gI h a0 9 10).bind fun v1 =>
  (if a4 < v1 then
    (if a2 < (2 : Int) then
      ((zv_gR h a0 9 25).bind fun v2 =>
      ((zv_gR h a0 9 5).bind fun v3 =>
      ((zv_aI h v3 a4).bind fun v4 =>
      ((zv_aB h v2 v4).bind fun v5 =>
      (if v5 = 0 then
        L9_leaning_89 d a0 a2 (zv_w (a3 + (0 : Int))) (zv_w (a4 + 1)) h
      else
        (if a2 = 0 then
          L9_leaning_89 d a0 a2 (zv_w (a3 + (1 : Int))) (zv_w (a4 + 1)) h
        else
          ((zv_gR h a0 9 8).bind fun v6 =>
          ((zv_gR h a0 9 5).bind fun v7 =>
          ((zv_aI h v7 a4).bind fun v8 =>
          ((zv_aB h v6 v8).bind fun v9 =>
          (if v9 = 0 then
            L9_leaning_89 d a0 a2 (zv_w (a3 + (0 : Int))) (zv_w (a4 + 1)) h
          else
            L9_leaning_89 d a0 a2 (zv_w (a3 + (1 : Int))) (zv_w (a4 + 1)) h)))))))))))
    else
      L9_leaning_154 d a0 a2 a3 (0 : Int) h)
  else
    L9_leaning_154 d a0 a2 a3 (0 : Int) h)) := (zv_lim_eq _ _ _ _ _ _).trans rfl
set_option maxRecDepth 100000 in
theorem qL9_leaning_154 (d : Nat) (a0 : Nat) (a2 : Int) (a3 : Int) (a4 : Int) (h : zv_H) : L9_leaning_154 d a0 a2 a3 a4 h =
  ((zv_gI h a0 9 11).bind fun v1 =>
  (if a4 < v1 then
    (if a2 = (2 : Int) then
      ((zv_gR h a0 9 9).bind fun v2 =>
      ((zv_aB h v2 a4).bind fun v3 =>
      (if v3 = 0 then
        L9_leaning_154 d a0 a2 (zv_w (a3 + (0 : Int))) (zv_w (a4 + 1)) h
      else
        ((zv_gR h a0 9 25).bind fun v4 =>
        ((zv_gR h a0 9 6).bind fun v5 =>
        ((zv_aI h v5 a4).bind fun v6 =>
        ((zv_aB h v4 v6).bind fun v7 =>
        (if v7 = 0 then
          L9_leaning_154 d a0 a2 (zv_w (a3 + (0 : Int))) (zv_w (a4 + 1)) h
        else
          L9_leaning_154 d a0 a2 (zv_w (a3 + (1 : Int))) (zv_w (a4 + 1)) h))))))))
    else
      (some (some (zv_i a3), h)))
  else
    (some (some (zv_i a3), h)))) := (zv_lim_eq _ _ _ _ _ _).trans rfl
set_option maxRecDepth 100000 in
theorem qE9_placeIn (d : Nat) (a0 : Nat) (a1 : Int) (h : zv_H) : E9_placeIn d a0 a1 h =
  ((zv_gR h a0 9 13).bind fun v1 =>
  ((C9_copies d a0 a1 v1 h).bind fun q2 =>
  L9_placeIn_12 d a0 q2.1 (0 : Int) q2.2)) := (zv_lim_eq _ _ _ _ _ _).trans rfl
set_option maxRecDepth 100000 in
theorem qL9_placeIn_12 (d : Nat) (a0 : Nat) (a2 : Int) (a3 : Int) (h : zv_H) : L9_placeIn_12 d a0 a2 a3 h =
  ((zv_gI h a0 9 20).bind fun v1 =>
  (if (zv_w (a3 + v1)) ≤ a2 then
    L9_placeIn_28 d a0 a2 a3 (1 : Int) (0 : Int) h
  else
    (some (some (zv_i (-1 : Int)), h)))) := (zv_lim_eq _ _ _ _ _ _).trans rfl
set_option maxRecDepth 100000 in
theorem qL9_placeIn_28 (d : Nat) (a0 : Nat) (a2 : Int) (a3 : Int) (a4 : Int) (a5 : Int) (h : zv_H) : L9_placeIn_28 d a0 a2 a3 a4 a5 h =
  ((zv_gI h a0 9 20).bind fun v1 =>
  (if a5 < v1 then
    (if a4 = 0 then
      L9_placeIn_74 d a0 a2 a3 a4 h
    else
      ((zv_gR h a0 9 13).bind fun v2 =>
      ((zv_aI h v2 (zv_w (a3 + a5))).bind fun v3 =>
      ((zv_gR h a0 9 18).bind fun v4 =>
      ((zv_aI h v4 a5).bind fun v5 =>
      (if v3 = v5 then
        L9_placeIn_28 d a0 a2 a3 (1 : Int) (zv_w (a5 + 1)) h
      else
        L9_placeIn_28 d a0 a2 a3 (0 : Int) (zv_w (a5 + 1)) h))))))
  else
    L9_placeIn_74 d a0 a2 a3 a4 h)) := (zv_lim_eq _ _ _ _ _ _).trans rfl
set_option maxRecDepth 100000 in
theorem qL9_placeIn_74 (d : Nat) (a0 : Nat) (a2 : Int) (a3 : Int) (a4 : Int) (h : zv_H) : L9_placeIn_74 d a0 a2 a3 a4 h =
  (if a4 = 0 then
    L9_placeIn_12 d a0 a2 (zv_w (a3 + 1)) h
  else
    (some (some (zv_i a3), h))) := (zv_lim_eq _ _ _ _ _ _).trans rfl
set_option maxRecDepth 100000 in
theorem qE9_find (d : Nat) (a0 : Nat) (a1 : Int) (h : zv_H) : E9_find d a0 a1 h =
  ((C9_isIn d a1 (0 : Int) (2 : Int) h).bind fun q1 =>
  (if q1.1 = 0 then
    L9_find_21 d a0 a1 a0 q1.2
  else
    ((zv_gI q1.2 a0 9 20).bind fun v2 =>
    (if v2 ≤ 0 then
      L9_find_21 d a0 a1 a0 q1.2
    else
      L9_find_22 d a0 a1 a0 (0 : Int) q1.2)))) := (zv_lim_eq _ _ _ _ _ _).trans rfl
set_option maxRecDepth 100000 in
theorem qL9_find_21 (d : Nat) (a0 : Nat) (a1 : Int) (e0 : Nat) (h : zv_H) : L9_find_21 d a0 a1 e0 h =
  L9_find_22 d a0 a1 e0 (1 : Int) h := (zv_lim_eq _ _ _ _ _ _).trans rfl
set_option maxRecDepth 100000 in
theorem qL9_find_22 (d : Nat) (a0 : Nat) (a1 : Int) (e0 : Nat) (e1 : Int) (h : zv_H) : L9_find_22 d a0 a1 e0 e1 h =
  ((C9_is d e0 e1 h).bind fun q1 =>
  (if q1.1 = 0 then
    (some (some (zv_i (-1 : Int)), q1.2))
  else
    L9_find_38 d a0 a1 (0 : Int) (-1 : Int) (47 : Int) q1.2)) := (zv_lim_eq _ _ _ _ _ _).trans rfl
set_option maxRecDepth 100000 in
theorem qL9_find_38 (d : Nat) (a0 : Nat) (a1 : Int) (a2 : Int) (a3 : Int) (a4 : Int) (h : zv_H) : L9_find_38 d a0 a1 a2 a3 a4 h =
  (if a4 < 0 then
    L9_find_81 d a0 a1 a2 a3 h
  else
    (if a1 < (2 : Int) then
      ((C9_isState d a0 a4 h).bind fun q1 =>
      (if q1.1 = 0 then
        L9_find_38 d a0 a1 a2 a3 (zv_w (a4 + (-1))) q1.2
      else
        ((C9_placeIn d a0 a4 q1.2).bind fun q2 =>
        (if q2.1 < 0 then
          L9_find_38 d a0 a1 a2 a3 (zv_w (a4 + (-1))) q2.2
        else
          L9_find_38 d a0 a1 (zv_w (a2 + 1)) a4 (zv_w (a4 + (-1))) q2.2))))
    else
      L9_find_81 d a0 a1 a2 a3 h)) := (zv_lim_eq _ _ _ _ _ _).trans rfl
set_option maxRecDepth 100000 in
theorem qL9_find_81 (d : Nat) (a0 : Nat) (a1 : Int) (a2 : Int) (a3 : Int) (h : zv_H) : L9_find_81 d a0 a1 a2 a3 h =
  (if a1 = (2 : Int) then
    ((C9_here d a0 h).bind fun q1 =>
    ((C9_placeIn d a0 q1.1 q1.2).bind fun q2 =>
    L9_find_107 d a0 q2.1 q2.2))
  else
    (if a1 = (1 : Int) then
      L9_find_107 d a0 a2 h
    else
      L9_find_107 d a0 a3 h)) := (zv_lim_eq _ _ _ _ _ _).trans rfl
set_option maxRecDepth 100000 in
theorem qL9_find_107 (d : Nat) (a0 : Nat) (e0 : Int) (h : zv_H) : L9_find_107 d a0 e0 h =
  (if e0 < 0 then
    ((C9_refuse d a0 (5 : Int) h).bind fun q1 =>
    (some (some (zv_i q1.1), q1.2)))
  else
    (some (some (zv_i e0), h))) := (zv_lim_eq _ _ _ _ _ _).trans rfl
set_option maxRecDepth 100000 in
theorem qE9_first (d : Nat) (a0 : Nat) (h : zv_H) : E9_first d a0 h =
  ((C9_is d a0 (0 : Int) h).bind fun q1 =>
  ((C9_firstOut d a0 q1.2).bind fun q2 =>
  (if q2.1 < 0 then
    ((C9_refuse d a0 (5 : Int) q2.2).bind fun q3 =>
    (some (some (zv_i q3.1), q3.2)))
  else
    (some (some (zv_i q2.1), q2.2))))) := (zv_lim_eq _ _ _ _ _ _).trans rfl
set_option maxRecDepth 100000 in
theorem qE9_twin (d : Nat) (a0 : Nat) (a1 : Int) (h : zv_H) : E9_twin d a0 a1 h =
  ((C9_isState d a0 a1 h).bind fun q1 =>
  (if q1.1 = 0 then
    L9_twin_14 d a0 a1 a0 (2 : Int) q1.2
  else
    L9_twin_14 d a0 a1 a0 (0 : Int) q1.2)) := (zv_lim_eq _ _ _ _ _ _).trans rfl
set_option maxRecDepth 100000 in
theorem qL9_twin_14 (d : Nat) (a0 : Nat) (a1 : Int) (e0 : Nat) (e1 : Int) (h : zv_H) : L9_twin_14 d a0 a1 e0 e1 h =
  ((C9_is d e0 e1 h).bind fun q1 =>
  (if q1.1 = 0 then
    (some (some (zv_i (-1 : Int)), q1.2))
  else
    L9_twin_24 d a0 a1 (0 : Int) q1.2)) := (zv_lim_eq _ _ _ _ _ _).trans rfl
set_option maxRecDepth 100000 in
theorem qL9_twin_24 (d : Nat) (a0 : Nat) (a1 : Int) (a2 : Int) (h : zv_H) : L9_twin_24 d a0 a1 a2 h =
  (if a2 < (48 : Int) then
    ((C9_isState d a0 a2 h).bind fun q1 =>
    (if q1.1 = 0 then
      L9_twin_24 d a0 a1 (zv_w (a2 + 1)) q1.2
    else
      (if a2 = a1 then
        L9_twin_24 d a0 a1 (zv_w (a2 + 1)) q1.2
      else
        ((C9_differ d a0 a2 a1 q1.2).bind fun q2 =>
        (if q2.1 < 0 then
          (some (some (zv_i a2), q2.2))
        else
          L9_twin_24 d a0 a1 (zv_w (a2 + 1)) q2.2)))))
  else
    ((C9_refuse d a0 (5 : Int) h).bind fun q3 =>
    (some (some (zv_i q3.1), q3.2)))) := (zv_lim_eq _ _ _ _ _ _).trans rfl
set_option maxRecDepth 100000 in
theorem qE9_back (d : Nat) (a0 : Nat) (a1 : Int) (h : zv_H) : E9_back d a0 a1 h =
  ((C9_isIn d a1 (1 : Int) (48 : Int) h).bind fun q1 =>
  (if q1.1 = 0 then
    L9_back_16 d a0 a1 a0 (1 : Int) q1.2
  else
    L9_back_16 d a0 a1 a0 (0 : Int) q1.2)) := (zv_lim_eq _ _ _ _ _ _).trans rfl
set_option maxRecDepth 100000 in
theorem qL9_back_16 (d : Nat) (a0 : Nat) (a1 : Int) (e0 : Nat) (e1 : Int) (h : zv_H) : L9_back_16 d a0 a1 e0 e1 h =
  ((C9_is d e0 e1 h).bind fun q1 =>
  (if q1.1 = 0 then
    (some (some (zv_i (-1 : Int)), q1.2))
  else
    ((C9_here d a0 q1.2).bind fun q2 =>
    L9_back_31 d a0 a1 q2.1 (0 : Int) q2.2))) := (zv_lim_eq _ _ _ _ _ _).trans rfl
set_option maxRecDepth 100000 in
theorem qL9_back_31 (d : Nat) (a0 : Nat) (a1 : Int) (a2 : Int) (a3 : Int) (h : zv_H) : L9_back_31 d a0 a1 a2 a3 h =
  (if a3 < a1 then
    (if a2 = 0 then
      ((C9_refuse d a0 (5 : Int) h).bind fun q1 =>
      (some (some (zv_i q1.1), q1.2)))
    else
      ((C9_of d a0 a2 (6 : Int) h).bind fun q2 =>
      ((C9_of d a0 q2.1 (1 : Int) q2.2).bind fun q3 =>
      L9_back_31 d a0 a1 q3.1 (zv_w (a3 + 1)) q3.2)))
  else
    (some (some (zv_i a2), h))) := (zv_lim_eq _ _ _ _ _ _).trans rfl
end
