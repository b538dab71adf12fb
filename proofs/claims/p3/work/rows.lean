section
-- ===== PART A: goes FIRST, ahead of the names: the tables' words, and 'selects' of the private methods out of them =====
/-- a private method of a class that the tables say can be made, by its rows of tables_1 -/
def lw_okq (q : MethodName × Nat) : Prop := (q.1.cls ≠ "java/lang/invoke/MethodHandle" ∧ q.1.cls ≠ "java/lang/invoke/VarHandle") ∧ Cond.instantiable q.1.cls q.2 ∈ tables_1 ∧ Cond.privateMethod q.1 ∈ tables_1 ∧ Cond.instanceMethod q.1 ∈ tables_1
theorem lw_p0 : lw_okq (⟨"BranchedText", "feedInt", "(I)V"⟩, 8) := ⟨⟨by decide +kernel, by decide +kernel⟩, List.mem_of_getElem? (i := 20) (by decide +kernel), List.mem_of_getElem? (i := 426) (by decide +kernel), List.mem_of_getElem? (i := 427) (by decide +kernel)⟩
theorem lw_p1 : lw_okq (⟨"BranchedText", "refused", "(I)I"⟩, 8) := ⟨⟨by decide +kernel, by decide +kernel⟩, List.mem_of_getElem? (i := 20) (by decide +kernel), List.mem_of_getElem? (i := 460) (by decide +kernel), List.mem_of_getElem? (i := 461) (by decide +kernel)⟩
theorem lw_p2 : lw_okq (⟨"BranchedText$Reader", "byteAt", "(I)I"⟩, 13) := ⟨⟨by decide +kernel, by decide +kernel⟩, List.mem_of_getElem? (i := 44) (by decide +kernel), List.mem_of_getElem? (i := 476) (by decide +kernel), List.mem_of_getElem? (i := 477) (by decide +kernel)⟩
theorem lw_p3 : lw_okq (⟨"BranchedText$Reader", "is", "(Ljava/lang/String;)Z"⟩, 13) := ⟨⟨by decide +kernel, by decide +kernel⟩, List.mem_of_getElem? (i := 44) (by decide +kernel), List.mem_of_getElem? (i := 495) (by decide +kernel), List.mem_of_getElem? (i := 496) (by decide +kernel)⟩
theorem lw_p4 : lw_okq (⟨"BranchedText$Reader", "spelled", "(I)Z"⟩, 13) := ⟨⟨by decide +kernel, by decide +kernel⟩, List.mem_of_getElem? (i := 44) (by decide +kernel), List.mem_of_getElem? (i := 547) (by decide +kernel), List.mem_of_getElem? (i := 548) (by decide +kernel)⟩
theorem lw_p5 : lw_okq (⟨"BranchedText$Reader", "closed", "()Z"⟩, 13) := ⟨⟨by decide +kernel, by decide +kernel⟩, List.mem_of_getElem? (i := 44) (by decide +kernel), List.mem_of_getElem? (i := 553) (by decide +kernel), List.mem_of_getElem? (i := 554) (by decide +kernel)⟩
theorem lw_p6 : lw_okq (⟨"BranchedText$Reader", "isSign", "(I)Z"⟩, 13) := ⟨⟨by decide +kernel, by decide +kernel⟩, List.mem_of_getElem? (i := 44) (by decide +kernel), List.mem_of_getElem? (i := 557) (by decide +kernel), List.mem_of_getElem? (i := 558) (by decide +kernel)⟩
theorem lw_p7 : lw_okq (⟨"BranchedText$History", "setGlyph", "(II)V"⟩, 14) := ⟨⟨by decide +kernel, by decide +kernel⟩, List.mem_of_getElem? (i := 99) (by decide +kernel), List.mem_of_getElem? (i := 572) (by decide +kernel), List.mem_of_getElem? (i := 573) (by decide +kernel)⟩
theorem lw_p8 : lw_okq (⟨"BranchedText$Reader", "test", "(LBranchedText$JoinTest;I)Z"⟩, 13) := ⟨⟨by decide +kernel, by decide +kernel⟩, List.mem_of_getElem? (i := 44) (by decide +kernel), List.mem_of_getElem? (i := 582) (by decide +kernel), List.mem_of_getElem? (i := 583) (by decide +kernel)⟩
theorem lw_p9 : lw_okq (⟨"BranchedText$Reader", "side", "(LBranchedText$JoinTest;I)Z"⟩, 13) := ⟨⟨by decide +kernel, by decide +kernel⟩, List.mem_of_getElem? (i := 44) (by decide +kernel), List.mem_of_getElem? (i := 586) (by decide +kernel), List.mem_of_getElem? (i := 587) (by decide +kernel)⟩
theorem lw_p10 : lw_okq (⟨"BranchedText$Reader", "fact", "(LBranchedText$JoinTest;I)Z"⟩, 13) := ⟨⟨by decide +kernel, by decide +kernel⟩, List.mem_of_getElem? (i := 44) (by decide +kernel), List.mem_of_getElem? (i := 590) (by decide +kernel), List.mem_of_getElem? (i := 591) (by decide +kernel)⟩
theorem lw_p11 : lw_okq (⟨"BranchedText$Reader", "asked", "()I"⟩, 13) := ⟨⟨by decide +kernel, by decide +kernel⟩, List.mem_of_getElem? (i := 44) (by decide +kernel), List.mem_of_getElem? (i := 595) (by decide +kernel), List.mem_of_getElem? (i := 596) (by decide +kernel)⟩
theorem lw_p12 : lw_okq (⟨"BranchedText$Reader", "comparison", "(LBranchedText$JoinTest;I)Z"⟩, 13) := ⟨⟨by decide +kernel, by decide +kernel⟩, List.mem_of_getElem? (i := 44) (by decide +kernel), List.mem_of_getElem? (i := 605) (by decide +kernel), List.mem_of_getElem? (i := 606) (by decide +kernel)⟩
theorem lw_p13 : lw_okq (⟨"BranchedText$Reader", "verbHere", "()I"⟩, 13) := ⟨⟨by decide +kernel, by decide +kernel⟩, List.mem_of_getElem? (i := 44) (by decide +kernel), List.mem_of_getElem? (i := 621) (by decide +kernel), List.mem_of_getElem? (i := 622) (by decide +kernel)⟩
theorem lw_p14 : lw_okq (⟨"BranchedText", "done", "(LBranchedText$History;)I"⟩, 8) := ⟨⟨by decide +kernel, by decide +kernel⟩, List.mem_of_getElem? (i := 20) (by decide +kernel), List.mem_of_getElem? (i := 637) (by decide +kernel), List.mem_of_getElem? (i := 638) (by decide +kernel)⟩
theorem lw_p15 : lw_okq (⟨"BranchedText$History", "grow", "(III)LBranchedText$State;"⟩, 14) := ⟨⟨by decide +kernel, by decide +kernel⟩, List.mem_of_getElem? (i := 99) (by decide +kernel), List.mem_of_getElem? (i := 645) (by decide +kernel), List.mem_of_getElem? (i := 646) (by decide +kernel)⟩
def lw_privs_1 : List (MethodName × Nat) := [(⟨"BranchedText", "feedInt", "(I)V"⟩, 8), (⟨"BranchedText", "refused", "(I)I"⟩, 8), (⟨"BranchedText$Reader", "byteAt", "(I)I"⟩, 13), (⟨"BranchedText$Reader", "is", "(Ljava/lang/String;)Z"⟩, 13), (⟨"BranchedText$Reader", "spelled", "(I)Z"⟩, 13), (⟨"BranchedText$Reader", "closed", "()Z"⟩, 13), (⟨"BranchedText$Reader", "isSign", "(I)Z"⟩, 13), (⟨"BranchedText$History", "setGlyph", "(II)V"⟩, 14), (⟨"BranchedText$Reader", "test", "(LBranchedText$JoinTest;I)Z"⟩, 13), (⟨"BranchedText$Reader", "side", "(LBranchedText$JoinTest;I)Z"⟩, 13), (⟨"BranchedText$Reader", "fact", "(LBranchedText$JoinTest;I)Z"⟩, 13), (⟨"BranchedText$Reader", "asked", "()I"⟩, 13), (⟨"BranchedText$Reader", "comparison", "(LBranchedText$JoinTest;I)Z"⟩, 13), (⟨"BranchedText$Reader", "verbHere", "()I"⟩, 13), (⟨"BranchedText", "done", "(LBranchedText$History;)I"⟩, 8), (⟨"BranchedText$History", "grow", "(III)LBranchedText$State;"⟩, 14)]
theorem lw_r1 : ∀ q ∈ lw_privs_1, lw_okq q := List.forall_mem_cons.mpr ⟨lw_p0, List.forall_mem_cons.mpr ⟨lw_p1, List.forall_mem_cons.mpr ⟨lw_p2, List.forall_mem_cons.mpr ⟨lw_p3, List.forall_mem_cons.mpr ⟨lw_p4, List.forall_mem_cons.mpr ⟨lw_p5, List.forall_mem_cons.mpr ⟨lw_p6, List.forall_mem_cons.mpr ⟨lw_p7, List.forall_mem_cons.mpr ⟨lw_p8, List.forall_mem_cons.mpr ⟨lw_p9, List.forall_mem_cons.mpr ⟨lw_p10, List.forall_mem_cons.mpr ⟨lw_p11, List.forall_mem_cons.mpr ⟨lw_p12, List.forall_mem_cons.mpr ⟨lw_p13, List.forall_mem_cons.mpr ⟨lw_p14, List.forall_mem_cons.mpr ⟨lw_p15, fun _ h => absurd h List.not_mem_nil⟩⟩⟩⟩⟩⟩⟩⟩⟩⟩⟩⟩⟩⟩⟩⟩
theorem lw_p16 : lw_okq (⟨"BranchedText$History", "joinGroup", "(LBranchedText$State;LBranchedText$State;)V"⟩, 14) := ⟨⟨by decide +kernel, by decide +kernel⟩, List.mem_of_getElem? (i := 99) (by decide +kernel), List.mem_of_getElem? (i := 667) (by decide +kernel), List.mem_of_getElem? (i := 668) (by decide +kernel)⟩
theorem lw_p17 : lw_okq (⟨"BranchedText$History", "moveTo", "(LBranchedText$State;)V"⟩, 14) := ⟨⟨by decide +kernel, by decide +kernel⟩, List.mem_of_getElem? (i := 99) (by decide +kernel), List.mem_of_getElem? (i := 704) (by decide +kernel), List.mem_of_getElem? (i := 705) (by decide +kernel)⟩
theorem lw_p18 : lw_okq (⟨"BranchedText$History", "findNewest", "()V"⟩, 14) := ⟨⟨by decide +kernel, by decide +kernel⟩, List.mem_of_getElem? (i := 99) (by decide +kernel), List.mem_of_getElem? (i := 716) (by decide +kernel), List.mem_of_getElem? (i := 717) (by decide +kernel)⟩
theorem lw_p19 : lw_okq (⟨"BranchedText$History", "newestChild", "(LBranchedText$State;I)LBranchedText$State;"⟩, 14) := ⟨⟨by decide +kernel, by decide +kernel⟩, List.mem_of_getElem? (i := 99) (by decide +kernel), List.mem_of_getElem? (i := 723) (by decide +kernel), List.mem_of_getElem? (i := 724) (by decide +kernel)⟩
theorem lw_p20 : lw_okq (⟨"BranchedText$Row", "link", "(LBranchedText$State;)V"⟩, 10) := ⟨⟨by decide +kernel, by decide +kernel⟩, List.mem_of_getElem? (i := 205) (by decide +kernel), List.mem_of_getElem? (i := 787) (by decide +kernel), List.mem_of_getElem? (i := 788) (by decide +kernel)⟩
theorem lw_p21 : lw_okq (⟨"BranchedText$History", "turn", "(IJJ)I"⟩, 14) := ⟨⟨by decide +kernel, by decide +kernel⟩, List.mem_of_getElem? (i := 99) (by decide +kernel), List.mem_of_getElem? (i := 810) (by decide +kernel), List.mem_of_getElem? (i := 811) (by decide +kernel)⟩
theorem lw_p22 : lw_okq (⟨"BranchedText$History", "standForThemselves", "()V"⟩, 14) := ⟨⟨by decide +kernel, by decide +kernel⟩, List.mem_of_getElem? (i := 99) (by decide +kernel), List.mem_of_getElem? (i := 841) (by decide +kernel), List.mem_of_getElem? (i := 842) (by decide +kernel)⟩
theorem lw_p23 : lw_okq (⟨"BranchedText$History", "carryOne", "(LBranchedText$State;)I"⟩, 14) := ⟨⟨by decide +kernel, by decide +kernel⟩, List.mem_of_getElem? (i := 99) (by decide +kernel), List.mem_of_getElem? (i := 845) (by decide +kernel), List.mem_of_getElem? (i := 846) (by decide +kernel)⟩
theorem lw_p24 : lw_okq (⟨"BranchedText$History", "firstTaken", "(LBranchedText$State;)I"⟩, 14) := ⟨⟨by decide +kernel, by decide +kernel⟩, List.mem_of_getElem? (i := 99) (by decide +kernel), List.mem_of_getElem? (i := 849) (by decide +kernel), List.mem_of_getElem? (i := 850) (by decide +kernel)⟩
theorem lw_p25 : lw_okq (⟨"BranchedText$History", "takes", "(LBranchedText$State;I)Z"⟩, 14) := ⟨⟨by decide +kernel, by decide +kernel⟩, List.mem_of_getElem? (i := 99) (by decide +kernel), List.mem_of_getElem? (i := 853) (by decide +kernel), List.mem_of_getElem? (i := 854) (by decide +kernel)⟩
theorem lw_p26 : lw_okq (⟨"BranchedText$History", "standOf", "(I)I"⟩, 14) := ⟨⟨by decide +kernel, by decide +kernel⟩, List.mem_of_getElem? (i := 99) (by decide +kernel), List.mem_of_getElem? (i := 858) (by decide +kernel), List.mem_of_getElem? (i := 859) (by decide +kernel)⟩
theorem lw_p27 : lw_okq (⟨"BranchedText$History", "takenFrom", "(LBranchedText$State;I)I"⟩, 14) := ⟨⟨by decide +kernel, by decide +kernel⟩, List.mem_of_getElem? (i := 99) (by decide +kernel), List.mem_of_getElem? (i := 865) (by decide +kernel), List.mem_of_getElem? (i := 866) (by decide +kernel)⟩
theorem lw_p28 : lw_okq (⟨"BranchedText$History", "remove", "(LBranchedText$State;)V"⟩, 14) := ⟨⟨by decide +kernel, by decide +kernel⟩, List.mem_of_getElem? (i := 99) (by decide +kernel), List.mem_of_getElem? (i := 907) (by decide +kernel), List.mem_of_getElem? (i := 908) (by decide +kernel)⟩
theorem lw_p29 : lw_okq (⟨"BranchedText", "given", "(I)I"⟩, 8) := ⟨⟨by decide +kernel, by decide +kernel⟩, List.mem_of_getElem? (i := 20) (by decide +kernel), List.mem_of_getElem? (i := 917) (by decide +kernel), List.mem_of_getElem? (i := 918) (by decide +kernel)⟩
theorem lw_p30 : lw_okq (⟨"BranchedText$Visits", "slot", "(I)I"⟩, 6) := ⟨⟨by decide +kernel, by decide +kernel⟩, List.mem_of_getElem? (i := 271) (by decide +kernel), List.mem_of_getElem? (i := 1004) (by decide +kernel), List.mem_of_getElem? (i := 1005) (by decide +kernel)⟩
theorem lw_p31 : lw_okq (⟨"BranchedText", "answered", "(I)I"⟩, 8) := ⟨⟨by decide +kernel, by decide +kernel⟩, List.mem_of_getElem? (i := 20) (by decide +kernel), List.mem_of_getElem? (i := 1028) (by decide +kernel), List.mem_of_getElem? (i := 1029) (by decide +kernel)⟩
def lw_privs_2 : List (MethodName × Nat) := [(⟨"BranchedText$History", "joinGroup", "(LBranchedText$State;LBranchedText$State;)V"⟩, 14), (⟨"BranchedText$History", "moveTo", "(LBranchedText$State;)V"⟩, 14), (⟨"BranchedText$History", "findNewest", "()V"⟩, 14), (⟨"BranchedText$History", "newestChild", "(LBranchedText$State;I)LBranchedText$State;"⟩, 14), (⟨"BranchedText$Row", "link", "(LBranchedText$State;)V"⟩, 10), (⟨"BranchedText$History", "turn", "(IJJ)I"⟩, 14), (⟨"BranchedText$History", "standForThemselves", "()V"⟩, 14), (⟨"BranchedText$History", "carryOne", "(LBranchedText$State;)I"⟩, 14), (⟨"BranchedText$History", "firstTaken", "(LBranchedText$State;)I"⟩, 14), (⟨"BranchedText$History", "takes", "(LBranchedText$State;I)Z"⟩, 14), (⟨"BranchedText$History", "standOf", "(I)I"⟩, 14), (⟨"BranchedText$History", "takenFrom", "(LBranchedText$State;I)I"⟩, 14), (⟨"BranchedText$History", "remove", "(LBranchedText$State;)V"⟩, 14), (⟨"BranchedText", "given", "(I)I"⟩, 8), (⟨"BranchedText$Visits", "slot", "(I)I"⟩, 6), (⟨"BranchedText", "answered", "(I)I"⟩, 8)]
theorem lw_r2 : ∀ q ∈ lw_privs_2, lw_okq q := List.forall_mem_cons.mpr ⟨lw_p16, List.forall_mem_cons.mpr ⟨lw_p17, List.forall_mem_cons.mpr ⟨lw_p18, List.forall_mem_cons.mpr ⟨lw_p19, List.forall_mem_cons.mpr ⟨lw_p20, List.forall_mem_cons.mpr ⟨lw_p21, List.forall_mem_cons.mpr ⟨lw_p22, List.forall_mem_cons.mpr ⟨lw_p23, List.forall_mem_cons.mpr ⟨lw_p24, List.forall_mem_cons.mpr ⟨lw_p25, List.forall_mem_cons.mpr ⟨lw_p26, List.forall_mem_cons.mpr ⟨lw_p27, List.forall_mem_cons.mpr ⟨lw_p28, List.forall_mem_cons.mpr ⟨lw_p29, List.forall_mem_cons.mpr ⟨lw_p30, List.forall_mem_cons.mpr ⟨lw_p31, fun _ h => absurd h List.not_mem_nil⟩⟩⟩⟩⟩⟩⟩⟩⟩⟩⟩⟩⟩⟩⟩⟩
theorem lw_p32 : lw_okq (⟨"BranchedText", "tellDocument", "()V"⟩, 8) := ⟨⟨by decide +kernel, by decide +kernel⟩, List.mem_of_getElem? (i := 20) (by decide +kernel), List.mem_of_getElem? (i := 1146) (by decide +kernel), List.mem_of_getElem? (i := 1147) (by decide +kernel)⟩
theorem lw_p33 : lw_okq (⟨"BranchedText", "tellByte", "(I)V"⟩, 8) := ⟨⟨by decide +kernel, by decide +kernel⟩, List.mem_of_getElem? (i := 20) (by decide +kernel), List.mem_of_getElem? (i := 1150) (by decide +kernel), List.mem_of_getElem? (i := 1151) (by decide +kernel)⟩
theorem lw_p34 : lw_okq (⟨"BranchedText", "tellLine", "()V"⟩, 8) := ⟨⟨by decide +kernel, by decide +kernel⟩, List.mem_of_getElem? (i := 20) (by decide +kernel), List.mem_of_getElem? (i := 1154) (by decide +kernel), List.mem_of_getElem? (i := 1155) (by decide +kernel)⟩
theorem lw_p35 : lw_okq (⟨"BranchedText", "tellNumber", "(I)V"⟩, 8) := ⟨⟨by decide +kernel, by decide +kernel⟩, List.mem_of_getElem? (i := 20) (by decide +kernel), List.mem_of_getElem? (i := 1162) (by decide +kernel), List.mem_of_getElem? (i := 1163) (by decide +kernel)⟩
theorem lw_p36 : lw_okq (⟨"BranchedText", "tellNames", "()V"⟩, 8) := ⟨⟨by decide +kernel, by decide +kernel⟩, List.mem_of_getElem? (i := 20) (by decide +kernel), List.mem_of_getElem? (i := 1166) (by decide +kernel), List.mem_of_getElem? (i := 1167) (by decide +kernel)⟩
theorem lw_p37 : lw_okq (⟨"BranchedTextModel", "clears", "()V"⟩, 48) := ⟨⟨by decide +kernel, by decide +kernel⟩, List.mem_of_getElem? (i := 1225) (by decide +kernel), List.mem_of_getElem? (i := 1254) (by decide +kernel), List.mem_of_getElem? (i := 1255) (by decide +kernel)⟩
theorem lw_p38 : lw_okq (⟨"BranchedTextModel", "sets", "(III)V"⟩, 48) := ⟨⟨by decide +kernel, by decide +kernel⟩, List.mem_of_getElem? (i := 1225) (by decide +kernel), List.mem_of_getElem? (i := 1258) (by decide +kernel), List.mem_of_getElem? (i := 1259) (by decide +kernel)⟩
theorem lw_p39 : lw_okq (⟨"BranchedTextModel", "lays", "(I)V"⟩, 48) := ⟨⟨by decide +kernel, by decide +kernel⟩, List.mem_of_getElem? (i := 1225) (by decide +kernel), List.mem_of_getElem? (i := 1420) (by decide +kernel), List.mem_of_getElem? (i := 1421) (by decide +kernel)⟩
theorem lw_p40 : lw_okq (⟨"BranchedTextModel", "is", "(I)Z"⟩, 48) := ⟨⟨by decide +kernel, by decide +kernel⟩, List.mem_of_getElem? (i := 1225) (by decide +kernel), List.mem_of_getElem? (i := 1431) (by decide +kernel), List.mem_of_getElem? (i := 1432) (by decide +kernel)⟩
theorem lw_p41 : lw_okq (⟨"BranchedTextModel", "reads", "()V"⟩, 48) := ⟨⟨by decide +kernel, by decide +kernel⟩, List.mem_of_getElem? (i := 1225) (by decide +kernel), List.mem_of_getElem? (i := 1435) (by decide +kernel), List.mem_of_getElem? (i := 1436) (by decide +kernel)⟩
theorem lw_p42 : lw_okq (⟨"BranchedTextModel", "isOf", "(III)Z"⟩, 48) := ⟨⟨by decide +kernel, by decide +kernel⟩, List.mem_of_getElem? (i := 1225) (by decide +kernel), List.mem_of_getElem? (i := 1495) (by decide +kernel), List.mem_of_getElem? (i := 1496) (by decide +kernel)⟩
theorem lw_p43 : lw_okq (⟨"BranchedTextModel", "which", "([J)I"⟩, 48) := ⟨⟨by decide +kernel, by decide +kernel⟩, List.mem_of_getElem? (i := 1225) (by decide +kernel), List.mem_of_getElem? (i := 1501) (by decide +kernel), List.mem_of_getElem? (i := 1502) (by decide +kernel)⟩
theorem lw_p44 : lw_okq (⟨"BranchedTextModel", "takesWord", "(I)V"⟩, 48) := ⟨⟨by decide +kernel, by decide +kernel⟩, List.mem_of_getElem? (i := 1225) (by decide +kernel), List.mem_of_getElem? (i := 1505) (by decide +kernel), List.mem_of_getElem? (i := 1506) (by decide +kernel)⟩
theorem lw_p45 : lw_okq (⟨"BranchedTextModel", "must", "(ZI)V"⟩, 48) := ⟨⟨by decide +kernel, by decide +kernel⟩, List.mem_of_getElem? (i := 1225) (by decide +kernel), List.mem_of_getElem? (i := 1509) (by decide +kernel), List.mem_of_getElem? (i := 1510) (by decide +kernel)⟩
theorem lw_p46 : lw_okq (⟨"BranchedTextModel", "takes", "(C)V"⟩, 48) := ⟨⟨by decide +kernel, by decide +kernel⟩, List.mem_of_getElem? (i := 1225) (by decide +kernel), List.mem_of_getElem? (i := 1513) (by decide +kernel), List.mem_of_getElem? (i := 1514) (by decide +kernel)⟩
theorem lw_p47 : lw_okq (⟨"BranchedTextModel", "isSign", "(C)Z"⟩, 48) := ⟨⟨by decide +kernel, by decide +kernel⟩, List.mem_of_getElem? (i := 1225) (by decide +kernel), List.mem_of_getElem? (i := 1517) (by decide +kernel), List.mem_of_getElem? (i := 1518) (by decide +kernel)⟩
def lw_privs_3 : List (MethodName × Nat) := [(⟨"BranchedText", "tellDocument", "()V"⟩, 8), (⟨"BranchedText", "tellByte", "(I)V"⟩, 8), (⟨"BranchedText", "tellLine", "()V"⟩, 8), (⟨"BranchedText", "tellNumber", "(I)V"⟩, 8), (⟨"BranchedText", "tellNames", "()V"⟩, 8), (⟨"BranchedTextModel", "clears", "()V"⟩, 48), (⟨"BranchedTextModel", "sets", "(III)V"⟩, 48), (⟨"BranchedTextModel", "lays", "(I)V"⟩, 48), (⟨"BranchedTextModel", "is", "(I)Z"⟩, 48), (⟨"BranchedTextModel", "reads", "()V"⟩, 48), (⟨"BranchedTextModel", "isOf", "(III)Z"⟩, 48), (⟨"BranchedTextModel", "which", "([J)I"⟩, 48), (⟨"BranchedTextModel", "takesWord", "(I)V"⟩, 48), (⟨"BranchedTextModel", "must", "(ZI)V"⟩, 48), (⟨"BranchedTextModel", "takes", "(C)V"⟩, 48), (⟨"BranchedTextModel", "isSign", "(C)Z"⟩, 48)]
theorem lw_r3 : ∀ q ∈ lw_privs_3, lw_okq q := List.forall_mem_cons.mpr ⟨lw_p32, List.forall_mem_cons.mpr ⟨lw_p33, List.forall_mem_cons.mpr ⟨lw_p34, List.forall_mem_cons.mpr ⟨lw_p35, List.forall_mem_cons.mpr ⟨lw_p36, List.forall_mem_cons.mpr ⟨lw_p37, List.forall_mem_cons.mpr ⟨lw_p38, List.forall_mem_cons.mpr ⟨lw_p39, List.forall_mem_cons.mpr ⟨lw_p40, List.forall_mem_cons.mpr ⟨lw_p41, List.forall_mem_cons.mpr ⟨lw_p42, List.forall_mem_cons.mpr ⟨lw_p43, List.forall_mem_cons.mpr ⟨lw_p44, List.forall_mem_cons.mpr ⟨lw_p45, List.forall_mem_cons.mpr ⟨lw_p46, List.forall_mem_cons.mpr ⟨lw_p47, fun _ h => absurd h List.not_mem_nil⟩⟩⟩⟩⟩⟩⟩⟩⟩⟩⟩⟩⟩⟩⟩⟩
theorem lw_p48 : lw_okq (⟨"BranchedTextModel", "test", "()V"⟩, 48) := ⟨⟨by decide +kernel, by decide +kernel⟩, List.mem_of_getElem? (i := 1225) (by decide +kernel), List.mem_of_getElem? (i := 1521) (by decide +kernel), List.mem_of_getElem? (i := 1522) (by decide +kernel)⟩
theorem lw_p49 : lw_okq (⟨"BranchedTextModel", "side", "()V"⟩, 48) := ⟨⟨by decide +kernel, by decide +kernel⟩, List.mem_of_getElem? (i := 1225) (by decide +kernel), List.mem_of_getElem? (i := 1525) (by decide +kernel), List.mem_of_getElem? (i := 1526) (by decide +kernel)⟩
theorem lw_p50 : lw_okq (⟨"BranchedTextModel", "fact", "()V"⟩, 48) := ⟨⟨by decide +kernel, by decide +kernel⟩, List.mem_of_getElem? (i := 1225) (by decide +kernel), List.mem_of_getElem? (i := 1529) (by decide +kernel), List.mem_of_getElem? (i := 1530) (by decide +kernel)⟩
theorem lw_p51 : lw_okq (⟨"BranchedTextModel", "emits", "(I)V"⟩, 48) := ⟨⟨by decide +kernel, by decide +kernel⟩, List.mem_of_getElem? (i := 1225) (by decide +kernel), List.mem_of_getElem? (i := 1533) (by decide +kernel), List.mem_of_getElem? (i := 1534) (by decide +kernel)⟩
theorem lw_p52 : lw_okq (⟨"BranchedTextModel", "takesNumber", "()I"⟩, 48) := ⟨⟨by decide +kernel, by decide +kernel⟩, List.mem_of_getElem? (i := 1225) (by decide +kernel), List.mem_of_getElem? (i := 1537) (by decide +kernel), List.mem_of_getElem? (i := 1538) (by decide +kernel)⟩
theorem lw_p53 : lw_okq (⟨"BranchedTextModel", "readsLine", "()V"⟩, 48) := ⟨⟨by decide +kernel, by decide +kernel⟩, List.mem_of_getElem? (i := 1225) (by decide +kernel), List.mem_of_getElem? (i := 1541) (by decide +kernel), List.mem_of_getElem? (i := 1542) (by decide +kernel)⟩
theorem lw_p54 : lw_okq (⟨"BranchedTextModel", "does", "(I)I"⟩, 48) := ⟨⟨by decide +kernel, by decide +kernel⟩, List.mem_of_getElem? (i := 1225) (by decide +kernel), List.mem_of_getElem? (i := 1545) (by decide +kernel), List.mem_of_getElem? (i := 1546) (by decide +kernel)⟩
theorem lw_p55 : lw_okq (⟨"BranchedTextModel", "putNow", "(I)I"⟩, 48) := ⟨⟨by decide +kernel, by decide +kernel⟩, List.mem_of_getElem? (i := 1225) (by decide +kernel), List.mem_of_getElem? (i := 1549) (by decide +kernel), List.mem_of_getElem? (i := 1550) (by decide +kernel)⟩
theorem lw_p56 : lw_okq (⟨"BranchedTextModel", "here", "()I"⟩, 48) := ⟨⟨by decide +kernel, by decide +kernel⟩, List.mem_of_getElem? (i := 1225) (by decide +kernel), List.mem_of_getElem? (i := 1553) (by decide +kernel), List.mem_of_getElem? (i := 1554) (by decide +kernel)⟩
theorem lw_p57 : lw_okq (⟨"BranchedTextModel", "lettersOf", "(I)I"⟩, 48) := ⟨⟨by decide +kernel, by decide +kernel⟩, List.mem_of_getElem? (i := 1225) (by decide +kernel), List.mem_of_getElem? (i := 1557) (by decide +kernel), List.mem_of_getElem? (i := 1558) (by decide +kernel)⟩
theorem lw_p58 : lw_okq (⟨"BranchedTextModel", "sees", "(I)V"⟩, 48) := ⟨⟨by decide +kernel, by decide +kernel⟩, List.mem_of_getElem? (i := 1225) (by decide +kernel), List.mem_of_getElem? (i := 1561) (by decide +kernel), List.mem_of_getElem? (i := 1562) (by decide +kernel)⟩
theorem lw_p59 : lw_okq (⟨"BranchedTextModel", "depthOf", "(I)I"⟩, 48) := ⟨⟨by decide +kernel, by decide +kernel⟩, List.mem_of_getElem? (i := 1225) (by decide +kernel), List.mem_of_getElem? (i := 1565) (by decide +kernel), List.mem_of_getElem? (i := 1566) (by decide +kernel)⟩
theorem lw_p60 : lw_okq (⟨"BranchedTextModel", "of", "(II)I"⟩, 48) := ⟨⟨by decide +kernel, by decide +kernel⟩, List.mem_of_getElem? (i := 1225) (by decide +kernel), List.mem_of_getElem? (i := 1569) (by decide +kernel), List.mem_of_getElem? (i := 1570) (by decide +kernel)⟩
theorem lw_p61 : lw_okq (⟨"BranchedTextModel", "isEdit", "(I)Z"⟩, 48) := ⟨⟨by decide +kernel, by decide +kernel⟩, List.mem_of_getElem? (i := 1225) (by decide +kernel), List.mem_of_getElem? (i := 1573) (by decide +kernel), List.mem_of_getElem? (i := 1574) (by decide +kernel)⟩
theorem lw_p62 : lw_okq (⟨"BranchedTextModel", "letsIn", "(I)V"⟩, 48) := ⟨⟨by decide +kernel, by decide +kernel⟩, List.mem_of_getElem? (i := 1225) (by decide +kernel), List.mem_of_getElem? (i := 1577) (by decide +kernel), List.mem_of_getElem? (i := 1578) (by decide +kernel)⟩
theorem lw_p63 : lw_okq (⟨"BranchedTextModel", "rowOf", "(II)I"⟩, 48) := ⟨⟨by decide +kernel, by decide +kernel⟩, List.mem_of_getElem? (i := 1225) (by decide +kernel), List.mem_of_getElem? (i := 1581) (by decide +kernel), List.mem_of_getElem? (i := 1582) (by decide +kernel)⟩
def lw_privs_4 : List (MethodName × Nat) := [(⟨"BranchedTextModel", "test", "()V"⟩, 48), (⟨"BranchedTextModel", "side", "()V"⟩, 48), (⟨"BranchedTextModel", "fact", "()V"⟩, 48), (⟨"BranchedTextModel", "emits", "(I)V"⟩, 48), (⟨"BranchedTextModel", "takesNumber", "()I"⟩, 48), (⟨"BranchedTextModel", "readsLine", "()V"⟩, 48), (⟨"BranchedTextModel", "does", "(I)I"⟩, 48), (⟨"BranchedTextModel", "putNow", "(I)I"⟩, 48), (⟨"BranchedTextModel", "here", "()I"⟩, 48), (⟨"BranchedTextModel", "lettersOf", "(I)I"⟩, 48), (⟨"BranchedTextModel", "sees", "(I)V"⟩, 48), (⟨"BranchedTextModel", "depthOf", "(I)I"⟩, 48), (⟨"BranchedTextModel", "of", "(II)I"⟩, 48), (⟨"BranchedTextModel", "isEdit", "(I)Z"⟩, 48), (⟨"BranchedTextModel", "letsIn", "(I)V"⟩, 48), (⟨"BranchedTextModel", "rowOf", "(II)I"⟩, 48)]
theorem lw_r4 : ∀ q ∈ lw_privs_4, lw_okq q := List.forall_mem_cons.mpr ⟨lw_p48, List.forall_mem_cons.mpr ⟨lw_p49, List.forall_mem_cons.mpr ⟨lw_p50, List.forall_mem_cons.mpr ⟨lw_p51, List.forall_mem_cons.mpr ⟨lw_p52, List.forall_mem_cons.mpr ⟨lw_p53, List.forall_mem_cons.mpr ⟨lw_p54, List.forall_mem_cons.mpr ⟨lw_p55, List.forall_mem_cons.mpr ⟨lw_p56, List.forall_mem_cons.mpr ⟨lw_p57, List.forall_mem_cons.mpr ⟨lw_p58, List.forall_mem_cons.mpr ⟨lw_p59, List.forall_mem_cons.mpr ⟨lw_p60, List.forall_mem_cons.mpr ⟨lw_p61, List.forall_mem_cons.mpr ⟨lw_p62, List.forall_mem_cons.mpr ⟨lw_p63, fun _ h => absurd h List.not_mem_nil⟩⟩⟩⟩⟩⟩⟩⟩⟩⟩⟩⟩⟩⟩⟩⟩
theorem lw_p64 : lw_okq (⟨"BranchedTextModel", "turns", "(I)V"⟩, 48) := ⟨⟨by decide +kernel, by decide +kernel⟩, List.mem_of_getElem? (i := 1225) (by decide +kernel), List.mem_of_getElem? (i := 1585) (by decide +kernel), List.mem_of_getElem? (i := 1586) (by decide +kernel)⟩
theorem lw_p65 : lw_okq (⟨"BranchedTextModel", "names", "(II)Z"⟩, 48) := ⟨⟨by decide +kernel, by decide +kernel⟩, List.mem_of_getElem? (i := 1225) (by decide +kernel), List.mem_of_getElem? (i := 1589) (by decide +kernel), List.mem_of_getElem? (i := 1590) (by decide +kernel)⟩
theorem lw_p66 : lw_okq (⟨"BranchedTextModel", "refuse", "(I)I"⟩, 48) := ⟨⟨by decide +kernel, by decide +kernel⟩, List.mem_of_getElem? (i := 1225) (by decide +kernel), List.mem_of_getElem? (i := 1593) (by decide +kernel), List.mem_of_getElem? (i := 1594) (by decide +kernel)⟩
theorem lw_p67 : lw_okq (⟨"BranchedTextModel", "states", "()I"⟩, 48) := ⟨⟨by decide +kernel, by decide +kernel⟩, List.mem_of_getElem? (i := 1225) (by decide +kernel), List.mem_of_getElem? (i := 1597) (by decide +kernel), List.mem_of_getElem? (i := 1598) (by decide +kernel)⟩
theorem lw_p68 : lw_okq (⟨"BranchedTextModel", "freeState", "()I"⟩, 48) := ⟨⟨by decide +kernel, by decide +kernel⟩, List.mem_of_getElem? (i := 1225) (by decide +kernel), List.mem_of_getElem? (i := 1601) (by decide +kernel), List.mem_of_getElem? (i := 1602) (by decide +kernel)⟩
theorem lw_p69 : lw_okq (⟨"BranchedTextModel", "rowPlace", "(I)I"⟩, 48) := ⟨⟨by decide +kernel, by decide +kernel⟩, List.mem_of_getElem? (i := 1225) (by decide +kernel), List.mem_of_getElem? (i := 1605) (by decide +kernel), List.mem_of_getElem? (i := 1606) (by decide +kernel)⟩
theorem lw_p70 : lw_okq (⟨"BranchedTextModel", "joins", "(III)Z"⟩, 48) := ⟨⟨by decide +kernel, by decide +kernel⟩, List.mem_of_getElem? (i := 1225) (by decide +kernel), List.mem_of_getElem? (i := 1609) (by decide +kernel), List.mem_of_getElem? (i := 1610) (by decide +kernel)⟩
theorem lw_p71 : lw_okq (⟨"BranchedTextModel", "isNear", "(IIII)Z"⟩, 48) := ⟨⟨by decide +kernel, by decide +kernel⟩, List.mem_of_getElem? (i := 1225) (by decide +kernel), List.mem_of_getElem? (i := 1613) (by decide +kernel), List.mem_of_getElem? (i := 1614) (by decide +kernel)⟩
theorem lw_p72 : lw_okq (⟨"BranchedTextModel", "holds", "()Z"⟩, 48) := ⟨⟨by decide +kernel, by decide +kernel⟩, List.mem_of_getElem? (i := 1225) (by decide +kernel), List.mem_of_getElem? (i := 1617) (by decide +kernel), List.mem_of_getElem? (i := 1618) (by decide +kernel)⟩
theorem lw_p73 : lw_okq (⟨"BranchedTextModel", "begins", "(IIIIZ)V"⟩, 48) := ⟨⟨by decide +kernel, by decide +kernel⟩, List.mem_of_getElem? (i := 1225) (by decide +kernel), List.mem_of_getElem? (i := 1624) (by decide +kernel), List.mem_of_getElem? (i := 1625) (by decide +kernel)⟩
theorem lw_p74 : lw_okq (⟨"BranchedTextModel", "visits", "(I)V"⟩, 48) := ⟨⟨by decide +kernel, by decide +kernel⟩, List.mem_of_getElem? (i := 1225) (by decide +kernel), List.mem_of_getElem? (i := 1628) (by decide +kernel), List.mem_of_getElem? (i := 1629) (by decide +kernel)⟩
theorem lw_p75 : lw_okq (⟨"BranchedTextModel", "cutNow", "(II)I"⟩, 48) := ⟨⟨by decide +kernel, by decide +kernel⟩, List.mem_of_getElem? (i := 1225) (by decide +kernel), List.mem_of_getElem? (i := 1632) (by decide +kernel), List.mem_of_getElem? (i := 1633) (by decide +kernel)⟩
theorem lw_p76 : lw_okq (⟨"BranchedTextModel", "undoNow", "()I"⟩, 48) := ⟨⟨by decide +kernel, by decide +kernel⟩, List.mem_of_getElem? (i := 1225) (by decide +kernel), List.mem_of_getElem? (i := 1636) (by decide +kernel), List.mem_of_getElem? (i := 1637) (by decide +kernel)⟩
theorem lw_p77 : lw_okq (⟨"BranchedTextModel", "redoNow", "()I"⟩, 48) := ⟨⟨by decide +kernel, by decide +kernel⟩, List.mem_of_getElem? (i := 1225) (by decide +kernel), List.mem_of_getElem? (i := 1640) (by decide +kernel), List.mem_of_getElem? (i := 1641) (by decide +kernel)⟩
theorem lw_p78 : lw_okq (⟨"BranchedTextModel", "childOf", "(II)I"⟩, 48) := ⟨⟨by decide +kernel, by decide +kernel⟩, List.mem_of_getElem? (i := 1225) (by decide +kernel), List.mem_of_getElem? (i := 1644) (by decide +kernel), List.mem_of_getElem? (i := 1645) (by decide +kernel)⟩
theorem lw_p79 : lw_okq (⟨"BranchedTextModel", "isState", "(I)Z"⟩, 48) := ⟨⟨by decide +kernel, by decide +kernel⟩, List.mem_of_getElem? (i := 1225) (by decide +kernel), List.mem_of_getElem? (i := 1648) (by decide +kernel), List.mem_of_getElem? (i := 1649) (by decide +kernel)⟩
def lw_privs_5 : List (MethodName × Nat) := [(⟨"BranchedTextModel", "turns", "(I)V"⟩, 48), (⟨"BranchedTextModel", "names", "(II)Z"⟩, 48), (⟨"BranchedTextModel", "refuse", "(I)I"⟩, 48), (⟨"BranchedTextModel", "states", "()I"⟩, 48), (⟨"BranchedTextModel", "freeState", "()I"⟩, 48), (⟨"BranchedTextModel", "rowPlace", "(I)I"⟩, 48), (⟨"BranchedTextModel", "joins", "(III)Z"⟩, 48), (⟨"BranchedTextModel", "isNear", "(IIII)Z"⟩, 48), (⟨"BranchedTextModel", "holds", "()Z"⟩, 48), (⟨"BranchedTextModel", "begins", "(IIIIZ)V"⟩, 48), (⟨"BranchedTextModel", "visits", "(I)V"⟩, 48), (⟨"BranchedTextModel", "cutNow", "(II)I"⟩, 48), (⟨"BranchedTextModel", "undoNow", "()I"⟩, 48), (⟨"BranchedTextModel", "redoNow", "()I"⟩, 48), (⟨"BranchedTextModel", "childOf", "(II)I"⟩, 48), (⟨"BranchedTextModel", "isState", "(I)Z"⟩, 48)]
theorem lw_r5 : ∀ q ∈ lw_privs_5, lw_okq q := List.forall_mem_cons.mpr ⟨lw_p64, List.forall_mem_cons.mpr ⟨lw_p65, List.forall_mem_cons.mpr ⟨lw_p66, List.forall_mem_cons.mpr ⟨lw_p67, List.forall_mem_cons.mpr ⟨lw_p68, List.forall_mem_cons.mpr ⟨lw_p69, List.forall_mem_cons.mpr ⟨lw_p70, List.forall_mem_cons.mpr ⟨lw_p71, List.forall_mem_cons.mpr ⟨lw_p72, List.forall_mem_cons.mpr ⟨lw_p73, List.forall_mem_cons.mpr ⟨lw_p74, List.forall_mem_cons.mpr ⟨lw_p75, List.forall_mem_cons.mpr ⟨lw_p76, List.forall_mem_cons.mpr ⟨lw_p77, List.forall_mem_cons.mpr ⟨lw_p78, List.forall_mem_cons.mpr ⟨lw_p79, fun _ h => absurd h List.not_mem_nil⟩⟩⟩⟩⟩⟩⟩⟩⟩⟩⟩⟩⟩⟩⟩⟩
theorem lw_p80 : lw_okq (⟨"BranchedTextModel", "latestIn", "(I)I"⟩, 48) := ⟨⟨by decide +kernel, by decide +kernel⟩, List.mem_of_getElem? (i := 1225) (by decide +kernel), List.mem_of_getElem? (i := 1652) (by decide +kernel), List.mem_of_getElem? (i := 1653) (by decide +kernel)⟩
theorem lw_p81 : lw_okq (⟨"BranchedTextModel", "isOfLine", "(II)Z"⟩, 48) := ⟨⟨by decide +kernel, by decide +kernel⟩, List.mem_of_getElem? (i := 1225) (by decide +kernel), List.mem_of_getElem? (i := 1656) (by decide +kernel), List.mem_of_getElem? (i := 1657) (by decide +kernel)⟩
theorem lw_p82 : lw_okq (⟨"BranchedTextModel", "goNow", "(I)I"⟩, 48) := ⟨⟨by decide +kernel, by decide +kernel⟩, List.mem_of_getElem? (i := 1225) (by decide +kernel), List.mem_of_getElem? (i := 1660) (by decide +kernel), List.mem_of_getElem? (i := 1661) (by decide +kernel)⟩
theorem lw_p83 : lw_okq (⟨"BranchedTextModel", "wayMany", "(II)I"⟩, 48) := ⟨⟨by decide +kernel, by decide +kernel⟩, List.mem_of_getElem? (i := 1225) (by decide +kernel), List.mem_of_getElem? (i := 1664) (by decide +kernel), List.mem_of_getElem? (i := 1665) (by decide +kernel)⟩
theorem lw_p84 : lw_okq (⟨"BranchedTextModel", "commonOf", "(II)I"⟩, 48) := ⟨⟨by decide +kernel, by decide +kernel⟩, List.mem_of_getElem? (i := 1225) (by decide +kernel), List.mem_of_getElem? (i := 1668) (by decide +kernel), List.mem_of_getElem? (i := 1669) (by decide +kernel)⟩
theorem lw_p85 : lw_okq (⟨"BranchedTextModel", "nameNow", "()I"⟩, 48) := ⟨⟨by decide +kernel, by decide +kernel⟩, List.mem_of_getElem? (i := 1225) (by decide +kernel), List.mem_of_getElem? (i := 1672) (by decide +kernel), List.mem_of_getElem? (i := 1673) (by decide +kernel)⟩
theorem lw_p86 : lw_okq (⟨"BranchedTextModel", "nameAt", "(I)I"⟩, 48) := ⟨⟨by decide +kernel, by decide +kernel⟩, List.mem_of_getElem? (i := 1225) (by decide +kernel), List.mem_of_getElem? (i := 1679) (by decide +kernel), List.mem_of_getElem? (i := 1680) (by decide +kernel)⟩
theorem lw_p87 : lw_okq (⟨"BranchedTextModel", "turnNow", "(II)I"⟩, 48) := ⟨⟨by decide +kernel, by decide +kernel⟩, List.mem_of_getElem? (i := 1225) (by decide +kernel), List.mem_of_getElem? (i := 1683) (by decide +kernel), List.mem_of_getElem? (i := 1684) (by decide +kernel)⟩
theorem lw_p88 : lw_okq (⟨"BranchedTextModel", "marks", "(IZ)V"⟩, 48) := ⟨⟨by decide +kernel, by decide +kernel⟩, List.mem_of_getElem? (i := 1225) (by decide +kernel), List.mem_of_getElem? (i := 1687) (by decide +kernel), List.mem_of_getElem? (i := 1688) (by decide +kernel)⟩
theorem lw_p89 : lw_okq (⟨"BranchedTextModel", "leansOn", "(II)Z"⟩, 48) := ⟨⟨by decide +kernel, by decide +kernel⟩, List.mem_of_getElem? (i := 1225) (by decide +kernel), List.mem_of_getElem? (i := 1691) (by decide +kernel), List.mem_of_getElem? (i := 1692) (by decide +kernel)⟩
theorem lw_p90 : lw_okq (⟨"BranchedTextModel", "triesNames", "(I)I"⟩, 48) := ⟨⟨by decide +kernel, by decide +kernel⟩, List.mem_of_getElem? (i := 1225) (by decide +kernel), List.mem_of_getElem? (i := 1695) (by decide +kernel), List.mem_of_getElem? (i := 1696) (by decide +kernel)⟩
theorem lw_p91 : lw_okq (⟨"BranchedTextModel", "namesToo", "(II)V"⟩, 48) := ⟨⟨by decide +kernel, by decide +kernel⟩, List.mem_of_getElem? (i := 1225) (by decide +kernel), List.mem_of_getElem? (i := 1699) (by decide +kernel), List.mem_of_getElem? (i := 1700) (by decide +kernel)⟩
theorem lw_p92 : lw_okq (⟨"BranchedTextModel", "carryNow", "(I)I"⟩, 48) := ⟨⟨by decide +kernel, by decide +kernel⟩, List.mem_of_getElem? (i := 1225) (by decide +kernel), List.mem_of_getElem? (i := 1703) (by decide +kernel), List.mem_of_getElem? (i := 1704) (by decide +kernel)⟩
theorem lw_p93 : lw_okq (⟨"BranchedTextModel", "plain", "()V"⟩, 48) := ⟨⟨by decide +kernel, by decide +kernel⟩, List.mem_of_getElem? (i := 1225) (by decide +kernel), List.mem_of_getElem? (i := 1707) (by decide +kernel), List.mem_of_getElem? (i := 1708) (by decide +kernel)⟩
theorem lw_p94 : lw_okq (⟨"BranchedTextModel", "carries", "(I)I"⟩, 48) := ⟨⟨by decide +kernel, by decide +kernel⟩, List.mem_of_getElem? (i := 1225) (by decide +kernel), List.mem_of_getElem? (i := 1711) (by decide +kernel), List.mem_of_getElem? (i := 1712) (by decide +kernel)⟩
theorem lw_p95 : lw_okq (⟨"BranchedTextModel", "carriesCut", "(I)I"⟩, 48) := ⟨⟨by decide +kernel, by decide +kernel⟩, List.mem_of_getElem? (i := 1225) (by decide +kernel), List.mem_of_getElem? (i := 1715) (by decide +kernel), List.mem_of_getElem? (i := 1716) (by decide +kernel)⟩
def lw_privs_6 : List (MethodName × Nat) := [(⟨"BranchedTextModel", "latestIn", "(I)I"⟩, 48), (⟨"BranchedTextModel", "isOfLine", "(II)Z"⟩, 48), (⟨"BranchedTextModel", "goNow", "(I)I"⟩, 48), (⟨"BranchedTextModel", "wayMany", "(II)I"⟩, 48), (⟨"BranchedTextModel", "commonOf", "(II)I"⟩, 48), (⟨"BranchedTextModel", "nameNow", "()I"⟩, 48), (⟨"BranchedTextModel", "nameAt", "(I)I"⟩, 48), (⟨"BranchedTextModel", "turnNow", "(II)I"⟩, 48), (⟨"BranchedTextModel", "marks", "(IZ)V"⟩, 48), (⟨"BranchedTextModel", "leansOn", "(II)Z"⟩, 48), (⟨"BranchedTextModel", "triesNames", "(I)I"⟩, 48), (⟨"BranchedTextModel", "namesToo", "(II)V"⟩, 48), (⟨"BranchedTextModel", "carryNow", "(I)I"⟩, 48), (⟨"BranchedTextModel", "plain", "()V"⟩, 48), (⟨"BranchedTextModel", "carries", "(I)I"⟩, 48), (⟨"BranchedTextModel", "carriesCut", "(I)I"⟩, 48)]
theorem lw_r6 : ∀ q ∈ lw_privs_6, lw_okq q := List.forall_mem_cons.mpr ⟨lw_p80, List.forall_mem_cons.mpr ⟨lw_p81, List.forall_mem_cons.mpr ⟨lw_p82, List.forall_mem_cons.mpr ⟨lw_p83, List.forall_mem_cons.mpr ⟨lw_p84, List.forall_mem_cons.mpr ⟨lw_p85, List.forall_mem_cons.mpr ⟨lw_p86, List.forall_mem_cons.mpr ⟨lw_p87, List.forall_mem_cons.mpr ⟨lw_p88, List.forall_mem_cons.mpr ⟨lw_p89, List.forall_mem_cons.mpr ⟨lw_p90, List.forall_mem_cons.mpr ⟨lw_p91, List.forall_mem_cons.mpr ⟨lw_p92, List.forall_mem_cons.mpr ⟨lw_p93, List.forall_mem_cons.mpr ⟨lw_p94, List.forall_mem_cons.mpr ⟨lw_p95, fun _ h => absurd h List.not_mem_nil⟩⟩⟩⟩⟩⟩⟩⟩⟩⟩⟩⟩⟩⟩⟩⟩
theorem lw_p96 : lw_okq (⟨"BranchedTextModel", "isTaken", "(II)Z"⟩, 48) := ⟨⟨by decide +kernel, by decide +kernel⟩, List.mem_of_getElem? (i := 1225) (by decide +kernel), List.mem_of_getElem? (i := 1719) (by decide +kernel), List.mem_of_getElem? (i := 1720) (by decide +kernel)⟩
theorem lw_p97 : lw_okq (⟨"BranchedTextModel", "mergeNow", "(I)I"⟩, 48) := ⟨⟨by decide +kernel, by decide +kernel⟩, List.mem_of_getElem? (i := 1225) (by decide +kernel), List.mem_of_getElem? (i := 1723) (by decide +kernel), List.mem_of_getElem? (i := 1724) (by decide +kernel)⟩
theorem lw_p98 : lw_okq (⟨"BranchedTextModel", "pruneNow", "(I)I"⟩, 48) := ⟨⟨by decide +kernel, by decide +kernel⟩, List.mem_of_getElem? (i := 1225) (by decide +kernel), List.mem_of_getElem? (i := 1727) (by decide +kernel), List.mem_of_getElem? (i := 1728) (by decide +kernel)⟩
theorem lw_p99 : lw_okq (⟨"BranchedTextModel", "firstOut", "()I"⟩, 48) := ⟨⟨by decide +kernel, by decide +kernel⟩, List.mem_of_getElem? (i := 1225) (by decide +kernel), List.mem_of_getElem? (i := 1731) (by decide +kernel), List.mem_of_getElem? (i := 1732) (by decide +kernel)⟩
theorem lw_p100 : lw_okq (⟨"BranchedTextModel", "childrenOf", "(I)I"⟩, 48) := ⟨⟨by decide +kernel, by decide +kernel⟩, List.mem_of_getElem? (i := 1225) (by decide +kernel), List.mem_of_getElem? (i := 1735) (by decide +kernel), List.mem_of_getElem? (i := 1736) (by decide +kernel)⟩
theorem lw_p101 : lw_okq (⟨"BranchedTextModel", "namesOf", "(I)I"⟩, 48) := ⟨⟨by decide +kernel, by decide +kernel⟩, List.mem_of_getElem? (i := 1225) (by decide +kernel), List.mem_of_getElem? (i := 1739) (by decide +kernel), List.mem_of_getElem? (i := 1740) (by decide +kernel)⟩
theorem lw_p102 : lw_okq (⟨"BranchedTextModel", "leaves", "()I"⟩, 48) := ⟨⟨by decide +kernel, by decide +kernel⟩, List.mem_of_getElem? (i := 1225) (by decide +kernel), List.mem_of_getElem? (i := 1751) (by decide +kernel), List.mem_of_getElem? (i := 1752) (by decide +kernel)⟩
theorem lw_p103 : lw_okq (⟨"BranchedTextModel", "groups", "()I"⟩, 48) := ⟨⟨by decide +kernel, by decide +kernel⟩, List.mem_of_getElem? (i := 1225) (by decide +kernel), List.mem_of_getElem? (i := 1755) (by decide +kernel), List.mem_of_getElem? (i := 1756) (by decide +kernel)⟩
theorem lw_p104 : lw_okq (⟨"BranchedTextModel", "gone", "()I"⟩, 48) := ⟨⟨by decide +kernel, by decide +kernel⟩, List.mem_of_getElem? (i := 1225) (by decide +kernel), List.mem_of_getElem? (i := 1759) (by decide +kernel), List.mem_of_getElem? (i := 1760) (by decide +kernel)⟩
theorem lw_p105 : lw_okq (⟨"BranchedTextModel", "letterIn", "(I)I"⟩, 48) := ⟨⟨by decide +kernel, by decide +kernel⟩, List.mem_of_getElem? (i := 1225) (by decide +kernel), List.mem_of_getElem? (i := 1767) (by decide +kernel), List.mem_of_getElem? (i := 1768) (by decide +kernel)⟩
theorem lw_p106 : lw_okq (⟨"BranchedTextModel", "cutsOf", "(IIZ)I"⟩, 48) := ⟨⟨by decide +kernel, by decide +kernel⟩, List.mem_of_getElem? (i := 1225) (by decide +kernel), List.mem_of_getElem? (i := 1791) (by decide +kernel), List.mem_of_getElem? (i := 1792) (by decide +kernel)⟩
theorem lw_p107 : lw_okq (⟨"BranchedTextModel", "hand", "()V"⟩, 48) := ⟨⟨by decide +kernel, by decide +kernel⟩, List.mem_of_getElem? (i := 1225) (by decide +kernel), List.mem_of_getElem? (i := 1811) (by decide +kernel), List.mem_of_getElem? (i := 1812) (by decide +kernel)⟩
theorem lw_p108 : lw_okq (⟨"BranchedTextModel", "differ", "(II)I"⟩, 48) := ⟨⟨by decide +kernel, by decide +kernel⟩, List.mem_of_getElem? (i := 1225) (by decide +kernel), List.mem_of_getElem? (i := 1875) (by decide +kernel), List.mem_of_getElem? (i := 1876) (by decide +kernel)⟩
theorem lw_p109 : lw_okq (⟨"BranchedTextModel", "copies", "(I[I)I"⟩, 48) := ⟨⟨by decide +kernel, by decide +kernel⟩, List.mem_of_getElem? (i := 1225) (by decide +kernel), List.mem_of_getElem? (i := 1879) (by decide +kernel), List.mem_of_getElem? (i := 1880) (by decide +kernel)⟩
theorem lw_p110 : lw_okq (⟨"BranchedTextModel", "keptOf", "(II)I"⟩, 48) := ⟨⟨by decide +kernel, by decide +kernel⟩, List.mem_of_getElem? (i := 1225) (by decide +kernel), List.mem_of_getElem? (i := 1883) (by decide +kernel), List.mem_of_getElem? (i := 1884) (by decide +kernel)⟩
theorem lw_p111 : lw_okq (⟨"BranchedTextModel", "keysOf", "(I)I"⟩, 48) := ⟨⟨by decide +kernel, by decide +kernel⟩, List.mem_of_getElem? (i := 1225) (by decide +kernel), List.mem_of_getElem? (i := 1887) (by decide +kernel), List.mem_of_getElem? (i := 1888) (by decide +kernel)⟩
def lw_privs_7 : List (MethodName × Nat) := [(⟨"BranchedTextModel", "isTaken", "(II)Z"⟩, 48), (⟨"BranchedTextModel", "mergeNow", "(I)I"⟩, 48), (⟨"BranchedTextModel", "pruneNow", "(I)I"⟩, 48), (⟨"BranchedTextModel", "firstOut", "()I"⟩, 48), (⟨"BranchedTextModel", "childrenOf", "(I)I"⟩, 48), (⟨"BranchedTextModel", "namesOf", "(I)I"⟩, 48), (⟨"BranchedTextModel", "leaves", "()I"⟩, 48), (⟨"BranchedTextModel", "groups", "()I"⟩, 48), (⟨"BranchedTextModel", "gone", "()I"⟩, 48), (⟨"BranchedTextModel", "letterIn", "(I)I"⟩, 48), (⟨"BranchedTextModel", "cutsOf", "(IIZ)I"⟩, 48), (⟨"BranchedTextModel", "hand", "()V"⟩, 48), (⟨"BranchedTextModel", "differ", "(II)I"⟩, 48), (⟨"BranchedTextModel", "copies", "(I[I)I"⟩, 48), (⟨"BranchedTextModel", "keptOf", "(II)I"⟩, 48), (⟨"BranchedTextModel", "keysOf", "(I)I"⟩, 48)]
theorem lw_r7 : ∀ q ∈ lw_privs_7, lw_okq q := List.forall_mem_cons.mpr ⟨lw_p96, List.forall_mem_cons.mpr ⟨lw_p97, List.forall_mem_cons.mpr ⟨lw_p98, List.forall_mem_cons.mpr ⟨lw_p99, List.forall_mem_cons.mpr ⟨lw_p100, List.forall_mem_cons.mpr ⟨lw_p101, List.forall_mem_cons.mpr ⟨lw_p102, List.forall_mem_cons.mpr ⟨lw_p103, List.forall_mem_cons.mpr ⟨lw_p104, List.forall_mem_cons.mpr ⟨lw_p105, List.forall_mem_cons.mpr ⟨lw_p106, List.forall_mem_cons.mpr ⟨lw_p107, List.forall_mem_cons.mpr ⟨lw_p108, List.forall_mem_cons.mpr ⟨lw_p109, List.forall_mem_cons.mpr ⟨lw_p110, List.forall_mem_cons.mpr ⟨lw_p111, fun _ h => absurd h List.not_mem_nil⟩⟩⟩⟩⟩⟩⟩⟩⟩⟩⟩⟩⟩⟩⟩⟩
theorem lw_p112 : lw_okq (⟨"BranchedTextModel", "tells", "(I)V"⟩, 48) := ⟨⟨by decide +kernel, by decide +kernel⟩, List.mem_of_getElem? (i := 1225) (by decide +kernel), List.mem_of_getElem? (i := 1903) (by decide +kernel), List.mem_of_getElem? (i := 1904) (by decide +kernel)⟩
theorem lw_p113 : lw_okq (⟨"BranchedTextModel", "tellsNumber", "(I)V"⟩, 48) := ⟨⟨by decide +kernel, by decide +kernel⟩, List.mem_of_getElem? (i := 1225) (by decide +kernel), List.mem_of_getElem? (i := 1907) (by decide +kernel), List.mem_of_getElem? (i := 1908) (by decide +kernel)⟩
theorem lw_p114 : lw_okq (⟨"BranchedTextModel", "tellsNames", "()V"⟩, 48) := ⟨⟨by decide +kernel, by decide +kernel⟩, List.mem_of_getElem? (i := 1225) (by decide +kernel), List.mem_of_getElem? (i := 1911) (by decide +kernel), List.mem_of_getElem? (i := 1912) (by decide +kernel)⟩
theorem lw_p115 : lw_okq (⟨"BranchedTextModel", "placeIn", "(I)I"⟩, 48) := ⟨⟨by decide +kernel, by decide +kernel⟩, List.mem_of_getElem? (i := 1225) (by decide +kernel), List.mem_of_getElem? (i := 1927) (by decide +kernel), List.mem_of_getElem? (i := 1928) (by decide +kernel)⟩
def lw_privs_8 : List (MethodName × Nat) := [(⟨"BranchedTextModel", "tells", "(I)V"⟩, 48), (⟨"BranchedTextModel", "tellsNumber", "(I)V"⟩, 48), (⟨"BranchedTextModel", "tellsNames", "()V"⟩, 48), (⟨"BranchedTextModel", "placeIn", "(I)I"⟩, 48)]
theorem lw_r8 : ∀ q ∈ lw_privs_8, lw_okq q := List.forall_mem_cons.mpr ⟨lw_p112, List.forall_mem_cons.mpr ⟨lw_p113, List.forall_mem_cons.mpr ⟨lw_p114, List.forall_mem_cons.mpr ⟨lw_p115, fun _ h => absurd h List.not_mem_nil⟩⟩⟩⟩
def lw_privs : List (MethodName × Nat) := lw_privs_1 ++ (lw_privs_2 ++ (lw_privs_3 ++ (lw_privs_4 ++ (lw_privs_5 ++ (lw_privs_6 ++ (lw_privs_7 ++ (lw_privs_8)))))))
def lw_tbl : List Cond := k2_sels lw_privs ++ tables_1
theorem lw_privs_ok : ∀ q ∈ lw_privs, lw_okq q := by
  show ∀ q ∈ lw_privs_1 ++ (lw_privs_2 ++ (lw_privs_3 ++ (lw_privs_4 ++ (lw_privs_5 ++ (lw_privs_6 ++ (lw_privs_7 ++ (lw_privs_8))))))), lw_okq q
  exact List.forall_mem_append.mpr ⟨lw_r1, List.forall_mem_append.mpr ⟨lw_r2, List.forall_mem_append.mpr ⟨lw_r3, List.forall_mem_append.mpr ⟨lw_r4, List.forall_mem_append.mpr ⟨lw_r5, List.forall_mem_append.mpr ⟨lw_r6, List.forall_mem_append.mpr ⟨lw_r7, lw_r8⟩⟩⟩⟩⟩⟩⟩
-- ===== end of PART A; then your names; then what follows =====
def RX0 : String := "BranchedText$History"
def TX0 : u_T := fun k => match k with
  | 0 => ("BranchedText$History", "start", "LBranchedText$State;", true)
  | 1 => ("BranchedText$History", "states", "[LBranchedText$State;", true)
  | 2 => ("BranchedText$History", "glyphs", "[I", true)
  | 3 => ("BranchedText$History", "stands", "[I", true)
  | 4 => ("BranchedText$History", "lengths", "[I", true)
  | 5 => ("BranchedText$History", "row", "LBranchedText$Row;", true)
  | 6 => ("BranchedText$History", "names", "LBranchedText$Names;", true)
  | 7 => ("BranchedText$History", "visits", "LBranchedText$Visits;", true)
  | 8 => ("BranchedText$History", "join", "LBranchedText$JoinTest;", true)
  | 9 => ("BranchedText$History", "carried", "LBranchedText$Word;", true)
  | 10 => ("BranchedText$History", "here", "LBranchedText$State;", false)
  | 11 => ("BranchedText$History", "now", "I", false)
  | 12 => ("BranchedText$History", "count", "I", false)
  | _ => ("BranchedText$History", "leftOut", "I", false)
def tyX0 : Nat → FieldType := fun k => match k with
  | 0 => .object "BranchedText$State"
  | 1 => .array (.object "BranchedText$State")
  | 2 => .array .int
  | 3 => .array .int
  | 4 => .array .int
  | 5 => .object "BranchedText$Row"
  | 6 => .object "BranchedText$Names"
  | 7 => .object "BranchedText$Visits"
  | 8 => .object "BranchedText$JoinTest"
  | 9 => .object "BranchedText$Word"
  | 10 => .object "BranchedText$State"
  | 11 => .int
  | 12 => .int
  | _ => .int
abbrev wsX00 : List Cond := u_ws RX0 TX0 14
def RX1 : String := "BranchedText$JoinTest"
def TX1 : u_T := fun k => match k with
  | 0 => ("BranchedText$JoinTest", "steps", "[I", true)
  | 1 => ("BranchedText$JoinTest", "numbers", "[I", true)
  | 2 => ("BranchedText$JoinTest", "values", "[I", true)
  | _ => ("BranchedText$JoinTest", "size", "I", false)
def tyX1 : Nat → FieldType := fun k => match k with
  | 0 => .array .int
  | 1 => .array .int
  | 2 => .array .int
  | _ => .int
abbrev wsX10 : List Cond := u_ws RX1 TX1 4
def RX2 : String := "BranchedText$Names"
def TX2 : u_T := fun k => match k with
  | 0 => ("BranchedText$Names", "keys", "[I", true)
  | 1 => ("BranchedText$Names", "owners", "[I", true)
  | _ => ("BranchedText$Names", "size", "I", false)
def tyX2 : Nat → FieldType := fun k => match k with
  | 0 => .array .int
  | 1 => .array .int
  | _ => .int
abbrev wsX20 : List Cond := u_ws RX2 TX2 3
def RX3 : String := "BranchedText$Reader"
def TX3 : u_T := fun k => match k with
  | 0 => ("BranchedText$Reader", "tape", "[I", true)
  | 1 => ("BranchedText$Reader", "word", "LBranchedText$Word;", true)
  | 2 => ("BranchedText$Reader", "tapeSize", "I", false)
  | 3 => ("BranchedText$Reader", "length", "I", false)
  | 4 => ("BranchedText$Reader", "kind", "I", false)
  | 5 => ("BranchedText$Reader", "from", "I", false)
  | 6 => ("BranchedText$Reader", "end", "I", false)
  | 7 => ("BranchedText$Reader", "value", "I", false)
  | 8 => ("BranchedText$Reader", "fault", "I", false)
  | 9 => ("BranchedText$Reader", "faultPlace", "I", false)
  | 10 => ("BranchedText$Reader", "verb", "I", false)
  | 11 => ("BranchedText$Reader", "one", "I", false)
  | _ => ("BranchedText$Reader", "two", "I", false)
def tyX3 : Nat → FieldType := fun k => match k with
  | 0 => .array .int
  | 1 => .object "BranchedText$Word"
  | 2 => .int
  | 3 => .int
  | 4 => .int
  | 5 => .int
  | 6 => .int
  | 7 => .int
  | 8 => .int
  | 9 => .int
  | 10 => .int
  | 11 => .int
  | _ => .int
abbrev wsX30 : List Cond := u_ws RX3 TX3 13
def RX4 : String := "BranchedText$Row"
def TX4 : u_T := fun k => match k with
  | 0 => ("BranchedText$Row", "path", "[LBranchedText$State;", true)
  | 1 => ("BranchedText$Row", "ids", "[I", true)
  | 2 => ("BranchedText$Row", "sees", "[Z", true)
  | 3 => ("BranchedText$Row", "gone", "[Z", true)
  | 4 => ("BranchedText$Row", "next", "[I", true)
  | 5 => ("BranchedText$Row", "length", "I", false)
  | 6 => ("BranchedText$Row", "size", "I", false)
  | 7 => ("BranchedText$Row", "seen", "I", false)
  | 8 => ("BranchedText$Row", "acts", "J", false)
  | _ => ("BranchedText$Row", "force", "J", false)
def tyX4 : Nat → FieldType := fun k => match k with
  | 0 => .array (.object "BranchedText$State")
  | 1 => .array .int
  | 2 => .array .boolean
  | 3 => .array .boolean
  | 4 => .array .int
  | 5 => .int
  | 6 => .int
  | 7 => .int
  | 8 => .long
  | _ => .long
abbrev wsX40 : List Cond := u_ws RX4 TX4 10
def RX5 : String := "BranchedText$State"
def TX5 : u_T := fun k => match k with
  | 0 => ("BranchedText$State", "number", "I", true)
  | 1 => ("BranchedText$State", "took", "[I", true)
  | 2 => ("BranchedText$State", "document", "[I", true)
  | 3 => ("BranchedText$State", "there", "Z", false)
  | 4 => ("BranchedText$State", "parent", "LBranchedText$State;", false)
  | 5 => ("BranchedText$State", "first", "LBranchedText$State;", false)
  | 6 => ("BranchedText$State", "act", "I", false)
  | 7 => ("BranchedText$State", "time", "I", false)
  | 8 => ("BranchedText$State", "place", "I", false)
  | 9 => ("BranchedText$State", "size", "I", false)
  | 10 => ("BranchedText$State", "depth", "I", false)
  | 11 => ("BranchedText$State", "children", "I", false)
  | 12 => ("BranchedText$State", "letters", "I", false)
  | 13 => ("BranchedText$State", "visited", "I", false)
  | 14 => ("BranchedText$State", "newest", "I", false)
  | 15 => ("BranchedText$State", "anchor", "I", false)
  | 16 => ("BranchedText$State", "named", "J", false)
  | _ => ("BranchedText$State", "base", "J", false)
def tyX5 : Nat → FieldType := fun k => match k with
  | 0 => .int
  | 1 => .array .int
  | 2 => .array .int
  | 3 => .boolean
  | 4 => .object "BranchedText$State"
  | 5 => .object "BranchedText$State"
  | 6 => .int
  | 7 => .int
  | 8 => .int
  | 9 => .int
  | 10 => .int
  | 11 => .int
  | 12 => .int
  | 13 => .int
  | 14 => .int
  | 15 => .int
  | 16 => .long
  | _ => .long
abbrev wsX50 : List Cond := u_ws RX5 TX5 18
def RX6 : String := "BranchedText$Visits"
def TX6 : u_T := fun k => match k with
  | 0 => ("BranchedText$Visits", "states", "[I", true)
  | 1 => ("BranchedText$Visits", "times", "[I", true)
  | 2 => ("BranchedText$Visits", "keptStates", "[I", true)
  | 3 => ("BranchedText$Visits", "keptTimes", "[I", true)
  | 4 => ("BranchedText$Visits", "count", "I", false)
  | _ => ("BranchedText$Visits", "keptCount", "I", false)
def tyX6 : Nat → FieldType := fun k => match k with
  | 0 => .array .int
  | 1 => .array .int
  | 2 => .array .int
  | 3 => .array .int
  | 4 => .int
  | _ => .int
abbrev wsX60 : List Cond := u_ws RX6 TX6 6
def RX7 : String := "BranchedText$Word"
def TX7 : u_T := fun k => match k with
  | 0 => ("BranchedText$Word", "letters", "[I", true)
  | _ => ("BranchedText$Word", "size", "I", false)
def tyX7 : Nat → FieldType := fun k => match k with
  | 0 => .array .int
  | _ => .int
abbrev wsX70 : List Cond := u_ws RX7 TX7 2
def RX8 : String := "BranchedText"
def TX8 : u_T := fun k => match k with
  | 0 => ("BranchedText", "told", "[I", true)
  | 1 => ("BranchedText", "typed", "LBranchedText$Word;", true)
  | 2 => ("BranchedText", "reader", "LBranchedText$Reader;", true)
  | 3 => ("BranchedText", "history", "LBranchedText$History;", false)
  | 4 => ("BranchedText", "spare", "LBranchedText$History;", false)
  | 5 => ("BranchedText", "toldSize", "I", false)
  | 6 => ("BranchedText", "status", "I", false)
  | _ => ("BranchedText", "loaded", "Z", false)
def tyX8 : Nat → FieldType := fun k => match k with
  | 0 => .array .int
  | 1 => .object "BranchedText$Word"
  | 2 => .object "BranchedText$Reader"
  | 3 => .object "BranchedText$History"
  | 4 => .object "BranchedText$History"
  | 5 => .int
  | 6 => .int
  | _ => .boolean
abbrev wsX80 : List Cond := u_ws RX8 TX8 8
def RX9 : String := "BranchedTextModel"
def TX9 : u_T := fun k => match k with
  | 0 => ("BranchedTextModel", "c", "[I", true)
  | 1 => ("BranchedTextModel", "whole", "[I", true)
  | 2 => ("BranchedTextModel", "paper", "[I", true)
  | 3 => ("BranchedTextModel", "status", "I", false)
  | 4 => ("BranchedTextModel", "thrown", "I", false)
  | 5 => ("BranchedTextModel", "line", "[I", true)
  | 6 => ("BranchedTextModel", "rowBy", "[I", true)
  | 7 => ("BranchedTextModel", "rowAt", "[I", true)
  | 8 => ("BranchedTextModel", "force", "[Z", true)
  | 9 => ("BranchedTextModel", "seen", "[Z", true)
  | 10 => ("BranchedTextModel", "lineMany", "I", false)
  | 11 => ("BranchedTextModel", "rowMany", "I", false)
  | 12 => ("BranchedTextModel", "seenMany", "I", false)
  | 13 => ("BranchedTextModel", "doc", "[I", true)
  | 14 => ("BranchedTextModel", "other", "[I", true)
  | 15 => ("BranchedTextModel", "facts", "[I", true)
  | 16 => ("BranchedTextModel", "stack", "[Z", true)
  | 17 => ("BranchedTextModel", "word", "[I", true)
  | 18 => ("BranchedTextModel", "typed", "[I", true)
  | 19 => ("BranchedTextModel", "wordMany", "I", false)
  | 20 => ("BranchedTextModel", "typedMany", "I", false)
  | 21 => ("BranchedTextModel", "standsFor", "[I", true)
  | 22 => ("BranchedTextModel", "merged", "[I", true)
  | 23 => ("BranchedTextModel", "inForce", "[Z", true)
  | 24 => ("BranchedTextModel", "leftOut", "I", false)
  | 25 => ("BranchedTextModel", "marked", "[Z", true)
  | 26 => ("BranchedTextModel", "tape", "[B", true)
  | 27 => ("BranchedTextModel", "taped", "I", false)
  | 28 => ("BranchedTextModel", "faultKind", "I", false)
  | 29 => ("BranchedTextModel", "faultAt", "I", false)
  | 30 => ("BranchedTextModel", "wrong", "I", false)
  | 31 => ("BranchedTextModel", "wrongAt", "I", false)
  | 32 => ("BranchedTextModel", "at", "I", false)
  | 33 => ("BranchedTextModel", "next", "I", false)
  | 34 => ("BranchedTextModel", "sort", "I", false)
  | 35 => ("BranchedTextModel", "number", "I", false)
  | 36 => ("BranchedTextModel", "end", "I", false)
  | 37 => ("BranchedTextModel", "deep", "I", false)
  | 38 => ("BranchedTextModel", "key", "J", false)
  | 39 => ("BranchedTextModel", "lines", "[J", true)
  | 40 => ("BranchedTextModel", "others", "[J", true)
  | 41 => ("BranchedTextModel", "values", "[J", true)
  | 42 => ("BranchedTextModel", "first", "I", false)
  | 43 => ("BranchedTextModel", "second", "I", false)
  | 44 => ("BranchedTextModel", "keys", "[I", true)
  | 45 => ("BranchedTextModel", "common", "[I", true)
  | 46 => ("BranchedTextModel", "out", "[I", true)
  | _ => ("BranchedTextModel", "outMany", "I", false)
def tyX9 : Nat → FieldType := fun k => match k with
  | 0 => .array .int
  | 1 => .array .int
  | 2 => .array .int
  | 3 => .int
  | 4 => .int
  | 5 => .array .int
  | 6 => .array .int
  | 7 => .array .int
  | 8 => .array .boolean
  | 9 => .array .boolean
  | 10 => .int
  | 11 => .int
  | 12 => .int
  | 13 => .array .int
  | 14 => .array .int
  | 15 => .array .int
  | 16 => .array .boolean
  | 17 => .array .int
  | 18 => .array .int
  | 19 => .int
  | 20 => .int
  | 21 => .array .int
  | 22 => .array .int
  | 23 => .array .boolean
  | 24 => .int
  | 25 => .array .boolean
  | 26 => .array .byte
  | 27 => .int
  | 28 => .int
  | 29 => .int
  | 30 => .int
  | 31 => .int
  | 32 => .int
  | 33 => .int
  | 34 => .int
  | 35 => .int
  | 36 => .int
  | 37 => .int
  | 38 => .long
  | 39 => .array .long
  | 40 => .array .long
  | 41 => .array .long
  | 42 => .int
  | 43 => .int
  | 44 => .array .int
  | 45 => .array .int
  | 46 => .array .int
  | _ => .int
abbrev wsX90 : List Cond := u_ws RX9 TX9 48
abbrev vwCl : List vw_C := [(RX0, TX0, 14), (RX1, TX1, 4), (RX2, TX2, 3), (RX3, TX3, 13), (RX4, TX4, 10), (RX5, TX5, 18), (RX6, TX6, 6), (RX7, TX7, 2), (RX8, TX8, 8), (RX9, TX9, 48)]
theorem nmX0 : ∀ a, a < 14 → ∀ b, b < 14 → a ≠ b → (TX0 a).2.1 ≠ (TX0 b).2.1 := by decide +kernel
theorem tyX0_ok : ∀ k, k < 14 → parseFieldDescriptor (TX0 k).2.2.1 = some (tyX0 k) := by decide +kernel
theorem tpX0 : wsX00 = [363, 365, 367, 369, 371, 373, 375, 377, 379, 381, 383, 385, 387, 389].filterMap (fun i => tables_1[i]?) := by decide +kernel
theorem inX0 : ∀ w ∈ wsX00, w ∈ lw_tbl := by
  intro w hw
  rw [tpX0] at hw
  obtain ⟨i, -, hi⟩ := List.mem_filterMap.mp hw
  exact List.mem_append_right _ (List.mem_of_getElem? hi)
theorem nmX1 : ∀ a, a < 4 → ∀ b, b < 4 → a ≠ b → (TX1 a).2.1 ≠ (TX1 b).2.1 := by decide +kernel
theorem tyX1_ok : ∀ k, k < 4 → parseFieldDescriptor (TX1 k).2.2.1 = some (tyX1 k) := by decide +kernel
theorem tpX1 : wsX10 = [307, 309, 311, 313].filterMap (fun i => tables_1[i]?) := by decide +kernel
theorem inX1 : ∀ w ∈ wsX10, w ∈ lw_tbl := by
  intro w hw
  rw [tpX1] at hw
  obtain ⟨i, -, hi⟩ := List.mem_filterMap.mp hw
  exact List.mem_append_right _ (List.mem_of_getElem? hi)
theorem nmX2 : ∀ a, a < 3 → ∀ b, b < 3 → a ≠ b → (TX2 a).2.1 ≠ (TX2 b).2.1 := by decide +kernel
theorem tyX2_ok : ∀ k, k < 3 → parseFieldDescriptor (TX2 k).2.2.1 = some (tyX2 k) := by decide +kernel
theorem tpX2 : wsX20 = [263, 265, 267].filterMap (fun i => tables_1[i]?) := by decide +kernel
theorem inX2 : ∀ w ∈ wsX20, w ∈ lw_tbl := by
  intro w hw
  rw [tpX2] at hw
  obtain ⟨i, -, hi⟩ := List.mem_filterMap.mp hw
  exact List.mem_append_right _ (List.mem_of_getElem? hi)
theorem nmX3 : ∀ a, a < 13 → ∀ b, b < 13 → a ≠ b → (TX3 a).2.1 ≠ (TX3 b).2.1 := by decide +kernel
theorem tyX3_ok : ∀ k, k < 13 → parseFieldDescriptor (TX3 k).2.2.1 = some (tyX3 k) := by decide +kernel
theorem tpX3 : wsX30 = [71, 73, 75, 77, 79, 81, 83, 85, 87, 89, 91, 93, 95].filterMap (fun i => tables_1[i]?) := by decide +kernel
theorem inX3 : ∀ w ∈ wsX30, w ∈ lw_tbl := by
  intro w hw
  rw [tpX3] at hw
  obtain ⟨i, -, hi⟩ := List.mem_filterMap.mp hw
  exact List.mem_append_right _ (List.mem_of_getElem? hi)
theorem nmX4 : ∀ a, a < 10 → ∀ b, b < 10 → a ≠ b → (TX4 a).2.1 ≠ (TX4 b).2.1 := by decide +kernel
theorem tyX4_ok : ∀ k, k < 10 → parseFieldDescriptor (TX4 k).2.2.1 = some (tyX4 k) := by decide +kernel
theorem tpX4 : wsX40 = [230, 232, 234, 236, 238, 240, 242, 244, 246, 248].filterMap (fun i => tables_1[i]?) := by decide +kernel
theorem inX4 : ∀ w ∈ wsX40, w ∈ lw_tbl := by
  intro w hw
  rw [tpX4] at hw
  obtain ⟨i, -, hi⟩ := List.mem_filterMap.mp hw
  exact List.mem_append_right _ (List.mem_of_getElem? hi)
theorem nmX5 : ∀ a, a < 18 → ∀ b, b < 18 → a ≠ b → (TX5 a).2.1 ≠ (TX5 b).2.1 := by decide +kernel
theorem tyX5_ok : ∀ k, k < 18 → parseFieldDescriptor (TX5 k).2.2.1 = some (tyX5 k) := by decide +kernel
theorem tpX5 : wsX50 = [166, 168, 170, 172, 174, 176, 178, 180, 182, 184, 186, 188, 190, 192, 194, 196, 198, 200].filterMap (fun i => tables_1[i]?) := by decide +kernel
theorem inX5 : ∀ w ∈ wsX50, w ∈ lw_tbl := by
  intro w hw
  rw [tpX5] at hw
  obtain ⟨i, -, hi⟩ := List.mem_filterMap.mp hw
  exact List.mem_append_right _ (List.mem_of_getElem? hi)
theorem nmX6 : ∀ a, a < 6 → ∀ b, b < 6 → a ≠ b → (TX6 a).2.1 ≠ (TX6 b).2.1 := by decide +kernel
theorem tyX6_ok : ∀ k, k < 6 → parseFieldDescriptor (TX6 k).2.2.1 = some (tyX6 k) := by decide +kernel
theorem tpX6 : wsX60 = [284, 286, 288, 290, 292, 294].filterMap (fun i => tables_1[i]?) := by decide +kernel
theorem inX6 : ∀ w ∈ wsX60, w ∈ lw_tbl := by
  intro w hw
  rw [tpX6] at hw
  obtain ⟨i, -, hi⟩ := List.mem_filterMap.mp hw
  exact List.mem_append_right _ (List.mem_of_getElem? hi)
theorem nmX7 : ∀ a, a < 2 → ∀ b, b < 2 → a ≠ b → (TX7 a).2.1 ≠ (TX7 b).2.1 := by decide +kernel
theorem tyX7_ok : ∀ k, k < 2 → parseFieldDescriptor (TX7 k).2.2.1 = some (tyX7 k) := by decide +kernel
theorem tpX7 : wsX70 = [37, 39].filterMap (fun i => tables_1[i]?) := by decide +kernel
theorem inX7 : ∀ w ∈ wsX70, w ∈ lw_tbl := by
  intro w hw
  rw [tpX7] at hw
  obtain ⟨i, -, hi⟩ := List.mem_filterMap.mp hw
  exact List.mem_append_right _ (List.mem_of_getElem? hi)
theorem nmX8 : ∀ a, a < 8 → ∀ b, b < 8 → a ≠ b → (TX8 a).2.1 ≠ (TX8 b).2.1 := by decide +kernel
theorem tyX8_ok : ∀ k, k < 8 → parseFieldDescriptor (TX8 k).2.2.1 = some (tyX8 k) := by decide +kernel
theorem tpX8 : wsX80 = [400, 402, 404, 406, 408, 410, 412, 414].filterMap (fun i => tables_1[i]?) := by decide +kernel
theorem inX8 : ∀ w ∈ wsX80, w ∈ lw_tbl := by
  intro w hw
  rw [tpX8] at hw
  obtain ⟨i, -, hi⟩ := List.mem_filterMap.mp hw
  exact List.mem_append_right _ (List.mem_of_getElem? hi)
theorem nmX9 : ∀ a, a < 48 → ∀ b, b < 48 → a ≠ b → (TX9 a).2.1 ≠ (TX9 b).2.1 := by decide +kernel
theorem tyX9_ok : ∀ k, k < 48 → parseFieldDescriptor (TX9 k).2.2.1 = some (tyX9 k) := by decide +kernel
theorem tpX9 : wsX90 = [1309, 1311, 1313, 1315, 1317, 1319, 1321, 1323, 1325, 1327, 1329, 1331, 1333, 1335, 1337, 1339, 1341, 1343, 1345, 1347, 1349, 1351, 1353, 1355, 1357, 1359, 1361, 1363, 1365, 1367, 1369, 1371, 1373, 1375, 1377, 1379, 1381, 1383, 1385, 1387, 1389, 1391, 1393, 1395, 1397, 1399, 1401, 1403].filterMap (fun i => tables_1[i]?) := by decide +kernel
theorem inX9 : ∀ w ∈ wsX90, w ∈ lw_tbl := by
  intro w hw
  rw [tpX9] at hw
  obtain ⟨i, -, hi⟩ := List.mem_filterMap.mp hw
  exact List.mem_append_right _ (List.mem_of_getElem? hi)
end
section
/-! the fields' kinds (0 int, 1 boolean, 2 long, 3 reference), class by class; the cells that the law makes, in order (0 none, 1 an object of a class, 2 ints, 3 booleans, 4 bytes, 5 longs, 6 States) -/
def zv_fts : List (List Nat) := [[3, 3, 3, 3, 3, 3, 3, 3, 3, 3, 3, 0, 0, 0], [3, 3, 3, 0], [3, 3, 0], [3, 3, 0, 0, 0, 0, 0, 0, 0, 0, 0, 0, 0], [3, 3, 3, 3, 3, 0, 0, 0, 2, 2], [0, 3, 3, 1, 3, 3, 0, 0, 0, 0, 0, 0, 0, 0, 0, 0, 2, 2], [3, 3, 3, 3, 0, 0], [3, 0], [3, 3, 3, 3, 3, 0, 0, 1], [3, 3, 3, 0, 0, 3, 3, 3, 3, 3, 0, 0, 0, 3, 3, 3, 3, 3, 3, 0, 0, 3, 3, 3, 0, 3, 3, 0, 0, 0, 0, 0, 0, 0, 0, 0, 0, 0, 2, 3, 3, 3, 0, 0, 3, 3, 3, 0], [5, 4]]
def zv_layL : List (Nat × Nat) := [(0, 0), (1, 8), (2, 160), (1, 7), (2, 40), (1, 3), (2, 700), (1, 7), (2, 40), (1, 0), (1, 5), (2, 12), (2, 120), (6, 48), (2, 604), (2, 48), (2, 121), (1, 4), (6, 48), (2, 604), (3, 604), (3, 604), (2, 605), (1, 2), (2, 12), (2, 12), (1, 6), (2, 40), (2, 40), (2, 40), (2, 40), (1, 1), (2, 176), (2, 176), (2, 6), (1, 7), (2, 40), (1, 5), (2, 12), (2, 120), (1, 5), (2, 12), (2, 120), (1, 5), (2, 12), (2, 120), (1, 5), (2, 12), (2, 120), (1, 5), (2, 12), (2, 120), (1, 5), (2, 12), (2, 120), (1, 5), (2, 12), (2, 120), (1, 5), (2, 12), (2, 120), (1, 5), (2, 12), (2, 120), (1, 5), (2, 12), (2, 120), (1, 5), (2, 12), (2, 120), (1, 5), (2, 12), (2, 120), (1, 5), (2, 12), (2, 120), (1, 5), (2, 12), (2, 120), (1, 5), (2, 12), (2, 120), (1, 5), (2, 12), (2, 120), (1, 5), (2, 12), (2, 120), (1, 5), (2, 12), (2, 120), (1, 5), (2, 12), (2, 120), (1, 5), (2, 12), (2, 120), (1, 5), (2, 12), (2, 120), (1, 5), (2, 12), (2, 120), (1, 5), (2, 12), (2, 120), (1, 5), (2, 12), (2, 120), (1, 5), (2, 12), (2, 120), (1, 5), (2, 12), (2, 120), (1, 5), (2, 12), (2, 120), (1, 5), (2, 12), (2, 120), (1, 5), (2, 12), (2, 120), (1, 5), (2, 12), (2, 120), (1, 5), (2, 12), (2, 120), (1, 5), (2, 12), (2, 120), (1, 5), (2, 12), (2, 120), (1, 5), (2, 12), (2, 120), (1, 5), (2, 12), (2, 120), (1, 5), (2, 12), (2, 120), (1, 5), (2, 12), (2, 120), (1, 5), (2, 12), (2, 120), (1, 5), (2, 12), (2, 120), (1, 5), (2, 12), (2, 120), (1, 5), (2, 12), (2, 120), (1, 5), (2, 12), (2, 120), (1, 5), (2, 12), (2, 120), (1, 5), (2, 12), (2, 120), (1, 5), (2, 12), (2, 120), (1, 5), (2, 12), (2, 120), (1, 5), (2, 12), (2, 120), (1, 0), (1, 5), (2, 12), (2, 120), (6, 48), (2, 604), (2, 48), (2, 121), (1, 4), (6, 48), (2, 604), (3, 604), (3, 604), (2, 605), (1, 2), (2, 12), (2, 12), (1, 6), (2, 40), (2, 40), (2, 40), (2, 40), (1, 1), (2, 176), (2, 176), (2, 6), (1, 7), (2, 40), (1, 5), (2, 12), (2, 120), (1, 5), (2, 12), (2, 120), (1, 5), (2, 12), (2, 120), (1, 5), (2, 12), (2, 120), (1, 5), (2, 12), (2, 120), (1, 5), (2, 12), (2, 120), (1, 5), (2, 12), (2, 120), (1, 5), (2, 12), (2, 120), (1, 5), (2, 12), (2, 120), (1, 5), (2, 12), (2, 120), (1, 5), (2, 12), (2, 120), (1, 5), (2, 12), (2, 120), (1, 5), (2, 12), (2, 120), (1, 5), (2, 12), (2, 120), (1, 5), (2, 12), (2, 120), (1, 5), (2, 12), (2, 120), (1, 5), (2, 12), (2, 120), (1, 5), (2, 12), (2, 120), (1, 5), (2, 12), (2, 120), (1, 5), (2, 12), (2, 120), (1, 5), (2, 12), (2, 120), (1, 5), (2, 12), (2, 120), (1, 5), (2, 12), (2, 120), (1, 5), (2, 12), (2, 120), (1, 5), (2, 12), (2, 120), (1, 5), (2, 12), (2, 120), (1, 5), (2, 12), (2, 120), (1, 5), (2, 12), (2, 120), (1, 5), (2, 12), (2, 120), (1, 5), (2, 12), (2, 120), (1, 5), (2, 12), (2, 120), (1, 5), (2, 12), (2, 120), (1, 5), (2, 12), (2, 120), (1, 5), (2, 12), (2, 120), (1, 5), (2, 12), (2, 120), (1, 5), (2, 12), (2, 120), (1, 5), (2, 12), (2, 120), (1, 5), (2, 12), (2, 120), (1, 5), (2, 12), (2, 120), (1, 5), (2, 12), (2, 120), (1, 5), (2, 12), (2, 120), (1, 5), (2, 12), (2, 120), (1, 5), (2, 12), (2, 120), (1, 5), (2, 12), (2, 120), (1, 5), (2, 12), (2, 120), (1, 5), (2, 12), (2, 120), (1, 5), (2, 12), (2, 120), (1, 9), (2, 4236), (2, 4236), (2, 4236), (2, 49), (2, 640), (2, 640), (3, 49), (3, 640), (2, 640), (2, 640), (2, 6), (3, 400), (2, 700), (2, 12), (2, 48), (2, 49), (3, 49), (3, 49), (4, 700), (5, 12), (5, 5), (5, 6), (2, 640), (2, 14641), (2, 200)]
def zv_lay (r : Nat) : Nat × Nat := zv_layL.getD r (0, 0)
end
section
/-! A small machine: ints as Int (kept within 32 bits), longs as Int64, references as numbers (0 null, r the r-th cell made since the law began, from 1000000 on: what stood there before). -/
abbrev zv_V : Type := Int ⊕ (Int64 ⊕ Nat)
abbrev zv_i (x : Int) : zv_V := Sum.inl x
abbrev zv_j (x : Int64) : zv_V := Sum.inr (Sum.inl x)
abbrev zv_r (x : Nat) : zv_V := Sum.inr (Sum.inr x)
/-- cells made, slots made; ints, longs, references by cell and place; the script's length and contents -/
abbrev zv_H : Type := (Nat × Nat) × ((Nat → Nat → Int) × ((Nat → Nat → Int64) × ((Nat → Nat → Nat) × (Nat × (Nat → Int)))))
def zv_n (h : zv_H) : Nat := h.1.1
def zv_s (h : zv_H) : Nat := h.1.2
def zv_I (h : zv_H) (r k : Nat) : Int := h.2.1 r k
def zv_J (h : zv_H) (r k : Nat) : Int64 := h.2.2.1 r k
def zv_R (h : zv_H) (r k : Nat) : Nat := h.2.2.2.1 r k
def zv_L (h : zv_H) : Nat := h.2.2.2.2.1
def zv_X (h : zv_H) (k : Nat) : Int := h.2.2.2.2.2 k
def zv_up {α : Type} (f : Nat → Nat → α) (r k : Nat) (v : α) : Nat → Nat → α := fun a b => if a = r ∧ b = k then v else f a b
def zv_cl {α : Type} (f : Nat → Nat → α) (r : Nat) (v : α) : Nat → Nat → α := fun a b => if a = r then v else f a b
def zv_sI (h : zv_H) (r k : Nat) (v : Int) : zv_H := (h.1, (zv_up h.2.1 r k v, h.2.2))
def zv_sJ (h : zv_H) (r k : Nat) (v : Int64) : zv_H := (h.1, (h.2.1, (zv_up h.2.2.1 r k v, h.2.2.2)))
def zv_sR (h : zv_H) (r k : Nat) (v : Nat) : zv_H := (h.1, (h.2.1, (h.2.2.1, (zv_up h.2.2.2.1 r k v, h.2.2.2.2))))
/-- a new cell of so many slots, all 0 -/
def zv_mk (h : zv_H) (w : Nat) : zv_H := ((h.1.1 + 1, h.1.2 + w), (zv_cl h.2.1 (h.1.1 + 1) 0, (zv_cl h.2.2.1 (h.1.1 + 1) 0, (zv_cl h.2.2.2.1 (h.1.1 + 1) 0, h.2.2.2.2))))
def zv_cp (h : zv_H) (s sp d dp n : Nat) : zv_H := (h.1, ((fun a b => if a = d ∧ dp ≤ b ∧ b < dp + n then h.2.1 s (sp + (b - dp)) else h.2.1 a b), h.2.2))
/-- 32 bits -/
def zv_w (x : Int) : Int := (x + 2147483648) % 4294967296 - 2147483648
def zv_rg (x : Int) : Prop := -2147483648 ≤ x ∧ x < 2147483648
def zv_and (x y : Int) : Int := (Int32.ofInt x &&& Int32.ofInt y).toInt
def zv_or (x y : Int) : Int := (Int32.ofInt x ||| Int32.ofInt y).toInt
def zv_shl (x y : Int) : Int := (Int32.ofInt x <<< (Int32.ofInt y &&& 31)).toInt
def zv_shr (x y : Int) : Int := (Int32.ofInt x >>> (Int32.ofInt y &&& 31)).toInt
def zv_ushr (x y : Int) : Int := ((Int32.ofInt x).toUInt32 >>> ((Int32.ofInt y).toUInt32 &&& Int32.toUInt32 31)).toInt32.toInt
def zv_i2b (x : Int) : Int := (Int32.ofInt x).toInt8.toInt32.toInt
def zv_i2c (x : Int) : Int := ((Int32.ofInt x).toUInt32 % 65536).toInt32.toInt
def zv_i2l (x : Int) : Int64 := (Int32.ofInt x).toInt64
def zv_l2i (x : Int64) : Int := x.toInt32.toInt
def zv_lshl (x : Int64) (y : Int) : Int64 := x <<< ((Int32.ofInt y).toInt64 &&& 63)
def zv_lushr (x : Int64) (y : Int) : Int64 := (x.toUInt64 >>> ((Int32.ofInt y).toInt64.toUInt64 &&& Int64.toUInt64 63)).toInt64
def zv_lcmp (x y : Int64) : Int := if x = y then 0 else if y < x then 1 else -1
def zv_nz (x : Int) : Int := x % 2
/-! locals -/
abbrev zv_Ls : Type := List (Option zv_V)
def zv_ld : zv_Ls → Nat → Option zv_V
  | [], _ => none
  | a :: _, 0 => a
  | _ :: l, n + 1 => zv_ld l n
def zv_st : zv_Ls → Nat → Option zv_V → zv_Ls
  | [], _, _ => []
  | _ :: l, 0, v => v :: l
  | a :: l, n + 1, v => a :: zv_st l n v
def zv_two (v : Option zv_V) : Bool := match v with
  | some (Sum.inr (Sum.inl _)) => true
  | _ => false
/-- the first half of a long, of which the second is overwritten, goes -/
def zv_cr (l : zv_Ls) (n : Nat) : zv_Ls := match n with
  | 0 => l
  | k + 1 => if zv_two (zv_ld l k) then zv_st l k none else l
def zv_s1 (l : zv_Ls) (n : Nat) (v : zv_V) : zv_Ls := zv_st (zv_cr l n) n (some v)
def zv_s2 (l : zv_Ls) (n : Nat) (v : Int64) : zv_Ls := zv_st (zv_st (zv_cr l n) n (some (zv_j v))) (n + 1) none
def zv_msk : List Bool → zv_Ls → zv_Ls
  | true :: b, a :: l => a :: zv_msk b l
  | false :: b, _ :: l => none :: zv_msk b l
  | [], l => l
  | _, [] => []
/-! the length of an instruction (not of a switch) -/
def zv_len : Instr → Nat
  | .bipush _ | .iload _ | .lload _ | .aload _ | .istore _ | .lstore _ | .astore _ | .ldc _ | .newarray _ => 2
  | .sipush _ | .iinc _ _ | .ifCond _ _ | .if_icmp _ _ | .if_acmp _ _ | .ifnull _ | .ifnonnull _ | .goto _ | .getfield _ | .getstatic _ | .putfield _ | .invokevirtual _ | .invokespecial _ | .invokestatic _ | .new _ | .anewarray _ | .ldc_w _ | .ldc2_w _ => 3
  | _ => 1
/-! what an instruction does to locals and stack alone -/
def zv_op (i : Instr) (ls : zv_Ls) (st : List zv_V) : Option (zv_Ls × List zv_V) := match i, st with
  | .iconst n, st => if -1 ≤ n ∧ n ≤ 5 then some (ls, zv_i n :: st) else none
  | .bipush n, st => if -128 ≤ n ∧ n ≤ 127 then some (ls, zv_i n :: st) else none
  | .sipush n, st => if -32768 ≤ n ∧ n ≤ 32767 then some (ls, zv_i n :: st) else none
  | .lconst n, st => some (ls, zv_j (Int64.ofNat n.val) :: st)
  | .aconst_null, st => some (ls, zv_r 0 :: st)
  | .iload_n k, st => match zv_ld ls k.val with
    | some (Sum.inl x) => some (ls, zv_i x :: st)
    | _ => none
  | .iload k, st => match zv_ld ls k with
    | some (Sum.inl x) => some (ls, zv_i x :: st)
    | _ => none
  | .lload_n k, st => match zv_ld ls k.val with
    | some (Sum.inr (Sum.inl x)) => some (ls, zv_j x :: st)
    | _ => none
  | .lload k, st => match zv_ld ls k with
    | some (Sum.inr (Sum.inl x)) => some (ls, zv_j x :: st)
    | _ => none
  | .aload_n k, st => match zv_ld ls k.val with
    | some (Sum.inr (Sum.inr x)) => some (ls, zv_r x :: st)
    | _ => none
  | .aload k, st => match zv_ld ls k with
    | some (Sum.inr (Sum.inr x)) => some (ls, zv_r x :: st)
    | _ => none
  | .istore_n k, Sum.inl x :: st => if k.val < ls.length then some (zv_s1 ls k.val (zv_i x), st) else none
  | .istore k, Sum.inl x :: st => if k < ls.length then some (zv_s1 ls k (zv_i x), st) else none
  | .lstore_n k, Sum.inr (Sum.inl x) :: st => if k.val + 1 < ls.length then some (zv_s2 ls k.val x, st) else none
  | .lstore k, Sum.inr (Sum.inl x) :: st => if k + 1 < ls.length then some (zv_s2 ls k x, st) else none
  | .astore_n k, Sum.inr (Sum.inr x) :: st => if k.val < ls.length then some (zv_s1 ls k.val (zv_r x), st) else none
  | .astore k, Sum.inr (Sum.inr x) :: st => if k < ls.length then some (zv_s1 ls k (zv_r x), st) else none
  | .iinc k n, st => match zv_ld ls k with
    | some (Sum.inl x) => if k < ls.length then some (zv_s1 ls k (zv_i (zv_w (x + n))), st) else none
    | _ => none
  | .iadd, Sum.inl y :: Sum.inl x :: st => some (ls, zv_i (zv_w (x + y)) :: st)
  | .isub, Sum.inl y :: Sum.inl x :: st => some (ls, zv_i (zv_w (x - y)) :: st)
  | .imul, Sum.inl y :: Sum.inl x :: st => some (ls, zv_i (zv_w (x * y)) :: st)
  | .ineg, Sum.inl x :: st => some (ls, zv_i (zv_w (-x)) :: st)
  | .idiv, Sum.inl y :: Sum.inl x :: st => if y = 0 then none else some (ls, zv_i (zv_w (x.tdiv y)) :: st)
  | .irem, Sum.inl y :: Sum.inl x :: st => if y = 0 then none else some (ls, zv_i (x.tmod y) :: st)
  | .iand, Sum.inl y :: Sum.inl x :: st => some (ls, zv_i (zv_and x y) :: st)
  | .ior, Sum.inl y :: Sum.inl x :: st => some (ls, zv_i (zv_or x y) :: st)
  | .ishl, Sum.inl y :: Sum.inl x :: st => some (ls, zv_i (zv_shl x y) :: st)
  | .ishr, Sum.inl y :: Sum.inl x :: st => some (ls, zv_i (zv_shr x y) :: st)
  | .iushr, Sum.inl y :: Sum.inl x :: st => some (ls, zv_i (zv_ushr x y) :: st)
  | .i2b, Sum.inl x :: st => some (ls, zv_i (zv_i2b x) :: st)
  | .i2c, Sum.inl x :: st => some (ls, zv_i (zv_i2c x) :: st)
  | .i2l, Sum.inl x :: st => some (ls, zv_j (zv_i2l x) :: st)
  | .l2i, Sum.inr (Sum.inl x) :: st => some (ls, zv_i (zv_l2i x) :: st)
  | .ladd, Sum.inr (Sum.inl y) :: Sum.inr (Sum.inl x) :: st => some (ls, zv_j (x + y) :: st)
  | .lsub, Sum.inr (Sum.inl y) :: Sum.inr (Sum.inl x) :: st => some (ls, zv_j (x - y) :: st)
  | .lmul, Sum.inr (Sum.inl y) :: Sum.inr (Sum.inl x) :: st => some (ls, zv_j (x * y) :: st)
  | .land, Sum.inr (Sum.inl y) :: Sum.inr (Sum.inl x) :: st => some (ls, zv_j (x &&& y) :: st)
  | .lor, Sum.inr (Sum.inl y) :: Sum.inr (Sum.inl x) :: st => some (ls, zv_j (x ||| y) :: st)
  | .lxor, Sum.inr (Sum.inl y) :: Sum.inr (Sum.inl x) :: st => some (ls, zv_j (x ^^^ y) :: st)
  | .lshl, Sum.inl y :: Sum.inr (Sum.inl x) :: st => some (ls, zv_j (zv_lshl x y) :: st)
  | .lushr, Sum.inl y :: Sum.inr (Sum.inl x) :: st => some (ls, zv_j (zv_lushr x y) :: st)
  | .lcmp, Sum.inr (Sum.inl y) :: Sum.inr (Sum.inl x) :: st => some (ls, zv_i (zv_lcmp x y) :: st)
  | .dup, Sum.inl x :: st => some (ls, zv_i x :: zv_i x :: st)
  | .dup, Sum.inr (Sum.inr x) :: st => some (ls, zv_r x :: zv_r x :: st)
  | .dup2, Sum.inl y :: Sum.inr (Sum.inr x) :: st => some (ls, zv_i y :: zv_r x :: zv_i y :: zv_r x :: st)
  | .pop, Sum.inl _ :: st => some (ls, st)
  | .pop, Sum.inr (Sum.inr _) :: st => some (ls, st)
  | _, _ => none
def zv_txt : List (List Int) := [[115, 116, 97, 114, 116], [106, 111, 105, 110], [110, 111, 116], [103, 97, 112], [115, 105, 122, 101], [107, 105, 110, 100], [115, 97, 109, 101], [110, 101, 97, 114], [108, 111, 110, 103], [97, 110, 100], [111, 114], [112, 117, 116], [99, 117, 116], [119, 97, 105, 116], [117, 110, 100, 111], [114, 101, 100, 111], [103, 111], [110, 97, 109, 101], [119, 105, 116, 104, 100, 114, 97, 119], [114, 101, 115, 116, 111, 114, 101], [99, 97, 114, 114, 121], [109, 101, 114, 103, 101], [112, 114, 117, 110, 101], [60, 61, 62, 91, 93, 59]]
end
section
/-! The small machine's heap and its instructions. zv_lay (the cells in the order in which they are made) and zv_fts (the fields' kinds) stand in 02. -/
def zv_lk {α : Type} : List (Nat × α) → Nat → Option α
  | [], _ => none
  | a :: l, n => bif Nat.beq a.1 n then some a.2 else zv_lk l n
def zv_ft (ci k : Nat) : Nat := (zv_fts.getD ci []).getD k 9
def zv_nf (ci : Nat) : Nat := (zv_fts.getD ci []).length
def zv_gI (h : zv_H) (r ci k : Nat) : Option Int := if r ≤ zv_n h ∧ zv_lay r = (1, ci) then some (zv_I h r k) else none
def zv_gJ (h : zv_H) (r ci k : Nat) : Option Int64 := if r ≤ zv_n h ∧ zv_lay r = (1, ci) then some (zv_J h r k) else none
def zv_gR (h : zv_H) (r ci k : Nat) : Option Nat := if r ≤ zv_n h ∧ zv_lay r = (1, ci) then some (zv_R h r k) else none
def zv_pI (h : zv_H) (r ci k : Nat) (v : Int) : Option zv_H := if r ≤ zv_n h ∧ zv_lay r = (1, ci) then some (zv_sI h r k v) else none
def zv_pZ (h : zv_H) (r ci k : Nat) (v : Int) : Option zv_H := if (r ≤ zv_n h ∧ zv_lay r = (1, ci)) ∧ (v = 0 ∨ v = 1) then some (zv_sI h r k v) else none
def zv_pJ (h : zv_H) (r ci k : Nat) (v : Int64) : Option zv_H := if r ≤ zv_n h ∧ zv_lay r = (1, ci) then some (zv_sJ h r k v) else none
def zv_pR (h : zv_H) (r ci k : Nat) (v : Nat) : Option zv_H := if r ≤ zv_n h ∧ zv_lay r = (1, ci) then some (zv_sR h r k v) else none
def zv_aI (h : zv_H) (r : Nat) (j : Int) : Option Int :=
  if r = 2000000 then (if 0 ≤ j ∧ j < zv_L h then some (zv_X h j.toNat) else none)
  else if r ≤ zv_n h ∧ (zv_lay r).1 = 2 ∧ 0 ≤ j ∧ j < (zv_lay r).2 then some (zv_I h r j.toNat) else none
def zv_aB (h : zv_H) (r : Nat) (j : Int) : Option Int := if 1000100 ≤ r ∧ r < 1000124 then (if 0 ≤ j ∧ j < ((zv_txt.getD (r - 1000100) []).length : Int) then some ((zv_txt.getD (r - 1000100) []).getD j.toNat 0) else none) else if r ≤ zv_n h ∧ ((zv_lay r).1 = 3 ∨ (zv_lay r).1 = 4) ∧ 0 ≤ j ∧ j < (zv_lay r).2 then some (zv_I h r j.toNat) else none
def zv_aJ (h : zv_H) (r : Nat) (j : Int) : Option Int64 := if r ≤ zv_n h ∧ (zv_lay r).1 = 5 ∧ 0 ≤ j ∧ j < (zv_lay r).2 then some (zv_J h r j.toNat) else none
def zv_aR (h : zv_H) (r : Nat) (j : Int) : Option Nat := if r ≤ zv_n h ∧ (zv_lay r).1 = 6 ∧ 0 ≤ j ∧ j < (zv_lay r).2 then some (zv_R h r j.toNat) else none
def zv_wI (h : zv_H) (r : Nat) (j v : Int) : Option zv_H := if r ≤ zv_n h ∧ (zv_lay r).1 = 2 ∧ 0 ≤ j ∧ j < (zv_lay r).2 then some (zv_sI h r j.toNat v) else none
def zv_wB (h : zv_H) (r : Nat) (j v : Int) : Option zv_H := if r ≤ zv_n h ∧ ((zv_lay r).1 = 3 ∨ (zv_lay r).1 = 4) ∧ 0 ≤ j ∧ j < (zv_lay r).2 then some (zv_sI h r j.toNat (if (zv_lay r).1 = 3 then zv_nz v else zv_i2b v)) else none
def zv_wJ (h : zv_H) (r : Nat) (j : Int) (v : Int64) : Option zv_H := if r ≤ zv_n h ∧ (zv_lay r).1 = 5 ∧ 0 ≤ j ∧ j < (zv_lay r).2 then some (zv_sJ h r j.toNat v) else none
def zv_wR (h : zv_H) (r : Nat) (j : Int) (v : Nat) : Option zv_H := if (r ≤ zv_n h ∧ (zv_lay r).1 = 6 ∧ 0 ≤ j ∧ j < (zv_lay r).2) ∧ (v = 0 ∨ v ≤ zv_n h ∧ zv_lay v = (1, 5)) then some (zv_sR h r j.toNat v) else none
def zv_tC (r : Nat) : Option Int := if 1000000 ≤ r ∧ r < 1000024 then some 0 else none
def zv_tV (r : Nat) : Option Nat := if 1000000 ≤ r ∧ r < 1000024 then some (r + 100) else none
def zv_al (h : zv_H) (r : Nat) : Option Int := if r = 2000000 then some (zv_L h) else if 1000100 ≤ r ∧ r < 1000124 then some ((zv_txt.getD (r - 1000100) []).length : Int) else if r ≤ zv_n h ∧ 2 ≤ (zv_lay r).1 then some (zv_lay r).2 else none
def zv_nO (h : zv_H) (ci : Nat) : Option zv_H := if zv_lay (zv_n h + 1) = (1, ci) then some (zv_mk h (zv_nf ci)) else none
def zv_nA (h : zv_H) (kd : Nat) (x : Int) : Option zv_H := if (0 ≤ x ∧ x ≤ 60000) ∧ zv_lay (zv_n h + 1) = (kd, x.toNat) then some (zv_mk h x.toNat) else none
def zv_cy (h : zv_H) (s : Nat) (sp : Int) (d : Nat) (dp n : Int) : Option zv_H :=
  if (s ≤ zv_n h ∧ d ≤ zv_n h ∧ (zv_lay s).1 = 2 ∧ (zv_lay d).1 = 2) ∧ (0 ≤ sp ∧ 0 ≤ dp ∧ 0 ≤ n) ∧ sp + n ≤ (zv_lay s).2 ∧ dp + n ≤ (zv_lay d).2 ∧ ¬ s = d then some (zv_cp h s sp.toNat d dp.toNat n.toNat) else none
/-! a class's pool: fields (class, place, nest mate), methods (number, kind, parameters, what it answers), ints, longs, texts, classes -/
abbrev zv_P : Type := List (Nat × (Nat × (Nat × Bool))) × (List (Nat × (Nat × (Nat × (Nat × Nat)))) × (List (Nat × Int) × (List (Nat × Int64) × (List (Nat × Nat) × List (Nat × Nat)))))
/-- a method: its class, its name, its bytes, its locals, what it answers, its instructions, its heads (with what of the locals counts there), its class's pool -/
abbrev zv_M : Type := (String × (MethodName × (ByteArray × (Nat × Option FieldType)))) × (List (Nat × Instr) × (List (Nat × List Bool) × zv_P))
abbrev zv_O : Type := Option (Option zv_V × zv_H)
abbrev zv_G : Type := Nat → zv_Ls → List zv_V → zv_H → zv_O
/-- the four kinds of calls: of void, int, long, reference -/
abbrev zv_C : Type := (Nat → List zv_V → zv_H → Option zv_H) × ((Nat → List zv_V → zv_H → Option (Int × zv_H)) × ((Nat → List zv_V → zv_H → Option (Int64 × zv_H)) × (Nat → List zv_V → zv_H → Option (Nat × zv_H))))
def zv_wd : List zv_V → Nat
  | [] => 0
  | Sum.inr (Sum.inl _) :: t => zv_wd t + 2
  | _ :: t => zv_wd t + 1
def zv_tk : Nat → List zv_V → List zv_V → Option (List zv_V × List zv_V)
  | 0, acc, st => some (acc, st)
  | n + 1, acc, v :: st => zv_tk n (v :: acc) st
  | _ + 1, _, [] => none
def zv_jp (go : zv_G) (pc : Nat) (off : Int) (ls : zv_Ls) (st : List zv_V) (h : zv_H) : zv_O := if (pc : Int) + off < 0 then none else go ((pc : Int) + off).toNat ls st h
def zv_tsw (go : zv_G) (pc : Nat) (x dflt : Int) (ls : zv_Ls) (st : List zv_V) (h : zv_H) : Int → List Int → zv_O
  | _, [] => zv_jp go pc dflt ls st h
  | lo, o :: t => if x = lo then zv_jp go pc o ls st h else zv_tsw go pc x dflt ls st h (lo + 1) t
def zv_lsw (go : zv_G) (pc : Nat) (x dflt : Int) (ls : zv_Ls) (st : List zv_V) (h : zv_H) : List (Int × Int) → zv_O
  | [] => zv_jp go pc dflt ls st h
  | o :: t => if x = o.1 then zv_jp go pc o.2 ls st h else zv_lsw go pc x dflt ls st h t
def zv_call (c : zv_C) (go : zv_G) (pc : Nat) (ls : zv_Ls) (st : List zv_V) (h : zv_H) (e : Nat × (Nat × (Nat × Nat))) : zv_O :=
  match zv_tk e.2.2.1 [] st with
  | none => none
  | some (as, rest) =>
    if 8 < zv_wd rest then none else
    match e.2.2.2 with
    | 0 => (c.1 e.1 as h).bind fun h' => go (pc + 3) ls rest h'
    | 1 => (c.2.1 e.1 as h).bind fun q => go (pc + 3) ls (zv_i q.1 :: rest) q.2
    | 2 => (c.2.2.1 e.1 as h).bind fun q => go (pc + 3) ls (zv_j q.1 :: rest) q.2
    | _ => (c.2.2.2 e.1 as h).bind fun q => go (pc + 3) ls (zv_r q.1 :: rest) q.2
def zv_gf (go : zv_G) (pc : Nat) (ls : zv_Ls) (st : List zv_V) (h : zv_H) (r : Nat) (o : Option (Nat × (Nat × Bool))) : zv_O := match o with
  | none => none
  | some f => match zv_ft f.1 f.2.1 with
    | 0 => (zv_gI h r f.1 f.2.1).bind fun v => go (pc + 3) ls (zv_i v :: st) h
    | 1 => (zv_gI h r f.1 f.2.1).bind fun v => go (pc + 3) ls (zv_i v :: st) h
    | 2 => (zv_gJ h r f.1 f.2.1).bind fun v => go (pc + 3) ls (zv_j v :: st) h
    | 3 => (zv_gR h r f.1 f.2.1).bind fun v => go (pc + 3) ls (zv_r v :: st) h
    | 4 => (zv_tC r).bind fun v => go (pc + 3) ls (zv_i v :: st) h
    | 5 => (zv_tV r).bind fun v => go (pc + 3) ls (zv_r v :: st) h
    | _ => none
def zv_pf (go : zv_G) (pc : Nat) (ls : zv_Ls) (st : List zv_V) (h : zv_H) (r : Nat) (w : zv_V) (o : Option (Nat × (Nat × Bool))) : zv_O := match o with
  | none => none
  | some f => match w, zv_ft f.1 f.2.1 with
    | Sum.inl v, 0 => (zv_pI h r f.1 f.2.1 v).bind fun h' => go (pc + 3) ls st h'
    | Sum.inl v, 1 => (zv_pZ h r f.1 f.2.1 v).bind fun h' => go (pc + 3) ls st h'
    | Sum.inr (Sum.inl v), 2 => (zv_pJ h r f.1 f.2.1 v).bind fun h' => go (pc + 3) ls st h'
    | Sum.inr (Sum.inr v), 3 => (zv_pR h r f.1 f.2.1 v).bind fun h' => go (pc + 3) ls st h'
    | _, _ => none
def zv_gs (go : zv_G) (pc : Nat) (ls : zv_Ls) (st : List zv_V) (h : zv_H) (o : Option Int) : zv_O := match o with
  | some v => go (pc + 3) ls (zv_i v :: st) h
  | none => none
def zv_nw (go : zv_G) (pc : Nat) (ls : zv_Ls) (st : List zv_V) (h : zv_H) (o : Option Nat) : zv_O := match o with
  | none => none
  | some ci => (zv_nO h ci).bind fun h' => go (pc + 3) ls (zv_r (zv_n h + 1) :: st) h'
def zv_an (go : zv_G) (pc : Nat) (ls : zv_Ls) (st : List zv_V) (h : zv_H) (x : Int) (o : Option Nat) : zv_O := match o with
  | none => none
  | some ci => if ci = 5 then (zv_nA h 6 x).bind fun h' => go (pc + 3) ls (zv_r (zv_n h + 1) :: st) h' else none
def zv_ls (go : zv_G) (pc : Nat) (ls : zv_Ls) (st : List zv_V) (h : zv_H) (o : Option Nat) : zv_O := match o with
  | some k => go (pc + 2) ls (zv_r (1000000 + k) :: st) h
  | none => none
def zv_li (go : zv_G) (pc : Nat) (ls : zv_Ls) (st : List zv_V) (h : zv_H) (o : Option Nat) : zv_O := match o with
  | some k => go (pc + 3) ls (zv_r (1000000 + k) :: st) h
  | none => none
def zv_ll (go : zv_G) (pc : Nat) (ls : zv_Ls) (st : List zv_V) (h : zv_H) (o : Option Int64) : zv_O := match o with
  | some v => go (pc + 3) ls (zv_j v :: st) h
  | none => none
def zv_iv (c : zv_C) (go : zv_G) (pc : Nat) (ls : zv_Ls) (st : List zv_V) (h : zv_H) (o : Option (Nat × (Nat × (Nat × Nat)))) : zv_O := match o with
  | some e => if e.2.1 = 0 ∨ e.2.1 = 10 then zv_call c go pc ls st h e else none
  | none => none
def zv_cyS (go : zv_G) (pc : Nat) (ls : zv_Ls) (st : List zv_V) (h : zv_H) : zv_O := match st with
  | Sum.inl n :: Sum.inl dp :: Sum.inr (Sum.inr d) :: Sum.inl sp :: Sum.inr (Sum.inr s) :: st => if 8 < zv_wd st then none else (zv_cy h s sp d dp n).bind fun h' => go (pc + 3) ls st h'
  | _ => none
def zv_mx (go : zv_G) (pc : Nat) (ls : zv_Ls) (st : List zv_V) (h : zv_H) (b : Bool) : zv_O := match st with
  | Sum.inl y :: Sum.inl x :: st => if 8 < zv_wd st then none else go (pc + 3) ls (zv_i (bif b then max x y else min x y) :: st) h
  | _ => none
def zv_is (c : zv_C) (go : zv_G) (pc : Nat) (ls : zv_Ls) (st : List zv_V) (h : zv_H) (o : Option (Nat × (Nat × (Nat × Nat)))) : zv_O := match o with
  | some e => if e.2.1 = 2 ∨ e.2.1 = 12 then zv_call c go pc ls st h e else if e.2.1 = 21 then zv_cyS go pc ls st h else if e.2.1 = 22 then zv_mx go pc ls st h true else if e.2.1 = 23 then zv_mx go pc ls st h false else none
  | none => none
def zv_oi (go : zv_G) (pc : Nat) (ls : zv_Ls) (st : List zv_V) (h : zv_H) : zv_O := match st with
  | Sum.inr (Sum.inr r) :: st => if 8 < zv_wd st then none else if r = 0 then none else go (pc + 3) ls st h
  | _ => none
def zv_ip (c : zv_C) (go : zv_G) (pc : Nat) (ls : zv_Ls) (st : List zv_V) (h : zv_H) (o : Option (Nat × (Nat × (Nat × Nat)))) : zv_O := match o with
  | some e => if e.2.1 = 1 ∨ e.2.1 = 11 then zv_call c go pc ls st h e else if e.2.1 = 20 then zv_oi go pc ls st h else none
  | none => none
def zv_rt (h : zv_H) (w : Option zv_V) (t : Option FieldType) : zv_O := match w, t with
  | some (Sum.inl x), some .int => some (some (zv_i x), h)
  | some (Sum.inl x), some .boolean => if x = 0 ∨ x = 1 then some (some (zv_i x), h) else none
  | some (Sum.inl x), some .char => if 0 ≤ x ∧ x ≤ 65535 then some (some (zv_i x), h) else none
  | some (Sum.inl x), some .byte => if -128 ≤ x ∧ x ≤ 127 then some (some (zv_i x), h) else none
  | some (Sum.inr (Sum.inl x)), some .long => some (some (zv_j x), h)
  | some (Sum.inr (Sum.inr x)), some (.object _) => some (some (zv_r x), h)
  | none, none => some (none, h)
  | _, _ => none
def zv_bc (go : zv_G) (pc : Nat) (off : Int) (ls : zv_Ls) (st : List zv_V) (h : zv_H) (P : Prop) [Decidable P] : zv_O := if (pc : Int) + off < 0 then none else if P then go ((pc : Int) + off).toNat ls st h else go (pc + 3) ls st h
def zv_bn (go : zv_G) (pc : Nat) (off : Int) (ls : zv_Ls) (st : List zv_V) (h : zv_H) (P : Prop) [Decidable P] : zv_O := if (pc : Int) + off < 0 then none else if P then go (pc + 3) ls st h else go ((pc : Int) + off).toNat ls st h
/-- the instructions that read or write cells, jump, call, end -/
def zv_hp (c : zv_C) (M : zv_M) (go : zv_G) (pc : Nat) (ls : zv_Ls) (st : List zv_V) (h : zv_H) (i : Instr) : zv_O := match i, st with
  | .goto off, st => zv_jp go pc off ls st h
  | .ifCond .eq off, Sum.inl x :: st => zv_bc go pc off ls st h (x = 0)
  | .ifCond .ne off, Sum.inl x :: st => zv_bn go pc off ls st h (x = 0)
  | .ifCond .lt off, Sum.inl x :: st => zv_bc go pc off ls st h (x < 0)
  | .ifCond .ge off, Sum.inl x :: st => zv_bn go pc off ls st h (x < 0)
  | .ifCond .gt off, Sum.inl x :: st => zv_bn go pc off ls st h (x ≤ 0)
  | .ifCond .le off, Sum.inl x :: st => zv_bc go pc off ls st h (x ≤ 0)
  | .if_icmp .eq off, Sum.inl y :: Sum.inl x :: st => zv_bc go pc off ls st h (x = y)
  | .if_icmp .ne off, Sum.inl y :: Sum.inl x :: st => zv_bn go pc off ls st h (x = y)
  | .if_icmp .lt off, Sum.inl y :: Sum.inl x :: st => zv_bc go pc off ls st h (x < y)
  | .if_icmp .ge off, Sum.inl y :: Sum.inl x :: st => zv_bn go pc off ls st h (x < y)
  | .if_icmp .gt off, Sum.inl y :: Sum.inl x :: st => zv_bn go pc off ls st h (x ≤ y)
  | .if_icmp .le off, Sum.inl y :: Sum.inl x :: st => zv_bc go pc off ls st h (x ≤ y)
  | .if_acmp .eq off, Sum.inr (Sum.inr y) :: Sum.inr (Sum.inr x) :: st => if 1000000 ≤ x ∨ 1000000 ≤ y then none else zv_bc go pc off ls st h (x = y)
  | .if_acmp .ne off, Sum.inr (Sum.inr y) :: Sum.inr (Sum.inr x) :: st => if 1000000 ≤ x ∨ 1000000 ≤ y then none else zv_bn go pc off ls st h (x = y)
  | .ifnull off, Sum.inr (Sum.inr x) :: st => zv_bc go pc off ls st h (x = 0)
  | .ifnonnull off, Sum.inr (Sum.inr x) :: st => zv_bn go pc off ls st h (x = 0)
  | .tableswitch dflt lo hi offs, Sum.inl x :: st => if hi + 1 = lo + (offs.toList.length : Int) then zv_tsw go pc x dflt ls st h lo offs.toList else none
  | .lookupswitch dflt ps, Sum.inl x :: st => if (ps.toList.zip (ps.toList.drop 1)).all (fun q => decide (q.1.1 < q.2.1)) = true then zv_lsw go pc x dflt ls st h ps.toList else none
  | .getfield ix, Sum.inr (Sum.inr r) :: st => zv_gf go pc ls st h r (zv_lk M.2.2.2.1 ix)
  | .getstatic ix, st => zv_gs go pc ls st h (zv_lk M.2.2.2.2.2.1 ix)
  | .putfield ix, v :: Sum.inr (Sum.inr r) :: st => zv_pf go pc ls st h r v (zv_lk M.2.2.2.1 ix)
  | .arraylength, Sum.inr (Sum.inr r) :: st => (zv_al h r).bind fun v => go (pc + 1) ls (zv_i v :: st) h
  | .iaload, Sum.inl j :: Sum.inr (Sum.inr r) :: st => (zv_aI h r j).bind fun v => go (pc + 1) ls (zv_i v :: st) h
  | .baload, Sum.inl j :: Sum.inr (Sum.inr r) :: st => (zv_aB h r j).bind fun v => go (pc + 1) ls (zv_i v :: st) h
  | .laload, Sum.inl j :: Sum.inr (Sum.inr r) :: st => (zv_aJ h r j).bind fun v => go (pc + 1) ls (zv_j v :: st) h
  | .aaload, Sum.inl j :: Sum.inr (Sum.inr r) :: st => (zv_aR h r j).bind fun v => go (pc + 1) ls (zv_r v :: st) h
  | .iastore, Sum.inl v :: Sum.inl j :: Sum.inr (Sum.inr r) :: st => (zv_wI h r j v).bind fun h' => go (pc + 1) ls st h'
  | .bastore, Sum.inl v :: Sum.inl j :: Sum.inr (Sum.inr r) :: st => (zv_wB h r j v).bind fun h' => go (pc + 1) ls st h'
  | .lastore, Sum.inr (Sum.inl v) :: Sum.inl j :: Sum.inr (Sum.inr r) :: st => (zv_wJ h r j v).bind fun h' => go (pc + 1) ls st h'
  | .aastore, Sum.inr (Sum.inr v) :: Sum.inl j :: Sum.inr (Sum.inr r) :: st => (zv_wR h r j v).bind fun h' => go (pc + 1) ls st h'
  | .new ix, st => zv_nw go pc ls st h (zv_lk M.2.2.2.2.2.2.2.2 ix)
  | .newarray .int, Sum.inl x :: st => (zv_nA h 2 x).bind fun h' => go (pc + 2) ls (zv_r (zv_n h + 1) :: st) h'
  | .newarray .boolean, Sum.inl x :: st => (zv_nA h 3 x).bind fun h' => go (pc + 2) ls (zv_r (zv_n h + 1) :: st) h'
  | .newarray .byte, Sum.inl x :: st => (zv_nA h 4 x).bind fun h' => go (pc + 2) ls (zv_r (zv_n h + 1) :: st) h'
  | .newarray .long, Sum.inl x :: st => (zv_nA h 5 x).bind fun h' => go (pc + 2) ls (zv_r (zv_n h + 1) :: st) h'
  | .anewarray ix, Sum.inl x :: st => zv_an go pc ls st h x (zv_lk M.2.2.2.2.2.2.2.2 ix)
  | .ldc ix, st => zv_ls go pc ls st h (zv_lk M.2.2.2.2.2.2.2.1 ix)
  | .ldc_w ix, st => zv_li go pc ls st h (zv_lk M.2.2.2.2.2.2.2.1 ix)
  | .ldc2_w ix, st => zv_ll go pc ls st h (zv_lk M.2.2.2.2.2.2.1 ix)
  | .invokevirtual ix, st => zv_iv c go pc ls st h (zv_lk M.2.2.2.2.1 ix)
  | .invokestatic ix, st => zv_is c go pc ls st h (zv_lk M.2.2.2.2.1 ix)
  | .invokespecial ix, st => zv_ip c go pc ls st h (zv_lk M.2.2.2.2.1 ix)
  | .ireturn, [Sum.inl x] => zv_rt h (some (zv_i x)) M.1.2.2.2.2
  | .lreturn, [Sum.inr (Sum.inl x)] => zv_rt h (some (zv_j x)) M.1.2.2.2.2
  | .areturn, [Sum.inr (Sum.inr x)] => zv_rt h (some (zv_r x)) M.1.2.2.2.2
  | .return_, [] => zv_rt h none M.1.2.2.2.2
  | _, _ => none
def zv_stp (c : zv_C) (M : zv_M) (go : zv_G) (pc : Nat) (ls : zv_Ls) (st : List zv_V) (h : zv_H) : zv_O := match zv_lk M.2.1 pc with
  | none => none
  | some i => match zv_op i ls st with
    | some q => go (pc + zv_len i) q.1 q.2 h
    | none => zv_hp c M go pc ls st h i
def zv_seg (c : zv_C) (M : zv_M) (kt : zv_G) : Nat → zv_G
  | 0, pc, ls, st, h => kt pc ls st h
  | n + 1, pc, ls, st, h => zv_stp c M (fun pc ls st h => match zv_lk M.2.2.1 pc with
    | some b => kt pc (zv_msk b ls) st h
    | none => zv_seg c M kt n pc ls st h) pc ls st h
end
section
/-! What a method answers: calls by depth; a limit over the stretches between heads. -/
def zv_lin (f : zv_G → zv_O) : Prop := ∀ go r, f go = some r → (∀ go', f go' = some r) ∨ ∃ pc ls st h, go pc ls st h = some r ∧ ∀ go', go' pc ls st h = some r → f go' = some r
theorem zv_lin_go (pc : Nat) (ls : zv_Ls) (st : List zv_V) (h : zv_H) : zv_lin (fun go => go pc ls st h) := fun _ _ hr => Or.inr ⟨pc, ls, st, h, hr, fun _ hg => hg⟩
theorem zv_lin_c (o : zv_O) : zv_lin (fun _ => o) := fun _ _ hr => Or.inl fun _ => hr
theorem zv_lin_if {p : Prop} [Decidable p] {f g : zv_G → zv_O} (hf : zv_lin f) (hg : zv_lin g) : zv_lin (fun go => if p then f go else g go) := by
  intro go r hr
  by_cases h : p
  · simp only [if_pos h] at hr ⊢
    exact hf go r hr
  · simp only [if_neg h] at hr ⊢
    exact hg go r hr
theorem zv_lin_b {α : Type} (o : Option α) {f : α → zv_G → zv_O} (hf : ∀ v, zv_lin (f v)) : zv_lin (fun go => o.bind fun v => f v go) := by
  intro go r hr
  cases o with
  | none => exact absurd hr (by simp)
  | some v => exact hf v go r hr
theorem zv_lin_jp (pc : Nat) (off : Int) (ls : zv_Ls) (st : List zv_V) (h : zv_H) : zv_lin (fun go => zv_jp go pc off ls st h) := zv_lin_if (zv_lin_c none) (zv_lin_go _ _ _ _)
theorem zv_lin_bc (pc : Nat) (off : Int) (ls : zv_Ls) (st : List zv_V) (h : zv_H) (P : Prop) [Decidable P] : zv_lin (fun go => zv_bc go pc off ls st h P) := zv_lin_if (zv_lin_c none) (zv_lin_if (zv_lin_go _ _ _ _) (zv_lin_go _ _ _ _))
theorem zv_lin_bn (pc : Nat) (off : Int) (ls : zv_Ls) (st : List zv_V) (h : zv_H) (P : Prop) [Decidable P] : zv_lin (fun go => zv_bn go pc off ls st h P) := zv_lin_if (zv_lin_c none) (zv_lin_if (zv_lin_go _ _ _ _) (zv_lin_go _ _ _ _))
theorem zv_lin_tsw (pc : Nat) (x dflt : Int) (ls : zv_Ls) (st : List zv_V) (h : zv_H) : ∀ (os : List Int) (lo : Int), zv_lin (fun go => zv_tsw go pc x dflt ls st h lo os)
  | [], _ => zv_lin_jp _ _ _ _ _
  | _ :: t, lo => zv_lin_if (zv_lin_jp _ _ _ _ _) (zv_lin_tsw pc x dflt ls st h t (lo + 1))
theorem zv_lin_lsw (pc : Nat) (x dflt : Int) (ls : zv_Ls) (st : List zv_V) (h : zv_H) : ∀ (os : List (Int × Int)), zv_lin (fun go => zv_lsw go pc x dflt ls st h os)
  | [] => zv_lin_jp _ _ _ _ _
  | _ :: t => zv_lin_if (zv_lin_jp _ _ _ _ _) (zv_lin_lsw pc x dflt ls st h t)
theorem zv_lin_call (c : zv_C) (pc : Nat) (ls : zv_Ls) (st : List zv_V) (h : zv_H) (e : Nat × (Nat × (Nat × Nat))) : zv_lin (fun go => zv_call c go pc ls st h e) := by
  unfold zv_call
  cases zv_tk e.2.2.1 [] st with
  | none => exact zv_lin_c none
  | some q =>
    obtain ⟨as, rest⟩ := q
    refine zv_lin_if (zv_lin_c none) ?_
    match e.2.2.2 with
    | 0 => exact zv_lin_b _ fun v => zv_lin_go _ _ _ _
    | 1 => exact zv_lin_b _ fun v => zv_lin_go _ _ _ _
    | 2 => exact zv_lin_b _ fun v => zv_lin_go _ _ _ _
    | _ + 3 => exact zv_lin_b _ fun v => zv_lin_go _ _ _ _
theorem zv_lin_gf (pc : Nat) (ls : zv_Ls) (st : List zv_V) (h : zv_H) (r : Nat) (o : Option (Nat × (Nat × Bool))) : zv_lin (fun go => zv_gf go pc ls st h r o) := by
  unfold zv_gf
  cases o with
  | none => exact zv_lin_c none
  | some f =>
    dsimp only
    generalize zv_ft f.1 f.2.1 = t
    match t with
    | 0 => exact zv_lin_b _ fun v => zv_lin_go _ _ _ _
    | 1 => exact zv_lin_b _ fun v => zv_lin_go _ _ _ _
    | 2 => exact zv_lin_b _ fun v => zv_lin_go _ _ _ _
    | 3 => exact zv_lin_b _ fun v => zv_lin_go _ _ _ _
    | 4 => exact zv_lin_b _ fun v => zv_lin_go _ _ _ _
    | 5 => exact zv_lin_b _ fun v => zv_lin_go _ _ _ _
    | _ + 6 => exact zv_lin_c none
theorem zv_lin_pf (pc : Nat) (ls : zv_Ls) (st : List zv_V) (h : zv_H) (r : Nat) (w : zv_V) (o : Option (Nat × (Nat × Bool))) : zv_lin (fun go => zv_pf go pc ls st h r w o) := by
  intro go r hr
  unfold zv_pf at hr ⊢
  cases o with
  | none => exact absurd hr (by simp)
  | some f =>
    dsimp only at hr ⊢
    generalize zv_ft f.1 f.2.1 = t at hr ⊢
    split at hr
    · exact zv_lin_b _ (fun v => zv_lin_go _ _ _ _) go r hr
    · exact zv_lin_b _ (fun v => zv_lin_go _ _ _ _) go r hr
    · exact zv_lin_b _ (fun v => zv_lin_go _ _ _ _) go r hr
    · exact zv_lin_b _ (fun v => zv_lin_go _ _ _ _) go r hr
    · exact absurd hr (by simp)
theorem zv_lin_gs (pc : Nat) (ls : zv_Ls) (st : List zv_V) (h : zv_H) (o : Option Int) : zv_lin (fun go => zv_gs go pc ls st h o) := by
  unfold zv_gs
  cases o with
  | none => exact zv_lin_c none
  | some f => exact zv_lin_go _ _ _ _
theorem zv_lin_nw (pc : Nat) (ls : zv_Ls) (st : List zv_V) (h : zv_H) (o : Option Nat) : zv_lin (fun go => zv_nw go pc ls st h o) := by
  unfold zv_nw
  cases o with
  | none => exact zv_lin_c none
  | some f => exact zv_lin_b _ fun v => zv_lin_go _ _ _ _
theorem zv_lin_an (pc : Nat) (ls : zv_Ls) (st : List zv_V) (h : zv_H) (x : Int) (o : Option Nat) : zv_lin (fun go => zv_an go pc ls st h x o) := by
  unfold zv_an
  cases o with
  | none => exact zv_lin_c none
  | some f => exact zv_lin_if (zv_lin_b _ fun v => zv_lin_go _ _ _ _) (zv_lin_c none)
theorem zv_lin_ls (pc : Nat) (ls : zv_Ls) (st : List zv_V) (h : zv_H) (o : Option Nat) : zv_lin (fun go => zv_ls go pc ls st h o) := by
  unfold zv_ls
  cases o with
  | none => exact zv_lin_c none
  | some f => exact zv_lin_go _ _ _ _
theorem zv_lin_li (pc : Nat) (ls : zv_Ls) (st : List zv_V) (h : zv_H) (o : Option Nat) : zv_lin (fun go => zv_li go pc ls st h o) := by
  unfold zv_li
  cases o with
  | none => exact zv_lin_c none
  | some f => exact zv_lin_go _ _ _ _
theorem zv_lin_ll (pc : Nat) (ls : zv_Ls) (st : List zv_V) (h : zv_H) (o : Option Int64) : zv_lin (fun go => zv_ll go pc ls st h o) := by
  unfold zv_ll
  cases o with
  | none => exact zv_lin_c none
  | some f => exact zv_lin_go _ _ _ _
theorem zv_lin_iv (c : zv_C) (pc : Nat) (ls : zv_Ls) (st : List zv_V) (h : zv_H) (o : Option (Nat × (Nat × (Nat × Nat)))) : zv_lin (fun go => zv_iv c go pc ls st h o) := by
  unfold zv_iv
  cases o with
  | none => exact zv_lin_c none
  | some f => exact zv_lin_if (zv_lin_call _ _ _ _ _ _) (zv_lin_c none)
theorem zv_lin_cyS (pc : Nat) (ls : zv_Ls) (st : List zv_V) (h : zv_H) : zv_lin (fun go => zv_cyS go pc ls st h) := by
  intro go r hr
  unfold zv_cyS at hr
  split at hr
  · exact zv_lin_if (zv_lin_c none) (zv_lin_b _ fun v => zv_lin_go _ _ _ _) go r hr
  · exact absurd hr (by simp)
theorem zv_lin_mx (pc : Nat) (ls : zv_Ls) (st : List zv_V) (h : zv_H) (b : Bool) : zv_lin (fun go => zv_mx go pc ls st h b) := by
  intro go r hr
  unfold zv_mx at hr
  split at hr
  · exact zv_lin_if (zv_lin_c none) (zv_lin_go _ _ _ _) go r hr
  · exact absurd hr (by simp)
theorem zv_lin_is (c : zv_C) (pc : Nat) (ls : zv_Ls) (st : List zv_V) (h : zv_H) (o : Option (Nat × (Nat × (Nat × Nat)))) : zv_lin (fun go => zv_is c go pc ls st h o) := by
  unfold zv_is
  cases o with
  | none => exact zv_lin_c none
  | some f => exact zv_lin_if (zv_lin_call _ _ _ _ _ _) (zv_lin_if (zv_lin_cyS _ _ _ _) (zv_lin_if (zv_lin_mx _ _ _ _ _) (zv_lin_if (zv_lin_mx _ _ _ _ _) (zv_lin_c none))))
theorem zv_lin_oi (pc : Nat) (ls : zv_Ls) (st : List zv_V) (h : zv_H) : zv_lin (fun go => zv_oi go pc ls st h) := by
  intro go r hr
  unfold zv_oi at hr
  split at hr
  · exact zv_lin_if (zv_lin_c none) (zv_lin_if (zv_lin_c none) (zv_lin_go _ _ _ _)) go r hr
  · exact absurd hr (by simp)
theorem zv_lin_ip (c : zv_C) (pc : Nat) (ls : zv_Ls) (st : List zv_V) (h : zv_H) (o : Option (Nat × (Nat × (Nat × Nat)))) : zv_lin (fun go => zv_ip c go pc ls st h o) := by
  unfold zv_ip
  cases o with
  | none => exact zv_lin_c none
  | some f => exact zv_lin_if (zv_lin_call _ _ _ _ _ _) (zv_lin_if (zv_lin_oi _ _ _ _) (zv_lin_c none))
set_option maxHeartbeats 4000000 in
theorem zv_lin_hp (c : zv_C) (M : zv_M) (pc : Nat) (ls : zv_Ls) (st : List zv_V) (h : zv_H) (i : Instr) : zv_lin (fun go => zv_hp c M go pc ls st h i) := by
  intro go r hr
  unfold zv_hp at hr
  split at hr
  all_goals try exact zv_lin_jp _ _ _ _ _ go r hr
  all_goals try exact zv_lin_bc _ _ _ _ _ _ go r hr
  all_goals try exact zv_lin_bn _ _ _ _ _ _ go r hr
  all_goals try exact zv_lin_if (zv_lin_c none) (zv_lin_bc _ _ _ _ _ _) go r hr
  all_goals try exact zv_lin_if (zv_lin_c none) (zv_lin_bn _ _ _ _ _ _) go r hr
  all_goals try exact zv_lin_if (zv_lin_tsw _ _ _ _ _ _ _ _) (zv_lin_c none) go r hr
  all_goals try exact zv_lin_if (zv_lin_lsw _ _ _ _ _ _ _) (zv_lin_c none) go r hr
  all_goals try exact zv_lin_b _ (fun v => zv_lin_go _ _ _ _) go r hr
  all_goals try exact zv_lin_gf _ _ _ _ _ _ go r hr
  all_goals try exact zv_lin_pf _ _ _ _ _ _ _ go r hr
  all_goals try exact zv_lin_gs _ _ _ _ _ go r hr
  all_goals try exact zv_lin_nw _ _ _ _ _ go r hr
  all_goals try exact zv_lin_an _ _ _ _ _ _ go r hr
  all_goals try exact zv_lin_ls _ _ _ _ _ go r hr
  all_goals try exact zv_lin_li _ _ _ _ _ go r hr
  all_goals try exact zv_lin_ll _ _ _ _ _ go r hr
  all_goals try exact zv_lin_iv _ _ _ _ _ _ go r hr
  all_goals try exact zv_lin_is _ _ _ _ _ _ go r hr
  all_goals try exact zv_lin_ip _ _ _ _ _ _ go r hr
  all_goals try exact zv_lin_c _ go r hr
  all_goals exact absurd hr (by simp)
theorem zv_lin_stp (c : zv_C) (M : zv_M) (pc : Nat) (ls : zv_Ls) (st : List zv_V) (h : zv_H) : zv_lin (fun go => zv_stp c M go pc ls st h) := by
  unfold zv_stp
  cases zv_lk M.2.1 pc with
  | none => exact zv_lin_c none
  | some i =>
    dsimp only
    cases zv_op i ls st with
    | none => exact zv_lin_hp _ _ _ _ _ _ _
    | some q => exact zv_lin_go _ _ _ _
theorem zv_lin_seg (c : zv_C) (M : zv_M) : ∀ (n pc : Nat) (ls : zv_Ls) (st : List zv_V) (h : zv_H), zv_lin (fun go => zv_seg c M go n pc ls st h)
  | 0, pc, ls, st, h => zv_lin_go _ _ _ _
  | n + 1, pc, ls, st, h => by
    intro kt r hr
    have hr0 : zv_stp c M (fun pc ls st h => match zv_lk M.2.2.1 pc with
      | some b => kt pc (zv_msk b ls) st h
      | none => zv_seg c M kt n pc ls st h) pc ls st h = some r := hr
    rcases zv_lin_stp c M pc ls st h _ r hr0 with hA | ⟨pc1, ls1, st1, h1, e1, e2⟩
    · exact Or.inl fun go' => hA _
    · cases hb : zv_lk M.2.2.1 pc1 with
      | some b =>
        simp only [hb] at e1
        refine Or.inr ⟨pc1, zv_msk b ls1, st1, h1, e1, fun go' hg => ?_⟩
        refine e2 _ ?_
        simp only [hb]
        exact hg
      | none =>
        simp only [hb] at e1
        rcases zv_lin_seg c M n pc1 ls1 st1 h1 kt r e1 with hA | ⟨pc2, ls2, st2, h2, f1, f2⟩
        · refine Or.inl fun go' => e2 _ ?_
          simp only [hb]
          exact hA go'
        · refine Or.inr ⟨pc2, ls2, st2, h2, f1, fun go' hg => e2 _ ?_⟩
          simp only [hb]
          exact f2 go' hg
/-- so many stretches -/
def zv_it (c : zv_C) (M : zv_M) : Nat → zv_G
  | 0, _, _, _, _ => none
  | n + 1, pc, ls, st, h => zv_seg c M (zv_it c M n) 400 pc ls st h
theorem zv_it_mono (c : zv_C) (M : zv_M) : ∀ (n pc : Nat) (ls : zv_Ls) (st : List zv_V) (h : zv_H) r, zv_it c M n pc ls st h = some r → zv_it c M (n + 1) pc ls st h = some r
  | 0, _, _, _, _, _, hr => by cases hr
  | n + 1, pc, ls, st, h, r, hr => by
    rcases zv_lin_seg c M 400 pc ls st h (zv_it c M n) r hr with hA | ⟨pc2, ls2, st2, h2, f1, f2⟩
    · exact hA _
    · exact f2 _ (zv_it_mono c M n _ _ _ _ r f1)
theorem zv_it_le (c : zv_C) (M : zv_M) {n m pc : Nat} {ls : zv_Ls} {st : List zv_V} {h : zv_H} {r} (hr : zv_it c M n pc ls st h = some r) (hm : n ≤ m) : zv_it c M m pc ls st h = some r := by
  obtain ⟨k, rfl⟩ := Nat.exists_eq_add_of_le hm
  clear hm
  induction k with
  | zero => exact hr
  | succ k ih => exact zv_it_mono c M (n + k) pc ls st h r ih
noncomputable def zv_lim (c : zv_C) (M : zv_M) : zv_G := fun pc ls st h => @dite _ (∃ n, (zv_it c M n pc ls st h).isSome = true) (Classical.propDecidable _) (fun q => zv_it c M (Classical.choose q) pc ls st h) (fun _ => none)
theorem zv_lim_iff (c : zv_C) (M : zv_M) (pc : Nat) (ls : zv_Ls) (st : List zv_V) (h : zv_H) (r) : zv_lim c M pc ls st h = some r ↔ ∃ n, zv_it c M n pc ls st h = some r := by
  constructor
  · intro hr
    unfold zv_lim at hr
    split at hr
    · exact ⟨_, hr⟩
    · cases hr
  · rintro ⟨n, hn⟩
    have q : ∃ n, (zv_it c M n pc ls st h).isSome = true := ⟨n, by rw [hn]; rfl⟩
    unfold zv_lim
    rw [dif_pos q]
    obtain ⟨v, hv⟩ := Option.isSome_iff_exists.mp (Classical.choose_spec q)
    rw [hv]
    have h1 := zv_it_le c M hv (Nat.le_max_left (Classical.choose q) n)
    have h2 := zv_it_le c M hn (Nat.le_max_right (Classical.choose q) n)
    exact h1.symm.trans h2
theorem zv_lim_eq (c : zv_C) (M : zv_M) (pc : Nat) (ls : zv_Ls) (st : List zv_V) (h : zv_H) : zv_lim c M pc ls st h = zv_seg c M (zv_lim c M) 400 pc ls st h := by
  apply Option.ext
  intro r
  rw [zv_lim_iff]
  constructor
  · rintro ⟨n, hn⟩
    cases n with
    | zero => cases hn
    | succ n =>
      rcases zv_lin_seg c M 400 pc ls st h (zv_it c M n) r hn with hA | ⟨pc2, ls2, st2, h2, f1, f2⟩
      · exact hA _
      · exact f2 _ ((zv_lim_iff c M _ _ _ _ _).mpr ⟨n, f1⟩)
  · intro hr
    rcases zv_lin_seg c M 400 pc ls st h (zv_lim c M) r hr with hA | ⟨pc2, ls2, st2, h2, f1, f2⟩
    · exact ⟨1, hA _⟩
    · obtain ⟨n, hn⟩ := (zv_lim_iff c M _ _ _ _ _).mp f1
      exact ⟨n + 1, f2 _ hn⟩
end
section
/-! Calls by depth: the JDK's own six members, and the program's methods (zv_prog stands in 07). -/
def zv_jd (id : Nat) (as : List zv_V) (h : zv_H) : zv_O := match id, as with
  | 906, [Sum.inl x, Sum.inl y] => if 0 ≤ x ∧ x < y then some (none, h) else none
  | _, _ => none
def zv_en : List zv_V → Nat → zv_Ls
  | [], n => List.replicate n none
  | Sum.inr (Sum.inl x) :: t, n + 2 => some (zv_j x) :: none :: zv_en t n
  | Sum.inr (Sum.inl _) :: _, _ => []
  | Sum.inl x :: t, n + 1 => some (zv_i x) :: zv_en t n
  | Sum.inr (Sum.inr x) :: t, n + 1 => some (zv_r x) :: zv_en t n
  | _ :: _, 0 => []
/-- the receiver is an object of that class -/
def zv_ob (h : zv_H) (r ci : Nat) : Prop := r ≤ zv_n h ∧ zv_lay r = (1, ci)
def zv_rc (h : zv_H) (as : List zv_V) (o : Option Nat) : Prop := match o, as with
  | none, _ => True
  | some ci, Sum.inr (Sum.inr r) :: _ => if ci = 10 then 1000000 ≤ r ∧ r < 1000024 else zv_ob h r ci
  | some _, _ => False
noncomputable def zv_sem (pg : Nat → Option (Option Nat × zv_M)) (c : zv_C) (id : Nat) (as : List zv_V) (h : zv_H) : zv_O :=
  if 900 ≤ id then zv_jd id as h else
  match pg id with
  | none => none
  | some m => @ite _ (zv_rc h as m.1 ∧ zv_wd as ≤ m.2.1.2.2.2.1) (Classical.propDecidable _) (zv_lim c m.2 0 (zv_en as m.2.1.2.2.2.1) [] h) none
def zv_pjV (o : zv_O) : Option zv_H := match o with
  | some (none, h) => some h
  | _ => none
def zv_pjI (o : zv_O) : Option (Int × zv_H) := match o with
  | some (some (Sum.inl x), h) => some (x, h)
  | _ => none
def zv_pjJ (o : zv_O) : Option (Int64 × zv_H) := match o with
  | some (some (Sum.inr (Sum.inl x)), h) => some (x, h)
  | _ => none
def zv_pjR (o : zv_O) : Option (Nat × zv_H) := match o with
  | some (some (Sum.inr (Sum.inr x)), h) => some (x, h)
  | _ => none
noncomputable def zv_cs (pg : Nat → Option (Option Nat × zv_M)) : Nat → zv_C
  | 0 => (fun _ _ _ => none, (fun _ _ _ => none, (fun _ _ _ => none, fun _ _ _ => none)))
  | d + 1 => (fun id as h => zv_pjV (zv_sem pg (zv_cs pg d) id as h), (fun id as h => zv_pjI (zv_sem pg (zv_cs pg d) id as h), (fun id as h => zv_pjJ (zv_sem pg (zv_cs pg d) id as h), fun id as h => zv_pjR (zv_sem pg (zv_cs pg d) id as h))))
theorem zv_sem_of {pg : Nat → Option (Option Nat × zv_M)} {c : zv_C} {id : Nat} {as : List zv_V} {h : zv_H} {m : Option Nat × zv_M} {o : zv_O} (hid : Nat.blt id 900 = true) (hm : pg id = some m) (hr : zv_rc h as m.1) (hw : Nat.ble (zv_wd as) m.2.1.2.2.2.1 = true) (e : zv_lim c m.2 0 (zv_en as m.2.1.2.2.2.1) [] h = o) : zv_sem pg c id as h = o := by
  have h1 : ¬ 900 ≤ id := by
    have := Nat.blt_eq.mp hid
    omega
  have h2 : zv_wd as ≤ m.2.1.2.2.2.1 := Nat.ble_eq.mp hw
  unfold zv_sem
  rw [if_neg h1, hm]
  dsimp only
  rw [if_pos ⟨hr, h2⟩]
  exact e
end
section
/-! the program: pools, methods (instructions, heads), by program out of the task's printed files -/
def R_law : String := "BranchedTextLaw"
def zp_0 : zv_P := ([(14, (0, (0, false))), (20, (0, (1, false))), (24, (0, (2, false))), (28, (0, (3, false))), (31, (0, (4, false))), (37, (0, (5, false))), (44, (0, (6, false))), (51, (0, (7, false))), (58, (0, (8, false))), (65, (0, (9, false))), (69, (0, (10, false))), (79, (5, (3, true))), (83, (0, (11, false))), (87, (0, (12, false))), (90, (2, (2, true))), (93, (6, (4, true))), (97, (7, (1, true))), (98, (5, (9, true))), (99, (5, (12, true))), (130, (5, (11, true))), (133, (5, (5, true))), (136, (5, (4, true))), (146, (5, (14, true))), (149, (5, (13, true))), (157, (5, (10, true))), (167, (5, (7, true))), (174, (5, (15, true))), (181, (5, (17, true))), (185, (5, (0, true))), (196, (5, (1, true))), (206, (5, (6, true))), (216, (5, (8, true))), (244, (4, (8, true))), (251, (4, (9, true))), (271, (4, (7, true))), (280, (5, (16, true))), (283, (4, (6, true))), (337, (0, (13, false)))], ([(3, (998, (20, (0, 0)))), (11, (109, (1, (2, 0)))), (36, (90, (11, (1, 0)))), (43, (62, (11, (1, 0)))), (50, (118, (11, (1, 0)))), (57, (55, (11, (1, 0)))), (64, (126, (11, (1, 0)))), (72, (1, (0, (1, 0)))), (75, (110, (0, (5, 0)))), (94, (57, (0, (1, 0)))), (102, (91, (2, (2, 1)))), (106, (129, (0, (2, 1)))), (110, (5, (0, (3, 0)))), (114, (115, (0, (2, 0)))), (117, (114, (0, (2, 1)))), (120, (4, (0, (2, 1)))), (123, (95, (0, (2, 0)))), (127, (3, (0, (2, 3)))), (139, (11, (0, (1, 0)))), (142, (12, (0, (3, 3)))), (152, (997, (22, (2, 1)))), (160, (92, (2, (1, 1)))), (163, (119, (0, (3, 0)))), (170, (17, (0, (4, 3)))), (177, (20, (2, (1, 2)))), (188, (21, (0, (3, 0)))), (192, (135, (12, (3, 1)))), (199, (112, (0, (1, 1)))), (203, (60, (0, (3, 0)))), (209, (22, (2, (2, 1)))), (213, (61, (0, (1, 1)))), (219, (24, (0, (2, 3)))), (222, (16, (0, (2, 0)))), (225, (10, (0, (3, 3)))), (228, (46, (2, (2, 1)))), (232, (63, (0, (2, 1)))), (235, (65, (0, (2, 1)))), (238, (67, (0, (3, 0)))), (241, (68, (0, (2, 0)))), (247, (111, (0, (1, 2)))), (254, (107, (0, (2, 2)))), (260, (32, (0, (4, 1)))), (264, (108, (0, (2, 2)))), (267, (98, (0, (2, 0)))), (274, (307, (2, (1, 1)))), (284, (101, (0, (2, 1)))), (288, (100, (0, (2, 1)))), (289, (13, (2, (2, 1)))), (292, (34, (0, (1, 0)))), (295, (36, (0, (2, 1)))), (299, (93, (2, (1, 1)))), (302, (37, (0, (2, 1)))), (305, (38, (0, (3, 1)))), (309, (19, (0, (3, 1)))), (312, (35, (0, (2, 1)))), (315, (103, (0, (2, 1)))), (318, (127, (0, (1, 0)))), (321, (128, (0, (2, 0)))), (323, (18, (0, (3, 1)))), (327, (39, (0, (3, 1)))), (331, (116, (0, (2, 1)))), (334, (96, (0, (2, 0)))), (340, (14, (2, (2, 3)))), (343, (124, (0, (1, 0)))), (346, (40, (0, (2, 1)))), (349, (42, (0, (2, 0)))), (352, (125, (0, (1, 0)))), (355, (123, (0, (2, 0)))), (358, (66, (0, (2, 1)))), (361, (43, (0, (1, 3)))), (365, (45, (2, (2, 3)))), (369, (6, (0, (3, 1)))), (372, (996, (23, (2, 1)))), (375, (51, (0, (3, 1)))), (379, (49, (0, (3, 1))))], ([], ([(258, -1)], ([], [(9, 5), (34, 4), (41, 2), (48, 6), (55, 1), (62, 7)])))))
def zp_1 : zv_P := ([(11, (1, (0, false))), (15, (1, (1, false))), (18, (1, (2, false))), (21, (1, (3, false)))], ([(3, (998, (20, (0, 0)))), (25, (56, (0, (1, 0)))), (28, (58, (0, (4, 0)))), (32, (59, (0, (3, 0))))], ([], ([(36, -2)], ([], [])))))
def zp_2 : zv_P := ([(9, (2, (0, false))), (15, (2, (1, false))), (18, (2, (2, false)))], ([(3, (998, (20, (0, 0)))), (22, (63, (0, (2, 1)))), (26, (997, (22, (2, 1))))], ([], ([], ([], [])))))
def zp_3 : zv_P := ([(9, (3, (0, false))), (18, (3, (1, false))), (22, (3, (2, false))), (26, (3, (3, false))), (29, (3, (8, false))), (32, (3, (5, false))), (35, (3, (9, false))), (38, (3, (4, false))), (47, (3, (6, false))), (58, (3, (7, false))), (100, (0, (8, true))), (159, (3, (10, false))), (162, (3, (11, false))), (165, (3, (12, false)))], ([(3, (998, (20, (0, 0)))), (17, (126, (11, (1, 0)))), (41, (996, (23, (2, 1)))), (50, (75, (0, (1, 1)))), (54, (71, (0, (2, 1)))), (61, (76, (2, (1, 1)))), (65, (77, (2, (1, 1)))), (68, (72, (0, (2, 1)))), (71, (310, (0, (1, 1)))), (76, (312, (0, (2, 1)))), (82, (78, (0, (2, 1)))), (86, (82, (0, (2, 1)))), (89, (81, (0, (1, 1)))), (92, (2, (0, (2, 0)))), (103, (56, (0, (1, 0)))), (108, (83, (0, (3, 1)))), (112, (79, (0, (2, 1)))), (115, (127, (0, (1, 0)))), (116, (128, (0, (2, 0)))), (120, (84, (0, (3, 1)))), (125, (59, (0, (3, 0)))), (128, (85, (0, (3, 1)))), (135, (87, (0, (1, 1)))), (138, (86, (0, (3, 1)))), (141, (58, (0, (4, 0)))), (156, (89, (0, (1, 1))))], ([], ([], ([(80, 0), (98, 1), (123, 10), (131, 9), (133, 2), (145, 3), (147, 4), (149, 5), (150, 6), (152, 7), (154, 8), (168, 11), (170, 12), (172, 13), (174, 14), (176, 15), (178, 16), (180, 17), (182, 18), (184, 19), (186, 20), (188, 21), (190, 22)], [(15, 7)])))))
def zp_4 : zv_P := ([(11, (4, (0, false))), (17, (4, (1, false))), (21, (4, (2, false))), (25, (4, (3, false))), (28, (4, (4, false))), (35, (4, (5, false))), (46, (4, (6, false))), (53, (4, (9, false))), (61, (4, (8, false))), (64, (5, (10, true))), (80, (5, (6, true))), (83, (5, (16, true))), (88, (5, (4, true))), (92, (5, (15, true))), (95, (5, (9, true))), (96, (5, (0, true))), (106, (4, (7, false))), (124, (5, (17, true)))], ([(3, (998, (20, (0, 0)))), (31, (96, (0, (2, 0)))), (39, (113, (0, (1, 1)))), (43, (97, (0, (2, 0)))), (49, (94, (2, (1, 1)))), (57, (98, (0, (2, 0)))), (67, (996, (23, (2, 1)))), (73, (112, (0, (1, 1)))), (76, (111, (0, (1, 2)))), (99, (91, (2, (2, 1)))), (102, (116, (0, (2, 1)))), (109, (92, (2, (1, 1)))), (112, (100, (0, (2, 1)))), (115, (102, (0, (2, 1)))), (118, (101, (0, (2, 1)))), (121, (117, (0, (2, 1))))], ([], ([(86, -1)], ([], [(9, 5)])))))
def zp_5 : zv_P := ([(9, (5, (1, false))), (15, (5, (2, false))), (18, (5, (0, false))), (22, (5, (3, false))), (26, (5, (4, false))), (30, (5, (5, false))), (33, (5, (6, false))), (36, (5, (7, false))), (39, (5, (8, false))), (42, (5, (9, false))), (45, (5, (10, false))), (48, (5, (11, false))), (51, (5, (12, false))), (54, (5, (13, false))), (57, (5, (14, false))), (60, (5, (15, false))), (63, (5, (16, false))), (67, (5, (17, false)))], ([(3, (998, (20, (0, 0)))), (70, (116, (0, (2, 1))))], ([], ([], ([], [])))))
def zp_6 : zv_P := ([(9, (6, (0, false))), (15, (6, (1, false))), (18, (6, (2, false))), (21, (6, (3, false))), (24, (6, (4, false))), (28, (5, (0, true))), (33, (5, (13, true))), (46, (6, (5, false)))], ([(3, (998, (20, (0, 0)))), (36, (120, (0, (2, 1)))), (40, (999, (21, (5, 0))))], ([], ([], ([], [])))))
def zp_7 : zv_P := ([(9, (7, (0, false))), (15, (7, (1, false)))], ([(3, (998, (20, (0, 0)))), (19, (135, (12, (3, 1)))), (23, (129, (0, (2, 1))))], ([], ([], ([], [])))))
def zp_8 : zv_P := ([(9, (8, (0, false))), (16, (8, (1, false))), (23, (8, (2, false))), (30, (8, (3, false))), (34, (8, (4, false))), (37, (8, (5, false))), (41, (8, (6, false))), (44, (8, (7, false))), (55, (3, (2, true))), (69, (3, (8, true))), (72, (3, (9, true))), (112, (0, (12, true))), (115, (3, (10, true))), (118, (3, (11, true))), (121, (3, (1, true))), (128, (3, (12, true))), (169, (0, (10, true))), (173, (5, (0, true))), (178, (0, (11, true))), (181, (5, (12, true))), (188, (4, (6, true))), (193, (0, (6, true))), (197, (2, (2, true))), (216, (0, (7, true))), (220, (6, (4, true))), (231, (5, (4, true))), (234, (5, (6, true))), (237, (5, (7, true))), (240, (5, (8, true))), (243, (5, (9, true))), (244, (5, (5, true))), (247, (5, (11, true))), (250, (5, (10, true))), (260, (0, (5, true))), (268, (4, (8, true))), (275, (4, (9, true))), (322, (5, (17, true))), (364, (4, (5, true))), (389, (4, (7, true))), (392, (7, (1, true)))], ([(3, (998, (20, (0, 0)))), (15, (126, (11, (1, 0)))), (22, (69, (11, (1, 0)))), (29, (0, (1, (1, 0)))), (48, (132, (0, (2, 1)))), (52, (133, (0, (2, 1)))), (58, (138, (0, (2, 0)))), (62, (70, (0, (2, 0)))), (65, (135, (2, (3, 1)))), (75, (141, (2, (3, 1)))), (79, (127, (0, (1, 0)))), (82, (128, (0, (2, 0)))), (85, (1, (0, (1, 0)))), (88, (74, (0, (2, 0)))), (90, (80, (0, (2, 0)))), (94, (73, (0, (1, 1)))), (98, (88, (0, (1, 1)))), (101, (143, (0, (2, 1)))), (105, (72, (0, (2, 1)))), (109, (75, (0, (1, 1)))), (124, (18, (0, (3, 1)))), (131, (19, (0, (3, 1)))), (135, (23, (0, (2, 1)))), (138, (25, (0, (1, 1)))), (142, (26, (0, (1, 1)))), (145, (27, (0, (2, 1)))), (148, (130, (0, (1, 1)))), (151, (28, (0, (2, 1)))), (154, (30, (0, (2, 1)))), (157, (31, (0, (2, 1)))), (160, (33, (0, (2, 1)))), (163, (40, (0, (2, 1)))), (166, (44, (0, (2, 1)))), (184, (7, (0, (1, 3)))), (200, (8, (0, (1, 1)))), (203, (9, (0, (1, 1)))), (206, (104, (0, (1, 2)))), (210, (307, (2, (1, 1)))), (223, (3, (0, (2, 3)))), (227, (6, (0, (3, 1)))), (253, (66, (0, (2, 1)))), (256, (10, (0, (3, 3)))), (264, (96, (0, (2, 0)))), (272, (111, (0, (1, 2)))), (278, (114, (0, (2, 1)))), (281, (92, (2, (1, 1)))), (284, (93, (2, (1, 1)))), (287, (102, (0, (2, 1)))), (290, (100, (0, (2, 1)))), (291, (4, (0, (2, 1)))), (294, (101, (0, (2, 1)))), (297, (105, (0, (2, 1)))), (300, (106, (0, (2, 1)))), (303, (121, (0, (2, 1)))), (306, (122, (0, (2, 1)))), (309, (63, (0, (2, 1)))), (312, (65, (0, (2, 1)))), (315, (112, (0, (1, 1)))), (318, (13, (2, (2, 1)))), (325, (134, (0, (2, 1)))), (328, (29, (0, (2, 1)))), (331, (45, (2, (2, 3)))), (335, (47, (2, (3, 3)))), (339, (48, (0, (3, 1)))), (343, (49, (0, (3, 1)))), (346, (50, (0, (3, 1)))), (349, (41, (0, (3, 1)))), (352, (173, (0, (1, 0)))), (355, (174, (0, (1, 0)))), (358, (175, (0, (1, 0)))), (361, (177, (0, (2, 0)))), (367, (99, (0, (2, 1)))), (370, (176, (0, (2, 0)))), (373, (64, (0, (2, 1)))), (376, (107, (0, (2, 2)))), (380, (15, (0, (2, 1)))), (385, (98, (0, (2, 0)))), (393, (53, (0, (2, 1)))), (397, (52, (0, (2, 1)))), (400, (51, (0, (3, 1)))), (404, (43, (0, (1, 3)))), (408, (54, (0, (2, 1)))), (412, (24, (0, (2, 3))))], ([], ([(383, -1)], ([], [(13, 7), (20, 3), (27, 0)])))))
def zp_9 : zv_P := ([(7, (9, (0, false))), (13, (9, (1, false))), (16, (9, (2, false))), (19, (9, (5, false))), (22, (9, (6, false))), (25, (9, (7, false))), (28, (9, (8, false))), (32, (9, (9, false))), (35, (9, (13, false))), (38, (9, (14, false))), (41, (9, (15, false))), (44, (9, (16, false))), (47, (9, (17, false))), (50, (9, (18, false))), (53, (9, (21, false))), (56, (9, (22, false))), (59, (9, (23, false))), (62, (9, (25, false))), (65, (9, (26, false))), (69, (9, (28, false))), (73, (9, (29, false))), (100, (9, (39, false))), (114, (9, (40, false))), (129, (9, (41, false))), (132, (9, (44, false))), (135, (9, (45, false))), (138, (9, (46, false))), (144, (9, (4, false))), (147, (9, (3, false))), (162, (9, (11, false))), (168, (9, (10, false))), (190, (9, (12, false))), (223, (9, (20, false))), (226, (9, (19, false))), (272, (9, (24, false))), (305, (9, (27, false))), (311, (9, (36, false))), (314, (9, (33, false))), (317, (9, (32, false))), (327, (9, (34, false))), (333, (9, (38, false))), (341, (9, (35, false))), (344, (9, (30, false))), (347, (9, (31, false))), (374, (9, (37, false))), (387, (9, (42, false))), (390, (9, (43, false))), (467, (9, (47, false)))], ([(1, (998, (20, (0, 0)))), (141, (189, (0, (1, 0)))), (150, (191, (0, (4, 0)))), (154, (188, (2, (3, 1)))), (158, (190, (0, (3, 1)))), (165, (200, (0, (3, 1)))), (171, (196, (0, (3, 1)))), (175, (199, (0, (2, 1)))), (179, (193, (0, (2, 1)))), (183, (201, (0, (2, 0)))), (187, (202, (0, (2, 0)))), (193, (203, (0, (2, 0)))), (196, (205, (0, (2, 1)))), (199, (194, (0, (1, 1)))), (203, (192, (0, (2, 1)))), (206, (198, (0, (3, 1)))), (209, (209, (0, (2, 1)))), (212, (214, (2, (3, 1)))), (215, (213, (0, (5, 1)))), (219, (215, (0, (1, 1)))), (229, (206, (0, (2, 1)))), (232, (186, (0, (2, 1)))), (235, (195, (0, (1, 1)))), (238, (212, (0, (1, 1)))), (241, (204, (0, (2, 1)))), (244, (216, (0, (4, 1)))), (247, (217, (0, (6, 0)))), (251, (208, (0, (2, 0)))), (254, (227, (0, (2, 1)))), (257, (222, (0, (2, 1)))), (260, (226, (0, (3, 1)))), (263, (223, (0, (3, 1)))), (266, (224, (0, (1, 0)))), (269, (225, (0, (2, 1)))), (275, (210, (0, (3, 1)))), (278, (232, (0, (3, 1)))), (281, (233, (0, (3, 1)))), (284, (218, (2, (2, 1)))), (288, (219, (0, (2, 1)))), (291, (236, (0, (3, 1)))), (294, (197, (0, (3, 0)))), (298, (237, (0, (3, 0)))), (302, (238, (0, (2, 1)))), (308, (240, (0, (2, 0)))), (322, (317, (0, (2, 1)))), (330, (242, (0, (4, 1)))), (350, (246, (0, (2, 1)))), (354, (244, (0, (3, 0)))), (358, (243, (0, (1, 0)))), (361, (252, (0, (1, 0)))), (364, (245, (0, (2, 1)))), (368, (250, (0, (2, 0)))), (371, (253, (0, (1, 0)))), (377, (251, (0, (1, 0)))), (380, (247, (0, (2, 0)))), (384, (248, (0, (1, 1)))), (393, (249, (0, (2, 0)))), (396, (255, (0, (2, 1)))), (399, (230, (0, (1, 1)))), (402, (231, (0, (1, 1)))), (405, (234, (0, (2, 1)))), (408, (235, (0, (1, 1)))), (411, (239, (0, (3, 1)))), (414, (228, (0, (2, 1)))), (417, (229, (0, (2, 1)))), (420, (287, (0, (2, 1)))), (423, (187, (0, (2, 1)))), (426, (254, (0, (1, 0)))), (429, (211, (0, (2, 1)))), (432, (258, (0, (1, 1)))), (435, (259, (0, (1, 1)))), (438, (260, (0, (1, 1)))), (441, (263, (0, (2, 1)))), (444, (268, (0, (4, 1)))), (448, (221, (0, (1, 0)))), (451, (283, (0, (1, 1)))), (454, (290, (0, (2, 1)))), (457, (207, (0, (3, 1)))), (461, (292, (0, (3, 1)))), (464, (291, (0, (3, 1)))), (470, (296, (0, (2, 0)))), (473, (297, (0, (2, 0)))), (476, (298, (0, (1, 0)))), (479, (302, (0, (2, 1))))], ([], ([(76, 12251), (78, 2774), (80, 453701), (82, 423672), (84, 358062), (86, 204), (88, 276647), (90, 244366229642), (92, 7055815802), (94, 1627639), (96, 7020464), (98, 8873042), (104, 10492274), (106, 208022), (108, 423), (110, 1111), (112, 10631), (117, 5146), (119, 381245), (121, 223456), (123, 375062), (125, 279252), (127, 247516), (337, 27), (339, 96)], ([(320, 23)], [])))))
def zp_10 : zv_P := ([], ([(9, (131, (1, (1, 0)))), (12, (184, (1, (1, 0)))), (13, (136, (0, (1, 1)))), (17, (185, (0, (1, 1)))), (18, (137, (0, (6, 1)))), (22, (241, (0, (6, 1)))), (23, (142, (0, (2, 1)))), (27, (256, (0, (2, 1)))), (28, (139, (0, (2, 1)))), (31, (257, (0, (2, 1)))), (32, (140, (0, (3, 1)))), (36, (220, (0, (3, 1)))), (37, (144, (0, (2, 1)))), (40, (261, (0, (2, 1)))), (41, (145, (0, (3, 1)))), (44, (262, (0, (3, 1)))), (45, (146, (0, (3, 1)))), (48, (264, (0, (3, 1)))), (49, (147, (0, (3, 1)))), (52, (265, (0, (3, 1)))), (53, (148, (0, (3, 1)))), (56, (266, (0, (3, 1)))), (57, (149, (0, (3, 1)))), (60, (267, (0, (3, 1)))), (61, (150, (0, (3, 1)))), (64, (269, (0, (3, 1)))), (65, (151, (0, (3, 1)))), (68, (270, (0, (3, 1)))), (69, (152, (0, (1, 1)))), (72, (271, (0, (1, 1)))), (73, (153, (0, (3, 1)))), (76, (272, (0, (3, 1)))), (77, (154, (0, (2, 1)))), (80, (273, (0, (2, 1)))), (81, (155, (0, (3, 1)))), (84, (274, (0, (3, 1)))), (85, (156, (0, (2, 1)))), (88, (275, (0, (2, 1)))), (89, (157, (0, (1, 1)))), (92, (276, (0, (1, 1)))), (93, (158, (0, (1, 1)))), (96, (277, (0, (1, 1)))), (97, (159, (0, (2, 1)))), (100, (278, (0, (2, 1)))), (101, (160, (0, (1, 1)))), (104, (279, (0, (1, 1)))), (105, (161, (0, (1, 1)))), (108, (280, (0, (1, 1)))), (109, (162, (0, (2, 1)))), (112, (281, (0, (2, 1)))), (113, (163, (0, (2, 1)))), (116, (282, (0, (2, 1)))), (117, (164, (0, (2, 1)))), (120, (284, (0, (2, 1)))), (121, (165, (0, (2, 1)))), (124, (285, (0, (2, 1)))), (125, (166, (0, (2, 1)))), (128, (286, (0, (2, 1)))), (129, (167, (0, (3, 1)))), (132, (288, (0, (3, 1)))), (133, (168, (0, (4, 1)))), (137, (289, (0, (4, 1)))), (138, (169, (0, (4, 1)))), (141, (293, (0, (4, 1)))), (142, (170, (0, (3, 1)))), (145, (294, (0, (3, 1)))), (146, (171, (0, (3, 1)))), (149, (295, (0, (3, 1)))), (150, (172, (0, (2, 1)))), (153, (299, (0, (2, 1)))), (154, (178, (0, (2, 1)))), (157, (300, (0, (2, 1)))), (158, (179, (0, (3, 1)))), (161, (301, (0, (3, 1)))), (162, (180, (0, (2, 1)))), (165, (303, (0, (2, 1)))), (166, (181, (0, (1, 1)))), (169, (304, (0, (1, 1)))), (170, (182, (0, (2, 1)))), (173, (305, (0, (2, 1)))), (174, (183, (0, (2, 1)))), (177, (306, (0, (2, 1))))], ([], ([], ([], [(7, 8), (10, 9)])))))
def zp_12 : zv_P := ([], ([], ([], ([(314, 6148914691236517205), (316, 3689348814741910323), (318, 1085102592571150095)], ([], [])))))
def zp_13 : zv_P := ([(9, (10, (0, false))), (15, (10, (1, false)))], ([(335, (308, (0, (1, 1)))), (492, (309, (0, (1, 1)))), (495, (311, (2, (2, 1)))), (505, (310, (0, (1, 1)))), (633, (316, (0, (3, 1)))), (637, (315, (2, (4, 1))))], ([(38, 1)], ([], ([], [])))))
def zp_14 : zv_P := ([], ([(9, (906, (2, (2, 0)))), (38, (996, (23, (2, 1)))), (88, (313, (2, (1, 1)))), (92, (997, (22, (2, 1)))), (95, (314, (2, (4, 1))))], ([], ([], ([], [])))))
def mc0_init : zv_M := ((RX0, (⟨RX0, "<init>", "()V"⟩, (prog_2_method_1_code, (2, none)))), ([(0, .aload_n 0), (1, .invokespecial 3), (4, .aload_n 0), (5, .new 9), (8, .dup), (9, .iconst 0), (10, .invokespecial 11), (13, .putfield 14), (16, .aload_n 0), (17, .bipush 48), (19, .anewarray 9), (22, .putfield 20), (25, .aload_n 0), (26, .sipush 604), (29, .newarray .int), (31, .putfield 24), (34, .aload_n 0), (35, .bipush 48), (37, .newarray .int), (39, .putfield 28), (42, .aload_n 0), (43, .bipush 121), (45, .newarray .int), (47, .putfield 31), (50, .aload_n 0), (51, .new 34), (54, .dup), (55, .invokespecial 36), (58, .putfield 37), (61, .aload_n 0), (62, .new 41), (65, .dup), (66, .invokespecial 43), (69, .putfield 44), (72, .aload_n 0), (73, .new 48), (76, .dup), (77, .invokespecial 50), (80, .putfield 51), (83, .aload_n 0), (84, .new 55), (87, .dup), (88, .invokespecial 57), (91, .putfield 58), (94, .aload_n 0), (95, .new 62), (98, .dup), (99, .invokespecial 64), (102, .putfield 65), (105, .aload_n 0), (106, .aload_n 0), (107, .getfield 14), (110, .putfield 69), (113, .aload_n 0), (114, .getfield 20), (117, .iconst 0), (118, .aload_n 0), (119, .getfield 14), (122, .aastore), (123, .iconst 1), (124, .istore_n 1), (125, .iload_n 1), (126, .bipush 48), (128, .if_icmp .ge 23), (131, .aload_n 0), (132, .getfield 20), (135, .iload_n 1), (136, .new 9), (139, .dup), (140, .iload_n 1), (141, .invokespecial 11), (144, .aastore), (145, .iinc 1 1), (148, .goto (-23)), (151, .aload_n 0), (152, .invokevirtual 72), (155, .return_)], ([(125, [true, true])], zp_0)))
def mc0_begin : zv_M := ((RX0, (⟨RX0, "begin", "()V"⟩, (prog_2_method_2_code, (2, none)))), ([(0, .iconst 0), (1, .istore_n 1), (2, .iload_n 1), (3, .bipush 48), (5, .if_icmp .ge 49), (8, .aload_n 0), (9, .getfield 20), (12, .iload_n 1), (13, .aaload), (14, .ifnull 34), (17, .aload_n 0), (18, .getfield 20), (21, .iload_n 1), (22, .aaload), (23, .aconst_null), (24, .iconst (-1)), (25, .iconst (-1)), (26, .iconst 0), (27, .invokevirtual 75), (30, .aload_n 0), (31, .getfield 20), (34, .iload_n 1), (35, .aaload), (36, .iload_n 1), (37, .ifCond .ne 7), (40, .iconst 1), (41, .goto 4), (44, .iconst 0), (45, .putfield 79), (48, .iinc 1 1), (51, .goto (-49)), (54, .aload_n 0), (55, .aload_n 0), (56, .getfield 14), (59, .putfield 69), (62, .aload_n 0), (63, .iconst 0), (64, .putfield 83), (67, .aload_n 0), (68, .iconst 1), (69, .putfield 87), (72, .aload_n 0), (73, .getfield 44), (76, .iconst 0), (77, .putfield 90), (80, .aload_n 0), (81, .getfield 51), (84, .iconst 0), (85, .putfield 93), (88, .aload_n 0), (89, .getfield 58), (92, .invokevirtual 94), (95, .return_)], ([(2, [true, true])], zp_0)))
def mc0_startWith : zv_M := ((RX0, (⟨RX0, "startWith", "(LBranchedText$Word;)V"⟩, (prog_2_method_3_code, (4, none)))), ([(0, .aload_n 0), (1, .getfield 14), (4, .aload_n 1), (5, .getfield 97), (8, .putfield 98), (11, .aload_n 0), (12, .getfield 14), (15, .iconst 0), (16, .putfield 99), (19, .iconst 0), (20, .istore_n 2), (21, .iload_n 2), (22, .aload_n 1), (23, .getfield 97), (26, .if_icmp .ge 33), (29, .iconst 0), (30, .iload_n 2), (31, .invokestatic 102), (34, .istore_n 3), (35, .aload_n 0), (36, .iload_n 3), (37, .aload_n 1), (38, .iload_n 2), (39, .invokevirtual 106), (42, .invokevirtual 110), (45, .aload_n 0), (46, .getfield 14), (49, .iload_n 3), (50, .invokevirtual 114), (53, .iinc 2 1), (56, .goto (-35)), (59, .return_)], ([(21, [true, true, true, false])], zp_0)))
def mc0_at : zv_M := ((RX0, (⟨RX0, "at", "(I)LBranchedText$State;"⟩, (prog_2_method_4_code, (3, (some (.object "BranchedText$State")))))), ([(0, .iload_n 1), (1, .ifCond .lt 9), (4, .iload_n 1), (5, .bipush 48), (7, .if_icmp .lt 5), (10, .aconst_null), (11, .areturn), (12, .aload_n 0), (13, .getfield 20), (16, .iload_n 1), (17, .aaload), (18, .astore_n 2), (19, .aload_n 2), (20, .ifnull 14), (23, .aload_n 2), (24, .getfield 79), (27, .ifCond .eq 7), (30, .aload_n 2), (31, .goto 4), (34, .aconst_null), (35, .areturn)], ([], zp_0)))
def mc0_glyph : zv_M := ((RX0, (⟨RX0, "glyph", "(I)I"⟩, (prog_2_method_5_code, (2, (some .int))))), ([(0, .iload_n 1), (1, .ifCond .lt 19), (4, .iload_n 1), (5, .sipush 604), (8, .if_icmp .ge 12), (11, .aload_n 0), (12, .getfield 24), (15, .iload_n 1), (16, .iaload), (17, .goto 4), (20, .iconst (-1)), (21, .ireturn)], ([], zp_0)))
def mc0_setGlyph : zv_M := ((RX0, (⟨RX0, "setGlyph", "(II)V"⟩, (prog_2_method_6_code, (3, none)))), ([(0, .iload_n 1), (1, .ifCond .lt 17), (4, .iload_n 1), (5, .sipush 604), (8, .if_icmp .ge 10), (11, .aload_n 0), (12, .getfield 24), (15, .iload_n 1), (16, .iload_n 2), (17, .iastore), (18, .return_)], ([], zp_0)))
def mc0_letterAt : zv_M := ((RX0, (⟨RX0, "letterAt", "(LBranchedText$State;I)I"⟩, (prog_2_method_7_code, (3, (some .int))))), ([(0, .aload_n 0), (1, .aload_n 1), (2, .iload_n 2), (3, .invokevirtual 117), (6, .invokevirtual 120), (9, .ireturn)], ([], zp_0)))
def mc0_rowOfHere : zv_M := ((RX0, (⟨RX0, "rowOfHere", "()LBranchedText$Row;"⟩, (prog_2_method_8_code, (1, (some (.object "BranchedText$Row")))))), ([(0, .aload_n 0), (1, .getfield 37), (4, .aload_n 0), (5, .getfield 69), (8, .invokevirtual 123), (11, .aload_n 0), (12, .getfield 37), (15, .areturn)], ([], zp_0)))
def mc0_leaves : zv_M := ((RX0, (⟨RX0, "leaves", "()I"⟩, (prog_2_method_9_code, (4, (some .int))))), ([(0, .iconst 0), (1, .istore_n 1), (2, .iconst 0), (3, .istore_n 2), (4, .iload_n 2), (5, .bipush 48), (7, .if_icmp .ge 34), (10, .aload_n 0), (11, .iload_n 2), (12, .invokevirtual 127), (15, .astore_n 3), (16, .iload_n 1), (17, .aload_n 3), (18, .ifnull 14), (21, .aload_n 3), (22, .getfield 130), (25, .ifCond .ne 7), (28, .iconst 1), (29, .goto 4), (32, .iconst 0), (33, .iadd), (34, .istore_n 1), (35, .iinc 2 1), (38, .goto (-34)), (41, .iload_n 1), (42, .ireturn)], ([(4, [true, true, true, false])], zp_0)))
def mc0_groups : zv_M := ((RX0, (⟨RX0, "groups", "()I"⟩, (prog_2_method_10_code, (3, (some .int))))), ([(0, .iconst 0), (1, .istore_n 1), (2, .aload_n 0), (3, .getfield 69), (6, .astore_n 2), (7, .aload_n 2), (8, .ifnull 35), (11, .iload_n 1), (12, .aload_n 2), (13, .aload_n 0), (14, .getfield 14), (17, .if_acmp .eq 15), (20, .aload_n 2), (21, .getfield 133), (24, .aload_n 2), (25, .if_acmp .ne 7), (28, .iconst 1), (29, .goto 4), (32, .iconst 0), (33, .iadd), (34, .istore_n 1), (35, .aload_n 2), (36, .getfield 136), (39, .astore_n 2), (40, .goto (-33)), (43, .iload_n 1), (44, .ireturn)], ([(7, [true, true, true])], zp_0)))
def mc0_childOf : zv_M := ((RX0, (⟨RX0, "childOf", "(LBranchedText$State;I)LBranchedText$State;"⟩, (prog_2_method_11_code, (6, (some (.object "BranchedText$State")))))), ([(0, .iload_n 2), (1, .ifCond .lt 11), (4, .iload_n 2), (5, .aload_n 1), (6, .getfield 130), (9, .if_icmp .lt 5), (12, .aconst_null), (13, .areturn), (14, .aload_n 0), (15, .invokevirtual 139), (18, .aconst_null), (19, .astore_n 3), (20, .aload_n 0), (21, .getfield 51), (24, .getfield 93), (27, .iconst 1), (28, .iadd), (29, .istore 4), (31, .iconst 0), (32, .istore 5), (34, .iload 5), (36, .iload_n 2), (37, .if_icmp .gt 29), (40, .aload_n 0), (41, .aload_n 1), (42, .iload 4), (44, .invokevirtual 142), (47, .astore_n 3), (48, .aload_n 3), (49, .ifnonnull 5), (52, .aconst_null), (53, .areturn), (54, .aload_n 3), (55, .getfield 146), (58, .istore 4), (60, .iinc 5 1), (63, .goto (-29)), (66, .aload_n 3), (67, .areturn)], ([(34, [true, true, true, true, true, true])], zp_0)))
def mc0_findNewest : zv_M := ((RX0, (⟨RX0, "findNewest", "()V"⟩, (prog_2_method_12_code, (4, none)))), ([(0, .iconst 0), (1, .istore_n 1), (2, .iload_n 1), (3, .bipush 48), (5, .if_icmp .ge 28), (8, .aload_n 0), (9, .getfield 20), (12, .iload_n 1), (13, .aaload), (14, .ifnull 13), (17, .aload_n 0), (18, .getfield 20), (21, .iload_n 1), (22, .aaload), (23, .iconst 0), (24, .putfield 146), (27, .iinc 1 1), (30, .goto (-28)), (33, .iconst 0), (34, .istore_n 1), (35, .iload_n 1), (36, .bipush 48), (38, .if_icmp .ge 44), (41, .aload_n 0), (42, .iload_n 1), (43, .invokevirtual 127), (46, .astore_n 2), (47, .aload_n 2), (48, .astore_n 3), (49, .aload_n 3), (50, .ifnull 26), (53, .aload_n 3), (54, .aload_n 3), (55, .getfield 146), (58, .aload_n 2), (59, .getfield 149), (62, .invokestatic 152), (65, .putfield 146), (68, .aload_n 3), (69, .getfield 136), (72, .astore_n 3), (73, .goto (-24)), (76, .iinc 1 1), (79, .goto (-44)), (82, .return_)], ([(2, [true, true, false, false]), (35, [true, true, false, false]), (49, [true, true, true, true])], zp_0)))
def mc0_newestChild : zv_M := ((RX0, (⟨RX0, "newestChild", "(LBranchedText$State;I)LBranchedText$State;"⟩, (prog_2_method_13_code, (6, (some (.object "BranchedText$State")))))), ([(0, .aconst_null), (1, .astore_n 3), (2, .iconst 0), (3, .istore 4), (5, .iload 4), (7, .bipush 48), (9, .if_icmp .ge 59), (12, .aload_n 0), (13, .iload 4), (15, .invokevirtual 127), (18, .astore 5), (20, .aload 5), (22, .ifnull 40), (25, .aload 5), (27, .getfield 136), (30, .aload_n 1), (31, .if_acmp .ne 31), (34, .aload 5), (36, .getfield 146), (39, .iload_n 2), (40, .if_icmp .ge 22), (43, .aload_n 3), (44, .ifnull 15), (47, .aload 5), (49, .getfield 146), (52, .aload_n 3), (53, .getfield 146), (56, .if_icmp .le 6), (59, .aload 5), (61, .astore_n 3), (62, .iinc 4 1), (65, .goto (-60)), (68, .aload_n 3), (69, .areturn)], ([(5, [true, true, true, true, true, false])], zp_0)))
def mc0_onLine : zv_M := ((RX0, (⟨RX0, "onLine", "(LBranchedText$State;LBranchedText$State;)Z"⟩, (prog_2_method_14_code, (3, (some .boolean))))), ([(0, .aload_n 1), (1, .astore_n 2), (2, .aload_n 2), (3, .ifnull 22), (6, .aload_n 2), (7, .getfield 157), (10, .aload_n 0), (11, .getfield 157), (14, .if_icmp .le 11), (17, .aload_n 2), (18, .getfield 136), (21, .astore_n 2), (22, .goto (-20)), (25, .aload_n 2), (26, .aload_n 0), (27, .if_acmp .ne 7), (30, .iconst 1), (31, .goto 4), (34, .iconst 0), (35, .ireturn)], ([(2, [true, false, true]), (25, [true, false, true])], zp_0)))
def mc0_above : zv_M := ((RX0, (⟨RX0, "above", "(LBranchedText$State;I)LBranchedText$State;"⟩, (prog_2_method_15_code, (3, (some (.object "BranchedText$State")))))), ([(0, .aload_n 0), (1, .astore_n 2), (2, .aload_n 2), (3, .ifnull 19), (6, .aload_n 2), (7, .getfield 157), (10, .iload_n 1), (11, .if_icmp .le 11), (14, .aload_n 2), (15, .getfield 136), (18, .astore_n 2), (19, .goto (-17)), (22, .aload_n 2), (23, .areturn)], ([(2, [false, true, true])], zp_0)))
def mc0_lettersOfHereBy : zv_M := ((RX0, (⟨RX0, "lettersOfHereBy", "(J)I"⟩, (prog_2_method_16_code, (5, (some .int))))), ([(0, .iconst 0), (1, .istore_n 3), (2, .iconst 0), (3, .istore 4), (5, .iload 4), (7, .aload_n 0), (8, .getfield 69), (11, .getfield 99), (14, .if_icmp .ge 38), (17, .iload_n 3), (18, .lload_n 1), (19, .aload_n 0), (20, .getfield 69), (23, .iload 4), (25, .invokevirtual 117), (28, .invokestatic 160), (31, .lushr), (32, .lconst 1), (33, .land), (34, .lconst 0), (35, .lcmp), (36, .ifCond .eq 7), (39, .iconst 1), (40, .goto 4), (43, .iconst 0), (44, .iadd), (45, .istore_n 3), (46, .iinc 4 1), (49, .goto (-44)), (52, .iload_n 3), (53, .ireturn)], ([(5, [true, true, false, true, true])], zp_0)))
def mc0_moveTo : zv_M := ((RX0, (⟨RX0, "moveTo", "(LBranchedText$State;)V"⟩, (prog_2_method_17_code, (2, none)))), ([(0, .aload_n 0), (1, .aload_n 1), (2, .putfield 69), (5, .aload_n 0), (6, .getfield 51), (9, .aload_n 1), (10, .aload_n 0), (11, .getfield 83), (14, .invokevirtual 163), (17, .return_)], ([], zp_0)))
def mc0_grow : zv_M := ((RX0, (⟨RX0, "grow", "(III)LBranchedText$State;"⟩, (prog_2_method_18_code, (6, (some (.object "BranchedText$State")))))), ([(0, .iconst 0), (1, .istore 4), (3, .iload 4), (5, .bipush 48), (7, .if_icmp .ge 18), (10, .aload_n 0), (11, .iload 4), (13, .invokevirtual 127), (16, .ifnull 9), (19, .iinc 4 1), (22, .goto (-19)), (25, .iload 4), (27, .bipush 48), (29, .if_icmp .ge 13), (32, .aload_n 0), (33, .getfield 20), (36, .iload 4), (38, .aaload), (39, .ifnonnull 5), (42, .aconst_null), (43, .areturn), (44, .aload_n 0), (45, .getfield 20), (48, .iload 4), (50, .aaload), (51, .astore 5), (53, .aload 5), (55, .aload_n 0), (56, .getfield 69), (59, .iload_n 1), (60, .iload_n 2), (61, .iload_n 3), (62, .invokevirtual 75), (65, .aload 5), (67, .aload_n 0), (68, .getfield 83), (71, .putfield 167), (74, .aload_n 0), (75, .getfield 69), (78, .dup), (79, .getfield 130), (82, .iconst 1), (83, .iadd), (84, .putfield 130), (87, .aload_n 0), (88, .dup), (89, .getfield 87), (92, .iconst 1), (93, .iadd), (94, .putfield 87), (97, .aload_n 0), (98, .aload 5), (100, .putfield 69), (103, .aload_n 0), (104, .getfield 51), (107, .aload 5), (109, .aload_n 0), (110, .getfield 83), (113, .invokevirtual 163), (116, .aload 5), (118, .areturn)], ([(3, [true, true, true, true, true, false]), (25, [true, true, true, true, true, false])], zp_0)))
def mc0_putWord : zv_M := ((RX0, (⟨RX0, "putWord", "(ILBranchedText$Word;)I"⟩, (prog_2_method_19_code, (7, (some .int))))), ([(0, .iload_n 1), (1, .ifCond .lt 21), (4, .iload_n 1), (5, .aload_n 0), (6, .getfield 69), (9, .getfield 99), (12, .if_icmp .gt 10), (15, .aload_n 2), (16, .getfield 97), (19, .ifCond .ne 5), (22, .iconst (-1)), (23, .ireturn), (24, .aload_n 0), (25, .getfield 87), (28, .bipush 48), (30, .if_icmp .lt 6), (33, .bipush (-3)), (35, .ireturn), (36, .aload_n 0), (37, .getfield 69), (40, .getfield 99), (43, .aload_n 2), (44, .getfield 97), (47, .iadd), (48, .bipush 120), (50, .if_icmp .le 6), (53, .bipush (-6)), (55, .ireturn), (56, .aload_n 0), (57, .getfield 69), (60, .astore_n 3), (61, .aload_n 0), (62, .iconst 0), (63, .iload_n 1), (64, .aload_n 2), (65, .getfield 97), (68, .invokevirtual 170), (71, .astore 4), (73, .aload 4), (75, .ifnonnull 6), (78, .bipush (-3)), (80, .ireturn), (81, .aload 4), (83, .aload_n 3), (84, .iload_n 1), (85, .iconst 1), (86, .isub), (87, .invokevirtual 117), (90, .putfield 174), (93, .aload 4), (95, .aload 4), (97, .getfield 174), (100, .invokestatic 177), (103, .putfield 181), (106, .iconst 0), (107, .istore 5), (109, .iload 5), (111, .iload_n 1), (112, .if_icmp .ge 20), (115, .aload 4), (117, .aload_n 3), (118, .iload 5), (120, .invokevirtual 117), (123, .invokevirtual 114), (126, .iinc 5 1), (129, .goto (-20)), (132, .iconst 0), (133, .istore 5), (135, .iload 5), (137, .aload_n 2), (138, .getfield 97), (141, .if_icmp .ge 40), (144, .aload 4), (146, .getfield 185), (149, .iload 5), (151, .invokestatic 102), (154, .istore 6), (156, .aload_n 0), (157, .iload 6), (159, .aload_n 2), (160, .iload 5), (162, .invokevirtual 106), (165, .invokevirtual 110), (168, .aload 4), (170, .iload 6), (172, .invokevirtual 114), (175, .iinc 5 1), (178, .goto (-43)), (181, .iload_n 1), (182, .istore 5), (184, .iload 5), (186, .aload_n 3), (187, .getfield 99), (190, .if_icmp .ge 20), (193, .aload 4), (195, .aload_n 3), (196, .iload 5), (198, .invokevirtual 117), (201, .invokevirtual 114), (204, .iinc 5 1), (207, .goto (-23)), (210, .aload_n 0), (211, .aload 4), (213, .aload_n 3), (214, .invokevirtual 188), (217, .aload 4), (219, .getfield 185), (222, .ireturn)], ([(109, [true, true, true, true, true, true, false]), (135, [true, true, true, true, true, true, false]), (184, [true, false, false, true, true, true, false])], zp_0)))
def mc0_cutOut : zv_M := ((RX0, (⟨RX0, "cutOut", "(II)I"⟩, (prog_2_method_20_code, (8, (some .int))))), ([(0, .iload_n 1), (1, .ifCond .lt 13), (4, .iload_n 2), (5, .iconst 1), (6, .bipush 12), (8, .invokestatic 192), (11, .ifCond .ne 5), (14, .iconst (-1)), (15, .ireturn), (16, .iload_n 1), (17, .aload_n 0), (18, .getfield 69), (21, .getfield 99), (24, .iload_n 2), (25, .isub), (26, .if_icmp .le 6), (29, .bipush (-5)), (31, .ireturn), (32, .aload_n 0), (33, .getfield 87), (36, .bipush 48), (38, .if_icmp .lt 6), (41, .bipush (-3)), (43, .ireturn), (44, .aload_n 0), (45, .getfield 69), (48, .astore_n 3), (49, .aload_n 0), (50, .iconst 1), (51, .iload_n 1), (52, .iload_n 2), (53, .invokevirtual 170), (56, .astore 4), (58, .aload 4), (60, .ifnonnull 6), (63, .bipush (-3)), (65, .ireturn), (66, .iconst 0), (67, .istore 5), (69, .iload 5), (71, .aload_n 3), (72, .getfield 99), (75, .if_icmp .ge 76), (78, .aload_n 3), (79, .iload 5), (81, .invokevirtual 117), (84, .istore 6), (86, .iload 5), (88, .iload_n 1), (89, .isub), (90, .istore 7), (92, .iload 7), (94, .ifCond .lt 44), (97, .iload 7), (99, .iload_n 2), (100, .if_icmp .ge 38), (103, .iload 7), (105, .bipush 12), (107, .if_icmp .ge 31), (110, .aload 4), (112, .getfield 196), (115, .iload 7), (117, .iload 6), (119, .iastore), (120, .aload 4), (122, .dup), (123, .getfield 181), (126, .iload 6), (128, .invokestatic 177), (131, .lor), (132, .putfield 181), (135, .goto 10), (138, .aload 4), (140, .iload 6), (142, .invokevirtual 114), (145, .iinc 5 1), (148, .goto (-79)), (151, .aload_n 0), (152, .aload 4), (154, .aload_n 3), (155, .invokevirtual 188), (158, .aload 4), (160, .getfield 185), (163, .ireturn)], ([(69, [true, true, true, true, true, true, false, false]), (138, [true, true, true, true, true, true, true, false])], zp_0)))
def mc0_baseOf : zv_M := ((RX0, (⟨RX0, "baseOf", "(I)J"⟩, (prog_2_method_21_code, (1, (some .long))))), ([(0, .iload_n 0), (1, .iconst (-1)), (2, .if_icmp .eq 10), (5, .iload_n 0), (6, .invokestatic 160), (9, .ifCond .ne 7), (12, .lconst 0), (13, .goto 9), (16, .lconst 1), (17, .iload_n 0), (18, .invokestatic 160), (21, .lshl), (22, .lreturn)], ([], zp_0)))
def mc0_joinGroup : zv_M := ((RX0, (⟨RX0, "joinGroup", "(LBranchedText$State;LBranchedText$State;)V"⟩, (prog_2_method_22_code, (3, none)))), ([(0, .aload_n 2), (1, .invokevirtual 199), (4, .ifCond .eq 10), (7, .aload_n 2), (8, .getfield 133), (11, .ifnonnull 4), (14, .return_), (15, .aload_n 0), (16, .getfield 58), (19, .iconst 0), (20, .aload_n 1), (21, .getfield 167), (24, .aload_n 2), (25, .getfield 167), (28, .isub), (29, .invokevirtual 203), (32, .aload_n 0), (33, .getfield 58), (36, .iconst 1), (37, .aload_n 2), (38, .getfield 157), (41, .aload_n 2), (42, .getfield 133), (45, .getfield 157), (48, .isub), (49, .iconst 1), (50, .iadd), (51, .invokevirtual 203), (54, .aload_n 0), (55, .getfield 58), (58, .iconst 2), (59, .aload_n 1), (60, .getfield 206), (63, .invokevirtual 203), (66, .aload_n 0), (67, .getfield 58), (70, .iconst 3), (71, .aload_n 1), (72, .getfield 206), (75, .aload_n 2), (76, .getfield 206), (79, .if_icmp .ne 7), (82, .iconst 1), (83, .goto 4), (86, .iconst 0), (87, .invokevirtual 203), (90, .aload_n 0), (91, .getfield 58), (94, .iconst 4), (95, .aload_n 1), (96, .aload_n 2), (97, .invokestatic 209), (100, .ifCond .eq 7), (103, .iconst 1), (104, .goto 4), (107, .iconst 0), (108, .invokevirtual 203), (111, .aload_n 0), (112, .getfield 58), (115, .iconst 5), (116, .aload_n 1), (117, .getfield 98), (120, .invokevirtual 203), (123, .aload_n 0), (124, .getfield 58), (127, .invokevirtual 213), (130, .ifCond .eq 11), (133, .aload_n 1), (134, .aload_n 2), (135, .getfield 133), (138, .putfield 133), (141, .return_)], ([(87, [true, true, true]), (108, [true, true, true])], zp_0)))
def mc0_isNear : zv_M := ((RX0, (⟨RX0, "isNear", "(LBranchedText$State;LBranchedText$State;)Z"⟩, (prog_2_method_23_code, (3, (some .boolean))))), ([(0, .aload_n 1), (1, .getfield 206), (4, .ifCond .ne 15), (7, .aload_n 1), (8, .getfield 216), (11, .aload_n 1), (12, .getfield 98), (15, .iadd), (16, .goto 7), (19, .aload_n 1), (20, .getfield 216), (23, .istore_n 2), (24, .aload_n 0), (25, .getfield 206), (28, .ifCond .ne 17), (31, .aload_n 0), (32, .getfield 216), (35, .iload_n 2), (36, .if_icmp .ne 7), (39, .iconst 1), (40, .goto 4), (43, .iconst 0), (44, .ireturn), (45, .aload_n 0), (46, .getfield 216), (49, .aload_n 0), (50, .getfield 98), (53, .iadd), (54, .iload_n 2), (55, .if_icmp .eq 19), (58, .aload_n 1), (59, .getfield 206), (62, .iconst 1), (63, .if_icmp .ne 15), (66, .aload_n 0), (67, .getfield 216), (70, .iload_n 2), (71, .if_icmp .ne 7), (74, .iconst 1), (75, .goto 4), (78, .iconst 0), (79, .ireturn)], ([(23, [true, true, false])], zp_0)))
def mc0_passTime : zv_M := ((RX0, (⟨RX0, "passTime", "(I)I"⟩, (prog_2_method_24_code, (2, (some .int))))), ([(0, .iload_n 1), (1, .iconst 0), (2, .sipush 999), (5, .invokestatic 192), (8, .ifCond .ne 5), (11, .iconst (-1)), (12, .ireturn), (13, .aload_n 0), (14, .dup), (15, .getfield 83), (18, .iload_n 1), (19, .iadd), (20, .putfield 83), (23, .aload_n 0), (24, .getfield 83), (27, .ireturn)], ([], zp_0)))
def mc0_behind : zv_M := ((RX0, (⟨RX0, "behind", "(I)LBranchedText$State;"⟩, (prog_2_method_25_code, (4, (some (.object "BranchedText$State")))))), ([(0, .aload_n 0), (1, .getfield 69), (4, .astore_n 2), (5, .iconst 0), (6, .istore_n 3), (7, .iload_n 3), (8, .iload_n 1), (9, .if_icmp .ge 32), (12, .aload_n 2), (13, .ifnull 28), (16, .aload_n 2), (17, .getfield 133), (20, .ifnonnull 7), (23, .aconst_null), (24, .goto 10), (27, .aload_n 2), (28, .getfield 133), (31, .getfield 136), (34, .astore_n 2), (35, .iinc 3 1), (38, .goto (-31)), (41, .aload_n 2), (42, .areturn)], ([(7, [false, true, true, true])], zp_0)))
def mc0_stepBack : zv_M := ((RX0, (⟨RX0, "stepBack", "()I"⟩, (prog_2_method_26_code, (2, (some .int))))), ([(0, .aload_n 0), (1, .iconst 1), (2, .invokevirtual 219), (5, .astore_n 1), (6, .aload_n 1), (7, .ifnonnull 6), (10, .bipush (-5)), (12, .ireturn), (13, .aload_n 0), (14, .aload_n 1), (15, .invokevirtual 222), (18, .aload_n 1), (19, .getfield 185), (22, .ireturn)], ([], zp_0)))
def mc0_stepOn : zv_M := ((RX0, (⟨RX0, "stepOn", "()I"⟩, (prog_2_method_27_code, (4, (some .int))))), ([(0, .aload_n 0), (1, .aload_n 0), (2, .getfield 69), (5, .iconst 0), (6, .invokevirtual 225), (9, .astore_n 1), (10, .aload_n 1), (11, .ifnonnull 6), (14, .bipush (-5)), (16, .ireturn), (17, .aload_n 0), (18, .aload_n 1), (19, .iconst 0), (20, .invokevirtual 225), (23, .astore_n 2), (24, .iconst 0), (25, .istore_n 3), (26, .iload_n 3), (27, .bipush 48), (29, .if_icmp .ge 33), (32, .aload_n 2), (33, .ifnull 29), (36, .aload_n 2), (37, .getfield 133), (40, .aload_n 1), (41, .getfield 133), (44, .if_acmp .ne 18), (47, .aload_n 2), (48, .astore_n 1), (49, .aload_n 0), (50, .aload_n 1), (51, .iconst 0), (52, .invokevirtual 225), (55, .astore_n 2), (56, .iinc 3 1), (59, .goto (-33)), (62, .aload_n 0), (63, .aload_n 1), (64, .invokevirtual 222), (67, .aload_n 1), (68, .getfield 185), (71, .ireturn)], ([(26, [true, true, true, true]), (62, [true, true, false, false])], zp_0)))
def mc0_goTo : zv_M := ((RX0, (⟨RX0, "goTo", "(I)I"⟩, (prog_2_method_28_code, (4, (some .int))))), ([(0, .aload_n 0), (1, .iload_n 1), (2, .invokevirtual 127), (5, .astore_n 2), (6, .aload_n 2), (7, .ifnonnull 6), (10, .bipush (-2)), (12, .ireturn), (13, .aload_n 2), (14, .aload_n 0), (15, .getfield 69), (18, .if_acmp .ne 6), (21, .bipush (-4)), (23, .ireturn), (24, .aload_n 0), (25, .getfield 69), (28, .aload_n 2), (29, .invokestatic 228), (32, .istore_n 3), (33, .aload_n 0), (34, .aload_n 2), (35, .invokevirtual 222), (38, .iload_n 3), (39, .ireturn)], ([], zp_0)))
def mc0_nameHere : zv_M := ((RX0, (⟨RX0, "nameHere", "(I)I"⟩, (prog_2_method_29_code, (3, (some .int))))), ([(0, .iload_n 1), (1, .ifCond .ne 5), (4, .iconst (-1)), (5, .ireturn), (6, .aload_n 0), (7, .getfield 44), (10, .iload_n 1), (11, .invokevirtual 232), (14, .istore_n 2), (15, .iload_n 2), (16, .iconst (-1)), (17, .if_icmp .ne 18), (20, .aload_n 0), (21, .getfield 44), (24, .getfield 90), (27, .bipush 12), (29, .if_icmp .lt 6), (32, .bipush (-3)), (34, .ireturn), (35, .iload_n 2), (36, .iconst (-1)), (37, .if_icmp .eq 24), (40, .aload_n 0), (41, .getfield 44), (44, .iload_n 2), (45, .invokevirtual 235), (48, .aload_n 0), (49, .getfield 69), (52, .getfield 185), (55, .if_icmp .ne 6), (58, .bipush (-4)), (60, .ireturn), (61, .aload_n 0), (62, .getfield 44), (65, .iload_n 1), (66, .aload_n 0), (67, .getfield 69), (70, .getfield 185), (73, .invokevirtual 238), (76, .aload_n 0), (77, .getfield 44), (80, .getfield 90), (83, .ireturn)], ([(35, [true, true, true]), (61, [true, true, false])], zp_0)))
def mc0_dropName : zv_M := ((RX0, (⟨RX0, "dropName", "(I)I"⟩, (prog_2_method_30_code, (3, (some .int))))), ([(0, .iload_n 1), (1, .ifCond .ne 5), (4, .iconst (-1)), (5, .ireturn), (6, .aload_n 0), (7, .getfield 44), (10, .iload_n 1), (11, .invokevirtual 232), (14, .istore_n 2), (15, .iload_n 2), (16, .iconst (-1)), (17, .if_icmp .ne 6), (20, .bipush (-5)), (22, .ireturn), (23, .aload_n 0), (24, .getfield 44), (27, .iload_n 2), (28, .invokevirtual 241), (31, .aload_n 0), (32, .getfield 44), (35, .getfield 90), (38, .ireturn)], ([], zp_0)))
def mc0_takeBack : zv_M := ((RX0, (⟨RX0, "takeBack", "(I)I"⟩, (prog_2_method_31_code, (5, (some .int))))), ([(0, .aload_n 0), (1, .iload_n 1), (2, .invokevirtual 127), (5, .astore_n 2), (6, .aload_n 2), (7, .ifnonnull 6), (10, .bipush (-2)), (12, .ireturn), (13, .aload_n 0), (14, .getfield 37), (17, .aload_n 0), (18, .getfield 69), (21, .invokevirtual 123), (24, .aload_n 0), (25, .getfield 37), (28, .getfield 244), (31, .aload_n 2), (32, .invokevirtual 247), (35, .land), (36, .lconst 0), (37, .lcmp), (38, .ifCond .ne 6), (41, .bipush (-7)), (43, .ireturn), (44, .aload_n 0), (45, .getfield 37), (48, .getfield 251), (51, .aload_n 2), (52, .invokevirtual 247), (55, .land), (56, .lconst 0), (57, .lcmp), (58, .ifCond .ne 6), (61, .bipush (-4)), (63, .ireturn), (64, .aload_n 0), (65, .getfield 37), (68, .aload_n 2), (69, .invokevirtual 254), (72, .aload_n 0), (73, .getfield 37), (76, .getfield 251), (79, .land), (80, .lstore_n 3), (81, .aload_n 0), (82, .iconst 2), (83, .lload_n 3), (84, .aload_n 0), (85, .getfield 37), (88, .getfield 251), (91, .lload_n 3), (92, .ldc2_w 258), (95, .lxor), (96, .land), (97, .invokevirtual 260), (100, .ireturn)], ([], zp_0)))
def mc0_giveBack : zv_M := ((RX0, (⟨RX0, "giveBack", "(I)I"⟩, (prog_2_method_32_code, (5, (some .int))))), ([(0, .aload_n 0), (1, .iload_n 1), (2, .invokevirtual 127), (5, .astore_n 2), (6, .aload_n 2), (7, .ifnonnull 6), (10, .bipush (-2)), (12, .ireturn), (13, .aload_n 0), (14, .getfield 37), (17, .aload_n 0), (18, .getfield 69), (21, .invokevirtual 123), (24, .aload_n 0), (25, .getfield 37), (28, .getfield 244), (31, .aload_n 2), (32, .invokevirtual 247), (35, .land), (36, .lconst 0), (37, .lcmp), (38, .ifCond .ne 6), (41, .bipush (-7)), (43, .ireturn), (44, .aload_n 0), (45, .getfield 37), (48, .getfield 251), (51, .aload_n 2), (52, .invokevirtual 247), (55, .land), (56, .lconst 0), (57, .lcmp), (58, .ifCond .eq 6), (61, .bipush (-4)), (63, .ireturn), (64, .aload_n 0), (65, .getfield 37), (68, .aload_n 2), (69, .invokevirtual 264), (72, .aload_n 0), (73, .getfield 37), (76, .getfield 251), (79, .ldc2_w 258), (82, .lxor), (83, .land), (84, .lstore_n 3), (85, .aload_n 0), (86, .iconst 3), (87, .lload_n 3), (88, .aload_n 0), (89, .getfield 37), (92, .getfield 251), (95, .lload_n 3), (96, .lor), (97, .invokevirtual 260), (100, .ireturn)], ([], zp_0)))
def mc0_turn : zv_M := ((RX0, (⟨RX0, "turn", "(IJJ)I"⟩, (prog_2_method_33_code, (8, (some .int))))), ([(0, .aload_n 0), (1, .getfield 87), (4, .bipush 48), (6, .if_icmp .lt 6), (9, .bipush (-3)), (11, .ireturn), (12, .aload_n 0), (13, .getfield 37), (16, .lload 4), (18, .invokevirtual 267), (21, .aload_n 0), (22, .getfield 37), (25, .getfield 271), (28, .bipush 120), (30, .if_icmp .le 6), (33, .bipush (-6)), (35, .ireturn), (36, .aload_n 0), (37, .iload_n 1), (38, .iconst (-1)), (39, .lload_n 2), (40, .invokestatic 274), (43, .invokevirtual 170), (46, .astore 6), (48, .aload 6), (50, .ifnonnull 6), (53, .bipush (-3)), (55, .ireturn), (56, .aload 6), (58, .lload_n 2), (59, .putfield 280), (62, .iconst 0), (63, .istore 7), (65, .iload 7), (67, .aload_n 0), (68, .getfield 37), (71, .getfield 283), (74, .if_icmp .ge 35), (77, .aload_n 0), (78, .getfield 37), (81, .iload 7), (83, .invokevirtual 284), (86, .ifCond .eq 17), (89, .aload 6), (91, .aload_n 0), (92, .getfield 37), (95, .iload 7), (97, .invokevirtual 288), (100, .invokevirtual 114), (103, .iinc 7 1), (106, .goto (-41)), (109, .aload 6), (111, .getfield 185), (114, .ireturn)], ([(65, [true, false, false, false, false, false, true, true])], zp_0)))
def mc0_carryOver : zv_M := ((RX0, (⟨RX0, "carryOver", "(I)I"⟩, (prog_2_method_34_code, (3, (some .int))))), ([(0, .aload_n 0), (1, .iload_n 1), (2, .invokevirtual 127), (5, .astore_n 2), (6, .aload_n 2), (7, .ifnonnull 6), (10, .bipush (-2)), (12, .ireturn), (13, .aload_n 2), (14, .invokevirtual 199), (17, .ifCond .eq 14), (20, .aload_n 2), (21, .aload_n 0), (22, .getfield 69), (25, .invokestatic 289), (28, .ifCond .eq 6), (31, .bipush (-7)), (33, .ireturn), (34, .aload_n 0), (35, .invokevirtual 292), (38, .aload_n 0), (39, .aload_n 2), (40, .invokevirtual 295), (43, .ireturn)], ([], zp_0)))
def mc0_standForThemselves : zv_M := ((RX0, (⟨RX0, "standForThemselves", "()V"⟩, (prog_2_method_35_code, (2, none)))), ([(0, .iconst 0), (1, .istore_n 1), (2, .iload_n 1), (3, .bipush 48), (5, .if_icmp .ge 16), (8, .aload_n 0), (9, .getfield 28), (12, .iload_n 1), (13, .iload_n 1), (14, .iastore), (15, .iinc 1 1), (18, .goto (-16)), (21, .return_)], ([(2, [true, true])], zp_0)))
def mc0_standOf : zv_M := ((RX0, (⟨RX0, "standOf", "(I)I"⟩, (prog_2_method_36_code, (3, (some .int))))), ([(0, .iload_n 1), (1, .invokestatic 160), (4, .istore_n 2), (5, .iload_n 1), (6, .ifCond .lt 29), (9, .iload_n 2), (10, .ifCond .lt 25), (13, .iload_n 2), (14, .bipush 48), (16, .if_icmp .ge 19), (19, .aload_n 0), (20, .getfield 28), (23, .iload_n 2), (24, .iaload), (25, .iload_n 1), (26, .invokestatic 299), (29, .invokestatic 102), (32, .goto 4), (35, .iconst (-1)), (36, .ireturn)], ([], zp_0)))
def mc0_carryOne : zv_M := ((RX0, (⟨RX0, "carryOne", "(LBranchedText$State;)I"⟩, (prog_2_method_37_code, (4, (some .int))))), ([(0, .aload_n 1), (1, .getfield 206), (4, .iconst 1), (5, .if_icmp .ne 32), (8, .aload_n 0), (9, .aload_n 1), (10, .invokevirtual 302), (13, .istore_n 2), (14, .aload_n 0), (15, .aload_n 1), (16, .iload_n 2), (17, .invokevirtual 305), (20, .istore_n 3), (21, .iload_n 3), (22, .ifCond .ne 8), (25, .bipush (-10)), (27, .goto 9), (30, .aload_n 0), (31, .iload_n 2), (32, .iload_n 3), (33, .invokevirtual 309), (36, .ireturn), (37, .iconst 0), (38, .istore_n 2), (39, .aload_n 1), (40, .getfield 174), (43, .iconst (-1)), (44, .if_icmp .eq 30), (47, .aload_n 0), (48, .getfield 37), (51, .aload_n 0), (52, .getfield 69), (55, .invokevirtual 123), (58, .aload_n 0), (59, .getfield 37), (62, .aload_n 0), (63, .aload_n 1), (64, .getfield 174), (67, .invokevirtual 312), (70, .invokevirtual 315), (73, .istore_n 2), (74, .iload_n 2), (75, .iconst (-1)), (76, .if_icmp .ne 6), (79, .bipush (-10)), (81, .ireturn), (82, .aload_n 0), (83, .getfield 65), (86, .invokevirtual 318), (89, .iconst 0), (90, .istore_n 3), (91, .iload_n 3), (92, .aload_n 1), (93, .getfield 98), (96, .if_icmp .ge 28), (99, .aload_n 0), (100, .getfield 65), (103, .aload_n 0), (104, .aload_n 1), (105, .getfield 185), (108, .iload_n 3), (109, .invokestatic 102), (112, .invokevirtual 120), (115, .invokevirtual 321), (118, .iinc 3 1), (121, .goto (-30)), (124, .aload_n 0), (125, .iload_n 2), (126, .aload_n 0), (127, .getfield 65), (130, .invokevirtual 323), (133, .ireturn)], ([(74, [true, true, true, false]), (91, [true, true, true, true])], zp_0)))
def mc0_firstTaken : zv_M := ((RX0, (⟨RX0, "firstTaken", "(LBranchedText$State;)I"⟩, (prog_2_method_38_code, (3, (some .int))))), ([(0, .iconst 0), (1, .istore_n 2), (2, .iload_n 2), (3, .aload_n 0), (4, .getfield 69), (7, .getfield 99), (10, .if_icmp .ge 27), (13, .aload_n 0), (14, .aload_n 1), (15, .aload_n 0), (16, .getfield 69), (19, .iload_n 2), (20, .invokevirtual 117), (23, .invokevirtual 327), (26, .ifCond .eq 5), (29, .iload_n 2), (30, .ireturn), (31, .iinc 2 1), (34, .goto (-32)), (37, .iconst (-1)), (38, .ireturn)], ([(2, [true, true, true])], zp_0)))
def mc0_takenFrom : zv_M := ((RX0, (⟨RX0, "takenFrom", "(LBranchedText$State;I)I"⟩, (prog_2_method_39_code, (5, (some .int))))), ([(0, .iconst 0), (1, .istore_n 3), (2, .iload_n 2), (3, .iconst 0), (4, .invokestatic 152), (7, .istore 4), (9, .iload 4), (11, .aload_n 0), (12, .getfield 69), (15, .getfield 99), (18, .if_icmp .ge 39), (21, .aload_n 0), (22, .aload_n 1), (23, .aload_n 0), (24, .getfield 69), (27, .iload 4), (29, .invokevirtual 117), (32, .invokevirtual 327), (35, .ifCond .eq 16), (38, .iload 4), (40, .iload_n 2), (41, .iload_n 3), (42, .iadd), (43, .if_icmp .eq 5), (46, .iconst 0), (47, .ireturn), (48, .iinc 3 1), (51, .iinc 4 1), (54, .goto (-45)), (57, .iload_n 3), (58, .ireturn)], ([(9, [true, true, true, true, true])], zp_0)))
def mc0_takes : zv_M := ((RX0, (⟨RX0, "takes", "(LBranchedText$State;I)Z"⟩, (prog_2_method_40_code, (4, (some .boolean))))), ([(0, .iconst 0), (1, .istore_n 3), (2, .iload_n 3), (3, .aload_n 1), (4, .getfield 98), (7, .if_icmp .ge 29), (10, .iload_n 2), (11, .iconst (-1)), (12, .if_icmp .eq 18), (15, .aload_n 0), (16, .aload_n 1), (17, .iload_n 3), (18, .invokevirtual 331), (21, .invokevirtual 312), (24, .iload_n 2), (25, .if_icmp .ne 5), (28, .iconst 1), (29, .ireturn), (30, .iinc 3 1), (33, .goto (-31)), (36, .iconst 0), (37, .ireturn)], ([(2, [true, true, true, true])], zp_0)))
def mc0_mergeIn : zv_M := ((RX0, (⟨RX0, "mergeIn", "(I)I"⟩, (prog_2_method_41_code, (11, (some .int))))), ([(0, .aload_n 0), (1, .iload_n 1), (2, .invokevirtual 127), (5, .astore_n 2), (6, .aload_n 2), (7, .ifnonnull 6), (10, .bipush (-2)), (12, .ireturn), (13, .aload_n 2), (14, .aload_n 0), (15, .getfield 69), (18, .invokestatic 289), (21, .ifCond .eq 6), (24, .bipush (-4)), (26, .ireturn), (27, .aload_n 0), (28, .getfield 37), (31, .aload_n 0), (32, .getfield 69), (35, .invokevirtual 334), (38, .aload_n 0), (39, .getfield 37), (42, .getfield 244), (45, .lstore_n 3), (46, .aload_n 0), (47, .getfield 37), (50, .aload_n 2), (51, .invokevirtual 334), (54, .aload_n 0), (55, .getfield 37), (58, .getfield 251), (61, .lload_n 3), (62, .ldc2_w 258), (65, .lxor), (66, .land), (67, .lstore 5), (69, .aload_n 0), (70, .invokevirtual 292), (73, .aload_n 0), (74, .iconst 0), (75, .putfield 337), (78, .iconst 0), (79, .istore 7), (81, .iconst 1), (82, .istore 8), (84, .iload 8), (86, .aload_n 2), (87, .getfield 157), (90, .if_icmp .gt 86), (93, .aload_n 2), (94, .iload 8), (96, .invokestatic 340), (99, .astore 9), (101, .aload 9), (103, .ifnull 67), (106, .lload 5), (108, .aload 9), (110, .invokevirtual 247), (113, .land), (114, .lconst 0), (115, .lcmp), (116, .ifCond .eq 54), (119, .aload_n 0), (120, .aload 9), (122, .invokevirtual 295), (125, .istore 10), (127, .iload 10), (129, .ifCond .lt 31), (132, .aload 9), (134, .getfield 185), (137, .bipush 48), (139, .if_icmp .ge 21), (142, .aload_n 0), (143, .getfield 28), (146, .aload 9), (148, .getfield 185), (151, .iload 10), (153, .iastore), (154, .iinc 7 1), (157, .goto 13), (160, .aload_n 0), (161, .dup), (162, .getfield 337), (165, .iconst 1), (166, .iadd), (167, .putfield 337), (170, .iinc 8 1), (173, .goto (-89)), (176, .iload 7), (178, .ireturn)], ([(84, [true, false, true, false, false, true, false, true, true, false, false])], zp_0)))
def mc0_mergeOnPaper : zv_M := ((RX0, (⟨RX0, "mergeOnPaper", "(II)I"⟩, (prog_2_method_42_code, (8, (some .int))))), ([(0, .aload_n 0), (1, .getfield 69), (4, .astore_n 3), (5, .aload_n 0), (6, .getfield 51), (9, .invokevirtual 343), (12, .aload_n 0), (13, .iload_n 1), (14, .invokevirtual 346), (17, .istore 4), (19, .iload 4), (21, .ifCond .ge 6), (24, .iload 4), (26, .ireturn), (27, .iload_n 2), (28, .ifCond .ne 8), (31, .iload 4), (33, .goto 22), (36, .iload_n 2), (37, .iconst 1), (38, .if_icmp .ne 10), (41, .aload_n 0), (42, .getfield 337), (45, .goto 10), (48, .aload_n 0), (49, .getfield 69), (52, .getfield 99), (55, .istore 5), (57, .iconst 0), (58, .istore 6), (60, .iload 6), (62, .iload 4), (64, .if_icmp .ge 48), (67, .aload_n 0), (68, .getfield 69), (71, .aload_n 3), (72, .if_acmp .eq 40), (75, .aload_n 0), (76, .getfield 69), (79, .getfield 136), (82, .ifnull 30), (85, .aload_n 0), (86, .getfield 69), (89, .astore 7), (91, .aload_n 0), (92, .aload 7), (94, .getfield 136), (97, .putfield 69), (100, .aload_n 0), (101, .aload 7), (103, .invokevirtual 349), (106, .iinc 6 1), (109, .goto (-49)), (112, .aload_n 0), (113, .getfield 51), (116, .invokevirtual 352), (119, .iload 5), (121, .ireturn)], ([(60, [true, false, false, true, true, true, true, false]), (112, [true, false, false, false, false, true, false, false])], zp_0)))
def mc0_remove : zv_M := ((RX0, (⟨RX0, "remove", "(LBranchedText$State;)V"⟩, (prog_2_method_43_code, (2, none)))), ([(0, .aload_n 1), (1, .iconst 0), (2, .putfield 79), (5, .aload_n 1), (6, .getfield 136), (9, .ifnull 16), (12, .aload_n 1), (13, .getfield 136), (16, .dup), (17, .getfield 130), (20, .iconst 1), (21, .isub), (22, .putfield 130), (25, .aload_n 1), (26, .aconst_null), (27, .putfield 136), (30, .aload_n 0), (31, .getfield 51), (34, .aload_n 1), (35, .getfield 185), (38, .invokevirtual 355), (41, .aload_n 0), (42, .dup), (43, .getfield 87), (46, .iconst 1), (47, .isub), (48, .putfield 87), (51, .return_)], ([(25, [true, true])], zp_0)))
def mc0_nextToGo : zv_M := ((RX0, (⟨RX0, "nextToGo", "()LBranchedText$State;"⟩, (prog_2_method_44_code, (4, (some (.object "BranchedText$State")))))), ([(0, .aconst_null), (1, .astore_n 1), (2, .iconst 1), (3, .istore_n 2), (4, .iload_n 2), (5, .bipush 48), (7, .if_icmp .ge 62), (10, .aload_n 0), (11, .iload_n 2), (12, .invokevirtual 127), (15, .astore_n 3), (16, .aload_n 3), (17, .ifnull 46), (20, .aload_n 3), (21, .aload_n 0), (22, .getfield 69), (25, .if_acmp .eq 38), (28, .aload_n 3), (29, .getfield 130), (32, .ifCond .ne 31), (35, .aload_n 0), (36, .getfield 44), (39, .iload_n 2), (40, .invokevirtual 358), (43, .ifCond .ne 20), (46, .aload_n 1), (47, .ifnull 14), (50, .aload_n 3), (51, .getfield 149), (54, .aload_n 1), (55, .getfield 149), (58, .if_icmp .ge 5), (61, .aload_n 3), (62, .astore_n 1), (63, .iinc 2 1), (66, .goto (-62)), (69, .aload_n 1), (70, .areturn)], ([(4, [true, true, true, false])], zp_0)))
def mc0_pruneTo : zv_M := ((RX0, (⟨RX0, "pruneTo", "(I)I"⟩, (prog_2_method_45_code, (4, (some .int))))), ([(0, .iload_n 1), (1, .iconst 1), (2, .bipush 48), (4, .invokestatic 192), (7, .ifCond .ne 5), (10, .iconst (-1)), (11, .ireturn), (12, .iconst 0), (13, .istore_n 2), (14, .aload_n 0), (15, .getfield 87), (18, .iload_n 1), (19, .if_icmp .le 31), (22, .iload_n 2), (23, .bipush 48), (25, .if_icmp .ge 25), (28, .aload_n 0), (29, .invokevirtual 361), (32, .astore_n 3), (33, .aload_n 3), (34, .ifnonnull 5), (37, .iload_n 2), (38, .ireturn), (39, .aload_n 0), (40, .aload_n 3), (41, .invokevirtual 349), (44, .iinc 2 1), (47, .goto (-33)), (50, .iload_n 2), (51, .ireturn)], ([(14, [true, true, true, false])], zp_0)))
def mc0_nearest : zv_M := ((RX0, (⟨RX0, "nearest", "(LBranchedText$State;LBranchedText$State;)LBranchedText$State;"⟩, (prog_2_method_46_code, (3, (some (.object "BranchedText$State")))))), ([(0, .aload_n 0), (1, .astore_n 2), (2, .aload_n 2), (3, .getfield 136), (6, .ifnull 19), (9, .aload_n 2), (10, .aload_n 1), (11, .invokestatic 289), (14, .ifCond .ne 11), (17, .aload_n 2), (18, .getfield 136), (21, .astore_n 2), (22, .goto (-20)), (25, .aload_n 2), (26, .areturn)], ([(2, [false, true, true])], zp_0)))
def mc0_wayLength : zv_M := ((RX0, (⟨RX0, "wayLength", "(LBranchedText$State;LBranchedText$State;)I"⟩, (prog_2_method_47_code, (2, (some .int))))), ([(0, .aload_n 0), (1, .getfield 157), (4, .aload_n 1), (5, .getfield 157), (8, .iadd), (9, .iconst 2), (10, .aload_n 0), (11, .aload_n 1), (12, .invokestatic 365), (15, .getfield 157), (18, .imul), (19, .isub), (20, .ireturn)], ([], zp_0)))
def mc0_onWay : zv_M := ((RX0, (⟨RX0, "onWay", "(LBranchedText$State;LBranchedText$State;I)LBranchedText$State;"⟩, (prog_2_method_48_code, (5, (some (.object "BranchedText$State")))))), ([(0, .aload_n 0), (1, .getfield 157), (4, .aload_n 0), (5, .aload_n 1), (6, .invokestatic 365), (9, .getfield 157), (12, .isub), (13, .istore_n 3), (14, .aload_n 0), (15, .aload_n 1), (16, .invokestatic 228), (19, .istore 4), (21, .iload_n 2), (22, .ifCond .lt 9), (25, .iload_n 2), (26, .iload 4), (28, .if_icmp .le 5), (31, .aconst_null), (32, .areturn), (33, .iload_n 2), (34, .iload_n 3), (35, .if_icmp .gt 16), (38, .aload_n 0), (39, .aload_n 0), (40, .getfield 157), (43, .iload_n 2), (44, .isub), (45, .invokestatic 340), (48, .goto 16), (51, .aload_n 1), (52, .aload_n 1), (53, .getfield 157), (56, .iload 4), (58, .iload_n 2), (59, .isub), (60, .isub), (61, .invokestatic 340), (64, .areturn)], ([], zp_0)))
def mc0_keptOf : zv_M := ((RX0, (⟨RX0, "keptOf", "(LBranchedText$State;LBranchedText$State;)I"⟩, (prog_2_method_49_code, (6, (some .int))))), ([(0, .iconst 0), (1, .istore_n 3), (2, .iconst 0), (3, .istore 4), (5, .iload 4), (7, .aload_n 1), (8, .getfield 99), (11, .if_icmp .ge 50), (14, .iconst 0), (15, .istore 5), (17, .iload 5), (19, .aload_n 2), (20, .getfield 99), (23, .if_icmp .ge 32), (26, .iload_n 3), (27, .aload_n 1), (28, .iload 4), (30, .invokevirtual 117), (33, .aload_n 2), (34, .iload 5), (36, .invokevirtual 117), (39, .if_icmp .ne 7), (42, .iconst 1), (43, .goto 4), (46, .iconst 0), (47, .iadd), (48, .istore_n 3), (49, .iinc 5 1), (52, .goto (-35)), (55, .iinc 4 1), (58, .goto (-53)), (61, .iload_n 3), (62, .ireturn)], ([(5, [false, true, true, true, true, false]), (17, [false, true, true, true, true, true])], zp_0)))
def mc0_firstDifference : zv_M := ((RX0, (⟨RX0, "firstDifference", "(LBranchedText$State;LBranchedText$State;)I"⟩, (prog_2_method_50_code, (5, (some .int))))), ([(0, .aload_n 1), (1, .getfield 99), (4, .aload_n 2), (5, .getfield 99), (8, .invokestatic 152), (11, .istore_n 3), (12, .iconst 0), (13, .istore 4), (15, .iload 4), (17, .iload_n 3), (18, .if_icmp .ge 29), (21, .aload_n 0), (22, .aload_n 1), (23, .iload 4), (25, .invokevirtual 369), (28, .aload_n 0), (29, .aload_n 2), (30, .iload 4), (32, .invokevirtual 369), (35, .if_icmp .eq 6), (38, .iload 4), (40, .ireturn), (41, .iinc 4 1), (44, .goto (-29)), (47, .iconst (-1)), (48, .ireturn)], ([(15, [true, true, true, true, true])], zp_0)))
def mc0_longestCommon : zv_M := ((RX0, (⟨RX0, "longestCommon", "(LBranchedText$State;LBranchedText$State;)I"⟩, (prog_2_method_51_code, (9, (some .int))))), ([(0, .iconst 0), (1, .istore_n 3), (2, .iload_n 3), (3, .bipush 120), (5, .if_icmp .gt 16), (8, .aload_n 0), (9, .getfield 31), (12, .iload_n 3), (13, .iconst 0), (14, .iastore), (15, .iinc 3 1), (18, .goto (-16)), (21, .aload_n 2), (22, .getfield 99), (25, .bipush 120), (27, .invokestatic 372), (30, .istore_n 3), (31, .iconst 0), (32, .istore 4), (34, .iload 4), (36, .aload_n 1), (37, .getfield 99), (40, .if_icmp .ge 91), (43, .aload_n 0), (44, .aload_n 1), (45, .iload 4), (47, .invokevirtual 369), (50, .istore 5), (52, .iconst 0), (53, .istore 6), (55, .iconst 1), (56, .istore 7), (58, .iload 7), (60, .iload_n 3), (61, .if_icmp .gt 64), (64, .aload_n 0), (65, .getfield 31), (68, .iload 7), (70, .iaload), (71, .istore 8), (73, .aload_n 0), (74, .getfield 31), (77, .iload 7), (79, .iload 5), (81, .aload_n 0), (82, .aload_n 2), (83, .iload 7), (85, .iconst 1), (86, .isub), (87, .invokevirtual 369), (90, .if_icmp .ne 10), (93, .iload 6), (95, .iconst 1), (96, .iadd), (97, .goto 17), (100, .iload 8), (102, .aload_n 0), (103, .getfield 31), (106, .iload 7), (108, .iconst 1), (109, .isub), (110, .iaload), (111, .invokestatic 152), (114, .iastore), (115, .iload 8), (117, .istore 6), (119, .iinc 7 1), (122, .goto (-64)), (125, .iinc 4 1), (128, .goto (-94)), (131, .aload_n 0), (132, .getfield 31), (135, .iload_n 3), (136, .iconst 0), (137, .invokestatic 152), (140, .iaload), (141, .ireturn)], ([(2, [true, true, true, true, false, false, false, false, false]), (34, [true, true, true, true, true, false, false, false, false]), (58, [true, true, true, true, true, true, true, true, false])], zp_0)))
def mc0_placeIn : zv_M := ((RX0, (⟨RX0, "placeIn", "(LBranchedText$State;LBranchedText$Word;)I"⟩, (prog_2_method_52_code, (5, (some .int))))), ([(0, .iconst 0), (1, .istore_n 3), (2, .iload_n 3), (3, .aload_n 2), (4, .getfield 97), (7, .iadd), (8, .aload_n 1), (9, .getfield 99), (12, .if_icmp .gt 56), (15, .iconst 0), (16, .istore 4), (18, .iload 4), (20, .aload_n 2), (21, .getfield 97), (24, .if_icmp .ge 27), (27, .aload_n 0), (28, .aload_n 1), (29, .iload_n 3), (30, .iload 4), (32, .iadd), (33, .invokevirtual 369), (36, .aload_n 2), (37, .iload 4), (39, .invokevirtual 106), (42, .if_icmp .ne 9), (45, .iinc 4 1), (48, .goto (-30)), (51, .iload 4), (53, .aload_n 2), (54, .getfield 97), (57, .if_icmp .ne 5), (60, .iload_n 3), (61, .ireturn), (62, .iinc 3 1), (65, .goto (-63)), (68, .iconst (-1)), (69, .ireturn)], ([(2, [true, true, true, true, false]), (18, [true, true, true, true, true]), (51, [true, true, true, true, true])], zp_0)))
def mc0_leastWith : zv_M := ((RX0, (⟨RX0, "leastWith", "(LBranchedText$Word;)I"⟩, (prog_2_method_53_code, (4, (some .int))))), ([(0, .iconst 0), (1, .istore_n 2), (2, .iload_n 2), (3, .bipush 48), (5, .if_icmp .ge 31), (8, .aload_n 0), (9, .iload_n 2), (10, .invokevirtual 127), (13, .astore_n 3), (14, .aload_n 3), (15, .ifnull 15), (18, .aload_n 0), (19, .aload_n 3), (20, .aload_n 1), (21, .invokevirtual 375), (24, .iconst (-1)), (25, .if_icmp .eq 5), (28, .iload_n 2), (29, .ireturn), (30, .iinc 2 1), (33, .goto (-31)), (36, .iconst (-1)), (37, .ireturn)], ([(2, [true, true, true, false])], zp_0)))
def mc0_statesWith : zv_M := ((RX0, (⟨RX0, "statesWith", "(LBranchedText$Word;)I"⟩, (prog_2_method_54_code, (5, (some .int))))), ([(0, .iconst 0), (1, .istore_n 2), (2, .iconst 0), (3, .istore_n 3), (4, .iload_n 3), (5, .bipush 48), (7, .if_icmp .ge 40), (10, .aload_n 0), (11, .iload_n 3), (12, .invokevirtual 127), (15, .astore 4), (17, .iload_n 2), (18, .aload 4), (20, .ifnull 18), (23, .aload_n 0), (24, .aload 4), (26, .aload_n 1), (27, .invokevirtual 375), (30, .iconst (-1)), (31, .if_icmp .eq 7), (34, .iconst 1), (35, .goto 4), (38, .iconst 0), (39, .iadd), (40, .istore_n 2), (41, .iinc 3 1), (44, .goto (-40)), (47, .iload_n 2), (48, .ireturn)], ([(4, [true, true, true, true, false])], zp_0)))
def mc0_twinOf : zv_M := ((RX0, (⟨RX0, "twinOf", "(LBranchedText$State;)I"⟩, (prog_2_method_55_code, (4, (some .int))))), ([(0, .iconst 0), (1, .istore_n 2), (2, .iload_n 2), (3, .bipush 48), (5, .if_icmp .ge 36), (8, .aload_n 0), (9, .iload_n 2), (10, .invokevirtual 127), (13, .astore_n 3), (14, .aload_n 3), (15, .ifnull 20), (18, .aload_n 3), (19, .aload_n 1), (20, .if_acmp .eq 15), (23, .aload_n 0), (24, .aload_n 1), (25, .aload_n 3), (26, .invokevirtual 379), (29, .iconst (-1)), (30, .if_icmp .ne 5), (33, .iload_n 2), (34, .ireturn), (35, .iinc 2 1), (38, .goto (-36)), (41, .iconst (-1)), (42, .ireturn)], ([(2, [true, true, true, false])], zp_0)))
def mc1_init : zv_M := ((RX1, (⟨RX1, "<init>", "()V"⟩, (prog_3_method_1_code, (1, none)))), ([(0, .aload_n 0), (1, .invokespecial 3), (4, .aload_n 0), (5, .sipush 176), (8, .newarray .int), (10, .putfield 11), (13, .aload_n 0), (14, .sipush 176), (17, .newarray .int), (19, .putfield 15), (22, .aload_n 0), (23, .bipush 6), (25, .newarray .int), (27, .putfield 18), (30, .return_)], ([], zp_1)))
def mc1_clear : zv_M := ((RX1, (⟨RX1, "clear", "()V"⟩, (prog_3_method_2_code, (1, none)))), ([(0, .aload_n 0), (1, .iconst 0), (2, .putfield 21), (5, .return_)], ([], zp_1)))
def mc1_usual : zv_M := ((RX1, (⟨RX1, "usual", "()V"⟩, (prog_3_method_3_code, (1, none)))), ([(0, .aload_n 0), (1, .invokevirtual 25), (4, .aload_n 0), (5, .iconst 0), (6, .iconst 0), (7, .iconst 3), (8, .invokevirtual 28), (11, .aload_n 0), (12, .iconst 3), (13, .iconst 1), (14, .iconst 1), (15, .invokevirtual 28), (18, .aload_n 0), (19, .bipush 19), (21, .iconst 0), (22, .invokevirtual 32), (25, .aload_n 0), (26, .iconst 4), (27, .iconst 1), (28, .iconst 1), (29, .invokevirtual 28), (32, .aload_n 0), (33, .bipush 19), (35, .iconst 0), (36, .invokevirtual 32), (39, .aload_n 0), (40, .iconst 1), (41, .iconst 0), (42, .bipush 8), (44, .invokevirtual 28), (47, .aload_n 0), (48, .bipush 19), (50, .iconst 0), (51, .invokevirtual 32), (54, .return_)], ([], zp_1)))
def mc1_compare : zv_M := ((RX1, (⟨RX1, "compare", "(III)V"⟩, (prog_3_method_4_code, (4, none)))), ([(0, .aload_n 0), (1, .iload_n 1), (2, .iconst 3), (3, .imul), (4, .iload_n 2), (5, .iadd), (6, .iload_n 3), (7, .invokevirtual 32), (10, .return_)], ([], zp_1)))
def mc1_add : zv_M := ((RX1, (⟨RX1, "add", "(II)V"⟩, (prog_3_method_5_code, (3, none)))), ([(0, .aload_n 0), (1, .getfield 21), (4, .ifCond .lt 43), (7, .aload_n 0), (8, .getfield 21), (11, .sipush 176), (14, .if_icmp .ge 33), (17, .aload_n 0), (18, .getfield 11), (21, .aload_n 0), (22, .getfield 21), (25, .iload_n 1), (26, .iastore), (27, .aload_n 0), (28, .getfield 15), (31, .aload_n 0), (32, .getfield 21), (35, .iload_n 2), (36, .iastore), (37, .aload_n 0), (38, .dup), (39, .getfield 21), (42, .iconst 1), (43, .iadd), (44, .putfield 21), (47, .return_)], ([], zp_1)))
def mc1_set : zv_M := ((RX1, (⟨RX1, "set", "(II)V"⟩, (prog_3_method_6_code, (3, none)))), ([(0, .iload_n 1), (1, .ifCond .lt 16), (4, .iload_n 1), (5, .bipush 6), (7, .if_icmp .ge 10), (10, .aload_n 0), (11, .getfield 18), (14, .iload_n 1), (15, .iload_n 2), (16, .iastore), (17, .return_)], ([], zp_1)))
def mc1_holds : zv_M := ((RX1, (⟨RX1, "holds", "()Z"⟩, (prog_3_method_7_code, (9, (some .boolean))))), ([(0, .lconst 0), (1, .lstore_n 1), (2, .iconst 0), (3, .istore_n 3), (4, .iload_n 3), (5, .aload_n 0), (6, .getfield 21), (9, .if_icmp .ge 195), (12, .iload_n 3), (13, .sipush 176), (16, .if_icmp .ge 188), (19, .aload_n 0), (20, .getfield 11), (23, .iload_n 3), (24, .iaload), (25, .istore 4), (27, .iload 4), (29, .bipush 18), (31, .if_icmp .ne 10), (34, .lload_n 1), (35, .lconst 1), (36, .lxor), (37, .lstore_n 1), (38, .goto 160), (41, .iload 4), (43, .bipush 19), (45, .if_icmp .ne 16), (48, .lload_n 1), (49, .iconst 1), (50, .lushr), (51, .lload_n 1), (52, .ldc2_w 36), (55, .lor), (56, .land), (57, .lstore_n 1), (58, .goto 140), (61, .iload 4), (63, .bipush 20), (65, .if_icmp .ne 14), (68, .lload_n 1), (69, .iconst 1), (70, .lushr), (71, .lload_n 1), (72, .lconst 1), (73, .land), (74, .lor), (75, .lstore_n 1), (76, .goto 122), (79, .iload 4), (81, .iconst 3), (82, .idiv), (83, .istore 5), (85, .iload 5), (87, .ifCond .lt 20), (90, .iload 5), (92, .bipush 6), (94, .if_icmp .ge 13), (97, .aload_n 0), (98, .getfield 18), (101, .iload 5), (103, .iaload), (104, .goto 4), (107, .iconst 0), (108, .istore 6), (110, .iload 4), (112, .iconst 3), (113, .irem), (114, .istore 7), (116, .iload 7), (118, .ifCond .ne 22), (121, .iload 6), (123, .aload_n 0), (124, .getfield 15), (127, .iload_n 3), (128, .iaload), (129, .if_icmp .ge 7), (132, .iconst 1), (133, .goto 48), (136, .iconst 0), (137, .goto 44), (140, .iload 7), (142, .iconst 1), (143, .if_icmp .ne 22), (146, .iload 6), (148, .aload_n 0), (149, .getfield 15), (152, .iload_n 3), (153, .iaload), (154, .if_icmp .ne 7), (157, .iconst 1), (158, .goto 23), (161, .iconst 0), (162, .goto 19), (165, .iload 6), (167, .aload_n 0), (168, .getfield 15), (171, .iload_n 3), (172, .iaload), (173, .if_icmp .le 7), (176, .iconst 1), (177, .goto 4), (180, .iconst 0), (181, .istore 8), (183, .lload_n 1), (184, .iconst 1), (185, .lshl), (186, .iload 8), (188, .ifCond .eq 7), (191, .lconst 1), (192, .goto 4), (195, .lconst 0), (196, .lor), (197, .lstore_n 1), (198, .iinc 3 1), (201, .goto (-197)), (204, .lload_n 1), (205, .lconst 1), (206, .land), (207, .lconst 0), (208, .lcmp), (209, .ifCond .eq 7), (212, .iconst 1), (213, .goto 4), (216, .iconst 0), (217, .ireturn)], ([(4, [true, true, false, true, false, false, false, false, false]), (107, [true, true, false, true, true, false, false, false, false]), (108, [true, true, false, true, true, false, false, false, false]), (181, [true, true, false, true, false, false, false, false, false]), (204, [false, true, false, false, false, false, false, false, false])], zp_1)))
def mc2_init : zv_M := ((RX2, (⟨RX2, "<init>", "()V"⟩, (prog_4_method_1_code, (1, none)))), ([(0, .aload_n 0), (1, .invokespecial 3), (4, .aload_n 0), (5, .bipush 12), (7, .newarray .int), (9, .putfield 9), (12, .aload_n 0), (13, .bipush 12), (15, .newarray .int), (17, .putfield 15), (20, .return_)], ([], zp_2)))
def mc2_indexOf : zv_M := ((RX2, (⟨RX2, "indexOf", "(I)I"⟩, (prog_4_method_2_code, (3, (some .int))))), ([(0, .iconst 0), (1, .istore_n 2), (2, .iload_n 2), (3, .aload_n 0), (4, .getfield 18), (7, .if_icmp .ge 27), (10, .iload_n 2), (11, .bipush 12), (13, .if_icmp .ge 21), (16, .aload_n 0), (17, .getfield 9), (20, .iload_n 2), (21, .iaload), (22, .iload_n 1), (23, .if_icmp .ne 5), (26, .iload_n 2), (27, .ireturn), (28, .iinc 2 1), (31, .goto (-29)), (34, .iconst (-1)), (35, .ireturn)], ([(2, [true, true, true])], zp_2)))
def mc2_keyAt : zv_M := ((RX2, (⟨RX2, "keyAt", "(I)I"⟩, (prog_4_method_3_code, (2, (some .int))))), ([(0, .iload_n 1), (1, .ifCond .lt 26), (4, .iload_n 1), (5, .aload_n 0), (6, .getfield 18), (9, .if_icmp .ge 18), (12, .iload_n 1), (13, .bipush 12), (15, .if_icmp .ge 12), (18, .aload_n 0), (19, .getfield 9), (22, .iload_n 1), (23, .iaload), (24, .goto 4), (27, .iconst 0), (28, .ireturn)], ([], zp_2)))
def mc2_ownerAt : zv_M := ((RX2, (⟨RX2, "ownerAt", "(I)I"⟩, (prog_4_method_4_code, (2, (some .int))))), ([(0, .iload_n 1), (1, .ifCond .lt 26), (4, .iload_n 1), (5, .aload_n 0), (6, .getfield 18), (9, .if_icmp .ge 18), (12, .iload_n 1), (13, .bipush 12), (15, .if_icmp .ge 12), (18, .aload_n 0), (19, .getfield 15), (22, .iload_n 1), (23, .iaload), (24, .goto 4), (27, .iconst 0), (28, .ireturn)], ([], zp_2)))
def mc2_countOf : zv_M := ((RX2, (⟨RX2, "countOf", "(I)I"⟩, (prog_4_method_5_code, (4, (some .int))))), ([(0, .iconst 0), (1, .istore_n 2), (2, .iconst 0), (3, .istore_n 3), (4, .iload_n 3), (5, .aload_n 0), (6, .getfield 18), (9, .if_icmp .ge 33), (12, .iload_n 3), (13, .bipush 12), (15, .if_icmp .ge 27), (18, .iload_n 2), (19, .aload_n 0), (20, .getfield 15), (23, .iload_n 3), (24, .iaload), (25, .iload_n 1), (26, .if_icmp .ne 7), (29, .iconst 1), (30, .goto 4), (33, .iconst 0), (34, .iadd), (35, .istore_n 2), (36, .iinc 3 1), (39, .goto (-35)), (42, .iload_n 2), (43, .ireturn)], ([(4, [true, true, true, true])], zp_2)))
def mc2_own : zv_M := ((RX2, (⟨RX2, "own", "(II)V"⟩, (prog_4_method_6_code, (4, none)))), ([(0, .aload_n 0), (1, .iload_n 1), (2, .invokevirtual 22), (5, .istore_n 3), (6, .iload_n 3), (7, .iconst (-1)), (8, .if_icmp .ne 8), (11, .aload_n 0), (12, .getfield 18), (15, .istore_n 3), (16, .iload_n 3), (17, .ifCond .lt 37), (20, .iload_n 3), (21, .bipush 12), (23, .if_icmp .ge 31), (26, .aload_n 0), (27, .getfield 9), (30, .iload_n 3), (31, .iload_n 1), (32, .iastore), (33, .aload_n 0), (34, .getfield 15), (37, .iload_n 3), (38, .iload_n 2), (39, .iastore), (40, .aload_n 0), (41, .aload_n 0), (42, .getfield 18), (45, .iload_n 3), (46, .iconst 1), (47, .iadd), (48, .invokestatic 26), (51, .putfield 18), (54, .return_)], ([(16, [true, true, true, true])], zp_2)))
def mc2_drop : zv_M := ((RX2, (⟨RX2, "drop", "(I)V"⟩, (prog_4_method_7_code, (3, none)))), ([(0, .iload_n 1), (1, .iconst 0), (2, .invokestatic 26), (5, .istore_n 2), (6, .iload_n 2), (7, .iconst 1), (8, .iadd), (9, .aload_n 0), (10, .getfield 18), (13, .if_icmp .ge 45), (16, .iload_n 2), (17, .iconst 1), (18, .iadd), (19, .bipush 12), (21, .if_icmp .ge 37), (24, .aload_n 0), (25, .getfield 9), (28, .iload_n 2), (29, .aload_n 0), (30, .getfield 9), (33, .iload_n 2), (34, .iconst 1), (35, .iadd), (36, .iaload), (37, .iastore), (38, .aload_n 0), (39, .getfield 15), (42, .iload_n 2), (43, .aload_n 0), (44, .getfield 15), (47, .iload_n 2), (48, .iconst 1), (49, .iadd), (50, .iaload), (51, .iastore), (52, .iinc 2 1), (55, .goto (-49)), (58, .aload_n 0), (59, .aload_n 0), (60, .getfield 18), (63, .iconst 1), (64, .isub), (65, .iconst 0), (66, .invokestatic 26), (69, .putfield 18), (72, .return_)], ([(6, [true, false, true]), (58, [true, false, false])], zp_2)))
def mc3_init : zv_M := ((RX3, (⟨RX3, "<init>", "()V"⟩, (prog_5_method_1_code, (1, none)))), ([(0, .aload_n 0), (1, .invokespecial 3), (4, .aload_n 0), (5, .sipush 700), (8, .newarray .int), (10, .putfield 9), (13, .aload_n 0), (14, .new 15), (17, .dup), (18, .invokespecial 17), (21, .putfield 18), (24, .return_)], ([], zp_3)))
def mc3_addByte : zv_M := ((RX3, (⟨RX3, "addByte", "(I)V"⟩, (prog_5_method_2_code, (2, none)))), ([(0, .aload_n 0), (1, .getfield 22), (4, .ifCond .lt 33), (7, .aload_n 0), (8, .getfield 22), (11, .sipush 700), (14, .if_icmp .ge 23), (17, .aload_n 0), (18, .getfield 9), (21, .aload_n 0), (22, .getfield 22), (25, .iload_n 1), (26, .iastore), (27, .aload_n 0), (28, .dup), (29, .getfield 22), (32, .iconst 1), (33, .iadd), (34, .putfield 22), (37, .return_)], ([], zp_3)))
def mc3_byteAt : zv_M := ((RX3, (⟨RX3, "byteAt", "(I)I"⟩, (prog_5_method_3_code, (2, (some .int))))), ([(0, .iload_n 1), (1, .ifCond .lt 27), (4, .iload_n 1), (5, .aload_n 0), (6, .getfield 26), (9, .if_icmp .ge 19), (12, .iload_n 1), (13, .sipush 700), (16, .if_icmp .ge 12), (19, .aload_n 0), (20, .getfield 9), (23, .iload_n 1), (24, .iaload), (25, .goto 4), (28, .iconst (-1)), (29, .ireturn)], ([], zp_3)))
def mc3_fail : zv_M := ((RX3, (⟨RX3, "fail", "(I)Z"⟩, (prog_5_method_4_code, (2, (some .boolean))))), ([(0, .aload_n 0), (1, .iload_n 1), (2, .putfield 29), (5, .aload_n 0), (6, .aload_n 0), (7, .getfield 32), (10, .putfield 35), (13, .iconst 0), (14, .ireturn)], ([], zp_3)))
def mc3_more : zv_M := ((RX3, (⟨RX3, "more", "()Z"⟩, (prog_5_method_5_code, (1, (some .boolean))))), ([(0, .aload_n 0), (1, .getfield 29), (4, .ifCond .ne 14), (7, .aload_n 0), (8, .getfield 38), (11, .ifCond .eq 7), (14, .iconst 1), (15, .goto 4), (18, .iconst 0), (19, .ireturn)], ([], zp_3)))
def mc3_begin : zv_M := ((RX3, (⟨RX3, "begin", "(I)V"⟩, (prog_5_method_6_code, (2, none)))), ([(0, .aload_n 0), (1, .iload_n 1), (2, .aload_n 0), (3, .getfield 22), (6, .invokestatic 41), (9, .putfield 26), (12, .aload_n 0), (13, .iconst 0), (14, .putfield 22), (17, .aload_n 0), (18, .iconst 0), (19, .putfield 29), (22, .aload_n 0), (23, .iconst (-1)), (24, .putfield 35), (27, .aload_n 0), (28, .iconst 0), (29, .putfield 47), (32, .aload_n 0), (33, .invokevirtual 50), (36, .pop), (37, .return_)], ([], zp_3)))
def mc3_next : zv_M := ((RX3, (⟨RX3, "next", "()Z"⟩, (prog_5_method_7_code, (1, (some .boolean))))), ([(0, .aload_n 0), (1, .aload_n 0), (2, .getfield 47), (5, .putfield 32), (8, .aload_n 0), (9, .getfield 32), (12, .aload_n 0), (13, .getfield 26), (16, .if_icmp .ge 42), (19, .aload_n 0), (20, .aload_n 0), (21, .getfield 32), (24, .invokevirtual 54), (27, .bipush 32), (29, .if_icmp .eq 16), (32, .aload_n 0), (33, .aload_n 0), (34, .getfield 32), (37, .invokevirtual 54), (40, .bipush 10), (42, .if_icmp .ne 16), (45, .aload_n 0), (46, .dup), (47, .getfield 32), (50, .iconst 1), (51, .iadd), (52, .putfield 32), (55, .goto (-47)), (58, .aload_n 0), (59, .aload_n 0), (60, .getfield 32), (63, .putfield 47), (66, .aload_n 0), (67, .aload_n 0), (68, .aload_n 0), (69, .getfield 32), (72, .invokevirtual 54), (75, .putfield 58), (78, .aload_n 0), (79, .getfield 58), (82, .iconst (-1)), (83, .if_icmp .ne 10), (86, .aload_n 0), (87, .iconst 0), (88, .putfield 38), (91, .iconst 1), (92, .ireturn), (93, .aload_n 0), (94, .getfield 58), (97, .invokestatic 61), (100, .ifCond .eq 48), (103, .aload_n 0), (104, .iconst 1), (105, .putfield 38), (108, .aload_n 0), (109, .getfield 47), (112, .aload_n 0), (113, .getfield 26), (116, .if_icmp .ge 30), (119, .aload_n 0), (120, .aload_n 0), (121, .getfield 47), (124, .invokevirtual 54), (127, .invokestatic 61), (130, .ifCond .eq 16), (133, .aload_n 0), (134, .dup), (135, .getfield 47), (138, .iconst 1), (139, .iadd), (140, .putfield 47), (143, .goto (-35)), (146, .iconst 1), (147, .ireturn), (148, .aload_n 0), (149, .getfield 58), (152, .invokestatic 65), (155, .ifCond .eq 114), (158, .aload_n 0), (159, .iconst 2), (160, .putfield 38), (163, .aload_n 0), (164, .iconst 0), (165, .putfield 58), (168, .aload_n 0), (169, .getfield 47), (172, .aload_n 0), (173, .getfield 26), (176, .if_icmp .ge 66), (179, .aload_n 0), (180, .getfield 47), (183, .aload_n 0), (184, .getfield 32), (187, .isub), (188, .iconst 3), (189, .if_icmp .gt 53), (192, .aload_n 0), (193, .aload_n 0), (194, .getfield 47), (197, .invokevirtual 54), (200, .invokestatic 65), (203, .ifCond .eq 39), (206, .aload_n 0), (207, .aload_n 0), (208, .getfield 58), (211, .bipush 10), (213, .imul), (214, .aload_n 0), (215, .aload_n 0), (216, .getfield 47), (219, .invokevirtual 54), (222, .iadd), (223, .bipush 48), (225, .isub), (226, .putfield 58), (229, .aload_n 0), (230, .dup), (231, .getfield 47), (234, .iconst 1), (235, .iadd), (236, .putfield 47), (239, .goto (-71)), (242, .aload_n 0), (243, .getfield 47), (246, .aload_n 0), (247, .getfield 32), (250, .isub), (251, .iconst 3), (252, .if_icmp .le 11), (255, .aload_n 0), (256, .iconst 1), (257, .invokevirtual 68), (260, .ifCond .eq 7), (263, .iconst 1), (264, .goto 4), (267, .iconst 0), (268, .ireturn), (269, .aload_n 0), (270, .iconst 3), (271, .putfield 38), (274, .aload_n 0), (275, .dup), (276, .getfield 47), (279, .iconst 1), (280, .iadd), (281, .putfield 47), (284, .aload_n 0), (285, .getfield 58), (288, .bipush 59), (290, .if_icmp .lt 12), (293, .aload_n 0), (294, .getfield 58), (297, .bipush 62), (299, .if_icmp .le 29), (302, .aload_n 0), (303, .getfield 58), (306, .bipush 91), (308, .if_icmp .eq 20), (311, .aload_n 0), (312, .getfield 58), (315, .bipush 93), (317, .if_icmp .eq 11), (320, .aload_n 0), (321, .iconst 1), (322, .invokevirtual 68), (325, .ifCond .eq 7), (328, .iconst 1), (329, .goto 4), (332, .iconst 0), (333, .ireturn)], ([(8, [true]), (58, [true]), (108, [true]), (168, [true]), (242, [true]), (302, [true])], zp_3)))
def mc3_isSmall : zv_M := ((RX3, (⟨RX3, "isSmall", "(I)Z"⟩, (prog_5_method_8_code, (1, (some .boolean))))), ([(0, .iload_n 0), (1, .bipush 97), (3, .if_icmp .lt 13), (6, .iload_n 0), (7, .bipush 122), (9, .if_icmp .gt 7), (12, .iconst 1), (13, .goto 4), (16, .iconst 0), (17, .ireturn)], ([], zp_3)))
def mc3_isDigit : zv_M := ((RX3, (⟨RX3, "isDigit", "(I)Z"⟩, (prog_5_method_9_code, (1, (some .boolean))))), ([(0, .iload_n 0), (1, .bipush 48), (3, .if_icmp .lt 13), (6, .iload_n 0), (7, .bipush 57), (9, .if_icmp .gt 7), (12, .iconst 1), (13, .goto 4), (16, .iconst 0), (17, .ireturn)], ([], zp_3)))
def mc3_is : zv_M := ((RX3, (⟨RX3, "is", "(Ljava/lang/String;)Z"⟩, (prog_5_method_10_code, (3, (some .boolean))))), ([(0, .aload_n 0), (1, .getfield 38), (4, .iconst 1), (5, .if_icmp .ne 19), (8, .aload_n 0), (9, .getfield 47), (12, .aload_n 0), (13, .getfield 32), (16, .isub), (17, .aload_n 1), (18, .invokevirtual 71), (21, .if_icmp .eq 5), (24, .iconst 0), (25, .ireturn), (26, .iconst 0), (27, .istore_n 2), (28, .iload_n 2), (29, .aload_n 1), (30, .invokevirtual 71), (33, .if_icmp .ge 29), (36, .aload_n 0), (37, .aload_n 0), (38, .getfield 32), (41, .iload_n 2), (42, .iadd), (43, .invokevirtual 54), (46, .aload_n 1), (47, .iload_n 2), (48, .invokevirtual 76), (51, .if_icmp .eq 5), (54, .iconst 0), (55, .ireturn), (56, .iinc 2 1), (59, .goto (-31)), (62, .iconst 1), (63, .ireturn)], ([(28, [true, true, true])], zp_3)))
def mc3_isSign : zv_M := ((RX3, (⟨RX3, "isSign", "(I)Z"⟩, (prog_5_method_11_code, (2, (some .boolean))))), ([(0, .aload_n 0), (1, .getfield 38), (4, .iconst 3), (5, .if_icmp .ne 15), (8, .aload_n 0), (9, .getfield 58), (12, .iload_n 1), (13, .if_icmp .ne 7), (16, .iconst 1), (17, .goto 4), (20, .iconst 0), (21, .ireturn)], ([], zp_3)))
def mc3_head : zv_M := ((RX3, (⟨RX3, "head", "(LBranchedText$History;)V"⟩, (prog_5_method_12_code, (2, none)))), ([(0, .aload_n 0), (1, .getfield 29), (4, .ifCond .ne 48), (7, .aload_n 0), (8, .ldc 80), (10, .invokevirtual 82), (13, .ifCond .eq 39), (16, .aload_n 0), (17, .invokevirtual 50), (20, .ifCond .eq 32), (23, .aload_n 0), (24, .bipush 40), (26, .invokevirtual 86), (29, .ifCond .eq 23), (32, .aload_n 0), (33, .invokevirtual 89), (36, .ifCond .eq 16), (39, .aload_n 1), (40, .aload_n 0), (41, .getfield 18), (44, .invokevirtual 92), (47, .aload_n 0), (48, .invokevirtual 50), (51, .pop), (52, .aload_n 0), (53, .getfield 29), (56, .ifCond .ne 50), (59, .aload_n 0), (60, .ldc 98), (62, .invokevirtual 82), (65, .ifCond .eq 41), (68, .aload_n 0), (69, .invokevirtual 50), (72, .ifCond .eq 34), (75, .aload_n 1), (76, .getfield 100), (79, .invokevirtual 103), (82, .aload_n 0), (83, .aload_n 1), (84, .getfield 100), (87, .iconst 0), (88, .invokevirtual 108), (91, .ifCond .eq 15), (94, .aload_n 0), (95, .invokevirtual 89), (98, .ifCond .eq 8), (101, .aload_n 0), (102, .invokevirtual 50), (105, .pop), (106, .return_)], ([(52, [true, true])], zp_3)))
def mc3_closed : zv_M := ((RX3, (⟨RX3, "closed", "()Z"⟩, (prog_5_method_13_code, (1, (some .boolean))))), ([(0, .aload_n 0), (1, .bipush 59), (3, .invokevirtual 112), (6, .ifCond .ne 11), (9, .aload_n 0), (10, .iconst 2), (11, .invokevirtual 68), (14, .ifCond .eq 7), (17, .iconst 1), (18, .goto 4), (21, .iconst 0), (22, .ireturn)], ([], zp_3)))
def mc3_spelled : zv_M := ((RX3, (⟨RX3, "spelled", "(I)Z"⟩, (prog_5_method_14_code, (3, (some .boolean))))), ([(0, .aload_n 0), (1, .getfield 38), (4, .iconst 1), (5, .if_icmp .eq 9), (8, .aload_n 0), (9, .iconst 2), (10, .invokevirtual 68), (13, .ireturn), (14, .aload_n 0), (15, .getfield 47), (18, .aload_n 0), (19, .getfield 32), (22, .isub), (23, .iload_n 1), (24, .if_icmp .le 9), (27, .aload_n 0), (28, .iconst 4), (29, .invokevirtual 68), (32, .ireturn), (33, .aload_n 0), (34, .getfield 18), (37, .invokevirtual 115), (40, .aload_n 0), (41, .getfield 32), (44, .istore_n 2), (45, .iload_n 2), (46, .aload_n 0), (47, .getfield 47), (50, .if_icmp .ge 24), (53, .aload_n 0), (54, .getfield 18), (57, .aload_n 0), (58, .iload_n 2), (59, .invokevirtual 54), (62, .bipush 97), (64, .isub), (65, .invokevirtual 116), (68, .iinc 2 1), (71, .goto (-26)), (74, .aload_n 0), (75, .invokevirtual 50), (78, .ireturn)], ([(45, [true, false, true])], zp_3)))
def mc3_test : zv_M := ((RX3, (⟨RX3, "test", "(LBranchedText$JoinTest;I)Z"⟩, (prog_5_method_15_code, (5, (some .boolean))))), ([(0, .aload_n 0), (1, .aload_n 1), (2, .iload_n 2), (3, .invokevirtual 120), (6, .istore_n 3), (7, .iconst 0), (8, .istore 4), (10, .iload 4), (12, .sipush 700), (15, .if_icmp .ge 51), (18, .iload_n 3), (19, .ifCond .eq 47), (22, .aload_n 0), (23, .ldc 123), (25, .invokevirtual 82), (28, .ifCond .eq 38), (31, .aload_n 0), (32, .invokevirtual 50), (35, .ifCond .eq 16), (38, .aload_n 0), (39, .aload_n 1), (40, .iload_n 2), (41, .invokevirtual 120), (44, .ifCond .eq 7), (47, .iconst 1), (48, .goto 4), (51, .iconst 0), (52, .istore_n 3), (53, .aload_n 1), (54, .bipush 20), (56, .iconst 0), (57, .invokevirtual 125), (60, .iinc 4 1), (63, .goto (-53)), (66, .iload_n 3), (67, .ireturn)], ([(10, [true, true, true, true, true]), (51, [true, true, true, false, true]), (52, [true, true, true, false, true])], zp_3)))
def mc3_side : zv_M := ((RX3, (⟨RX3, "side", "(LBranchedText$JoinTest;I)Z"⟩, (prog_5_method_16_code, (5, (some .boolean))))), ([(0, .aload_n 0), (1, .aload_n 1), (2, .iload_n 2), (3, .invokevirtual 128), (6, .istore_n 3), (7, .iconst 0), (8, .istore 4), (10, .iload 4), (12, .sipush 700), (15, .if_icmp .ge 51), (18, .iload_n 3), (19, .ifCond .eq 47), (22, .aload_n 0), (23, .ldc 131), (25, .invokevirtual 82), (28, .ifCond .eq 38), (31, .aload_n 0), (32, .invokevirtual 50), (35, .ifCond .eq 16), (38, .aload_n 0), (39, .aload_n 1), (40, .iload_n 2), (41, .invokevirtual 128), (44, .ifCond .eq 7), (47, .iconst 1), (48, .goto 4), (51, .iconst 0), (52, .istore_n 3), (53, .aload_n 1), (54, .bipush 19), (56, .iconst 0), (57, .invokevirtual 125), (60, .iinc 4 1), (63, .goto (-53)), (66, .iload_n 3), (67, .ireturn)], ([(10, [true, true, true, true, true]), (51, [true, true, true, false, true]), (52, [true, true, true, false, true])], zp_3)))
def mc3_fact : zv_M := ((RX3, (⟨RX3, "fact", "(LBranchedText$JoinTest;I)Z"⟩, (prog_5_method_17_code, (5, (some .boolean))))), ([(0, .aload_n 0), (1, .ldc 133), (3, .invokevirtual 82), (6, .istore_n 3), (7, .iload_n 3), (8, .ifCond .ne 22), (11, .aload_n 0), (12, .bipush 91), (14, .invokevirtual 112), (17, .ifCond .ne 13), (20, .aload_n 0), (21, .aload_n 1), (22, .aload_n 0), (23, .invokevirtual 135), (26, .invokevirtual 138), (29, .ireturn), (30, .iload_n 2), (31, .bipush 6), (33, .if_icmp .lt 10), (36, .aload_n 0), (37, .bipush 6), (39, .invokevirtual 68), (42, .ireturn), (43, .aload_n 0), (44, .invokevirtual 50), (47, .ifCond .ne 5), (50, .iconst 0), (51, .ireturn), (52, .iload_n 3), (53, .ifCond .eq 23), (56, .aload_n 0), (57, .aload_n 1), (58, .iload_n 2), (59, .iconst 1), (60, .iadd), (61, .invokevirtual 128), (64, .istore 4), (66, .aload_n 1), (67, .bipush 18), (69, .iconst 0), (70, .invokevirtual 125), (73, .iload 4), (75, .ireturn), (76, .aload_n 0), (77, .aload_n 1), (78, .iload_n 2), (79, .iconst 1), (80, .iadd), (81, .invokevirtual 108), (84, .ifCond .ne 5), (87, .iconst 0), (88, .ireturn), (89, .aload_n 0), (90, .bipush 93), (92, .invokevirtual 112), (95, .ifCond .eq 10), (98, .aload_n 0), (99, .invokevirtual 50), (102, .goto 8), (105, .aload_n 0), (106, .iconst 2), (107, .invokevirtual 68), (110, .ireturn)], ([(30, [true, true, true, true, false])], zp_3)))
def mc3_comparison : zv_M := ((RX3, (⟨RX3, "comparison", "(LBranchedText$JoinTest;I)Z"⟩, (prog_5_method_18_code, (4, (some .boolean))))), ([(0, .iload_n 2), (1, .iconst (-1)), (2, .if_icmp .ne 9), (5, .aload_n 0), (6, .iconst 2), (7, .invokevirtual 68), (10, .ireturn), (11, .aload_n 0), (12, .invokevirtual 50), (15, .ifCond .ne 5), (18, .iconst 0), (19, .ireturn), (20, .aload_n 0), (21, .getfield 38), (24, .iconst 3), (25, .if_icmp .ne 21), (28, .aload_n 0), (29, .getfield 58), (32, .bipush 60), (34, .if_icmp .lt 12), (37, .aload_n 0), (38, .getfield 58), (41, .bipush 62), (43, .if_icmp .le 9), (46, .aload_n 0), (47, .iconst 2), (48, .invokevirtual 68), (51, .ireturn), (52, .aload_n 0), (53, .getfield 58), (56, .bipush 60), (58, .isub), (59, .istore_n 3), (60, .aload_n 0), (61, .invokevirtual 50), (64, .ifCond .ne 5), (67, .iconst 0), (68, .ireturn), (69, .aload_n 0), (70, .getfield 38), (73, .iconst 2), (74, .if_icmp .eq 9), (77, .aload_n 0), (78, .iconst 2), (79, .invokevirtual 68), (82, .ireturn), (83, .aload_n 1), (84, .iload_n 2), (85, .iload_n 3), (86, .aload_n 0), (87, .getfield 58), (90, .invokevirtual 141), (93, .aload_n 0), (94, .invokevirtual 50), (97, .ireturn)], ([(46, [true, false, false, false])], zp_3)))
def mc3_asked : zv_M := ((RX3, (⟨RX3, "asked", "()I"⟩, (prog_5_method_19_code, (1, (some .int))))), ([(0, .aload_n 0), (1, .ldc 145), (3, .invokevirtual 82), (6, .ifCond .eq 7), (9, .iconst 0), (10, .goto 69), (13, .aload_n 0), (14, .ldc 147), (16, .invokevirtual 82), (19, .ifCond .eq 7), (22, .iconst 1), (23, .goto 56), (26, .aload_n 0), (27, .ldc 149), (29, .invokevirtual 82), (32, .ifCond .eq 7), (35, .iconst 2), (36, .goto 43), (39, .aload_n 0), (40, .ldc 150), (42, .invokevirtual 82), (45, .ifCond .eq 7), (48, .iconst 3), (49, .goto 30), (52, .aload_n 0), (53, .ldc 152), (55, .invokevirtual 82), (58, .ifCond .eq 7), (61, .iconst 4), (62, .goto 17), (65, .aload_n 0), (66, .ldc 154), (68, .invokevirtual 82), (71, .ifCond .eq 7), (74, .iconst 5), (75, .goto 4), (78, .iconst (-1)), (79, .ireturn)], ([], zp_3)))
def mc3_line : zv_M := ((RX3, (⟨RX3, "line", "()Z"⟩, (prog_5_method_20_code, (2, (some .boolean))))), ([(0, .aload_n 0), (1, .aload_n 0), (2, .invokevirtual 156), (5, .putfield 159), (8, .aload_n 0), (9, .getfield 159), (12, .iconst (-1)), (13, .if_icmp .ne 9), (16, .aload_n 0), (17, .iconst 2), (18, .invokevirtual 68), (21, .ireturn), (22, .aload_n 0), (23, .invokevirtual 50), (26, .istore_n 1), (27, .iload_n 1), (28, .ifCond .eq 57), (31, .aload_n 0), (32, .getfield 159), (35, .iconst 3), (36, .if_icmp .eq 49), (39, .aload_n 0), (40, .getfield 159), (43, .iconst 4), (44, .if_icmp .eq 41), (47, .aload_n 0), (48, .getfield 159), (51, .bipush 6), (53, .if_icmp .eq 32), (56, .aload_n 0), (57, .aload_n 0), (58, .getfield 58), (61, .putfield 162), (64, .aload_n 0), (65, .getfield 38), (68, .iconst 2), (69, .if_icmp .ne 10), (72, .aload_n 0), (73, .invokevirtual 50), (76, .goto 8), (79, .aload_n 0), (80, .iconst 2), (81, .invokevirtual 68), (84, .istore_n 1), (85, .iload_n 1), (86, .ifCond .eq 40), (89, .aload_n 0), (90, .getfield 159), (93, .iconst 1), (94, .if_icmp .ne 32), (97, .aload_n 0), (98, .aload_n 0), (99, .getfield 58), (102, .putfield 165), (105, .aload_n 0), (106, .getfield 38), (109, .iconst 2), (110, .if_icmp .ne 10), (113, .aload_n 0), (114, .invokevirtual 50), (117, .goto 8), (120, .aload_n 0), (121, .iconst 2), (122, .invokevirtual 68), (125, .istore_n 1), (126, .iload_n 1), (127, .ifCond .eq 17), (130, .aload_n 0), (131, .getfield 159), (134, .ifCond .ne 10), (137, .aload_n 0), (138, .bipush 12), (140, .invokevirtual 86), (143, .istore_n 1), (144, .iload_n 1), (145, .ifCond .eq 19), (148, .aload_n 0), (149, .getfield 159), (152, .bipush 6), (154, .if_icmp .ne 10), (157, .aload_n 0), (158, .bipush 6), (160, .invokevirtual 86), (163, .istore_n 1), (164, .iload_n 1), (165, .ifCond .eq 14), (168, .aload_n 0), (169, .invokevirtual 89), (172, .ifCond .eq 7), (175, .iconst 1), (176, .goto 4), (179, .iconst 0), (180, .ireturn)], ([(84, [true, false]), (85, [true, true]), (125, [true, false]), (126, [true, true]), (144, [true, true]), (164, [true, true])], zp_3)))
def mc3_verbHere : zv_M := ((RX3, (⟨RX3, "verbHere", "()I"⟩, (prog_5_method_21_code, (1, (some .int))))), ([(0, .aload_n 0), (1, .ldc 168), (3, .invokevirtual 82), (6, .ifCond .eq 7), (9, .iconst 0), (10, .goto 153), (13, .aload_n 0), (14, .ldc 170), (16, .invokevirtual 82), (19, .ifCond .eq 7), (22, .iconst 1), (23, .goto 140), (26, .aload_n 0), (27, .ldc 172), (29, .invokevirtual 82), (32, .ifCond .eq 7), (35, .iconst 2), (36, .goto 127), (39, .aload_n 0), (40, .ldc 174), (42, .invokevirtual 82), (45, .ifCond .eq 7), (48, .iconst 3), (49, .goto 114), (52, .aload_n 0), (53, .ldc 176), (55, .invokevirtual 82), (58, .ifCond .eq 7), (61, .iconst 4), (62, .goto 101), (65, .aload_n 0), (66, .ldc 178), (68, .invokevirtual 82), (71, .ifCond .eq 7), (74, .iconst 5), (75, .goto 88), (78, .aload_n 0), (79, .ldc 180), (81, .invokevirtual 82), (84, .ifCond .eq 8), (87, .bipush 6), (89, .goto 74), (92, .aload_n 0), (93, .ldc 182), (95, .invokevirtual 82), (98, .ifCond .eq 8), (101, .bipush 7), (103, .goto 60), (106, .aload_n 0), (107, .ldc 184), (109, .invokevirtual 82), (112, .ifCond .eq 8), (115, .bipush 8), (117, .goto 46), (120, .aload_n 0), (121, .ldc 186), (123, .invokevirtual 82), (126, .ifCond .eq 8), (129, .bipush 9), (131, .goto 32), (134, .aload_n 0), (135, .ldc 188), (137, .invokevirtual 82), (140, .ifCond .eq 8), (143, .bipush 10), (145, .goto 18), (148, .aload_n 0), (149, .ldc 190), (151, .invokevirtual 82), (154, .ifCond .eq 8), (157, .bipush 11), (159, .goto 4), (162, .iconst (-1)), (163, .ireturn)], ([], zp_3)))
def mc4_init : zv_M := ((RX4, (⟨RX4, "<init>", "()V"⟩, (prog_6_method_1_code, (1, none)))), ([(0, .aload_n 0), (1, .invokespecial 3), (4, .aload_n 0), (5, .bipush 48), (7, .anewarray 9), (10, .putfield 11), (13, .aload_n 0), (14, .sipush 604), (17, .newarray .int), (19, .putfield 17), (22, .aload_n 0), (23, .sipush 604), (26, .newarray .boolean), (28, .putfield 21), (31, .aload_n 0), (32, .sipush 604), (35, .newarray .boolean), (37, .putfield 25), (40, .aload_n 0), (41, .sipush 605), (44, .newarray .int), (46, .putfield 28), (49, .return_)], ([], zp_4)))
def mc4_id : zv_M := ((RX4, (⟨RX4, "id", "(II)I"⟩, (prog_6_method_2_code, (2, (some .int))))), ([(0, .iload_n 0), (1, .ifCond .ne 7), (4, .iload_n 1), (5, .goto 14), (8, .bipush 40), (10, .iload_n 0), (11, .iconst 1), (12, .isub), (13, .bipush 12), (15, .imul), (16, .iadd), (17, .iload_n 1), (18, .iadd), (19, .ireturn)], ([], zp_4)))
def mc4_putter : zv_M := ((RX4, (⟨RX4, "putter", "(I)I"⟩, (prog_6_method_3_code, (1, (some .int))))), ([(0, .iload_n 0), (1, .bipush 40), (3, .if_icmp .ge 7), (6, .iconst 0), (7, .goto 12), (10, .iload_n 0), (11, .bipush 40), (13, .isub), (14, .bipush 12), (16, .idiv), (17, .iconst 1), (18, .iadd), (19, .ireturn)], ([], zp_4)))
def mc4_order : zv_M := ((RX4, (⟨RX4, "order", "(I)I"⟩, (prog_6_method_4_code, (1, (some .int))))), ([(0, .iload_n 0), (1, .bipush 40), (3, .if_icmp .ge 7), (6, .iload_n 0), (7, .goto 10), (10, .iload_n 0), (11, .bipush 40), (13, .isub), (14, .bipush 12), (16, .irem), (17, .ireturn)], ([], zp_4)))
def mc4_isId : zv_M := ((RX4, (⟨RX4, "isId", "(I)Z"⟩, (prog_6_method_5_code, (1, (some .boolean))))), ([(0, .iload_n 0), (1, .ifCond .lt 14), (4, .iload_n 0), (5, .sipush 604), (8, .if_icmp .ge 7), (11, .iconst 1), (12, .goto 4), (15, .iconst 0), (16, .ireturn)], ([], zp_4)))
def mc4_lay : zv_M := ((RX4, (⟨RX4, "lay", "(LBranchedText$State;)V"⟩, (prog_6_method_6_code, (4, none)))), ([(0, .aload_n 0), (1, .aload_n 1), (2, .invokevirtual 31), (5, .aload_n 0), (6, .getfield 28), (9, .sipush 604), (12, .iconst (-1)), (13, .iastore), (14, .iconst 0), (15, .istore_n 2), (16, .iload_n 2), (17, .aload_n 0), (18, .getfield 35), (21, .if_icmp .ge 40), (24, .aload_n 0), (25, .getfield 11), (28, .iload_n 2), (29, .aaload), (30, .ifnull 25), (33, .aload_n 0), (34, .getfield 11), (37, .iload_n 2), (38, .aaload), (39, .invokevirtual 39), (42, .ifCond .eq 13), (45, .aload_n 0), (46, .aload_n 0), (47, .getfield 11), (50, .iload_n 2), (51, .aaload), (52, .invokevirtual 43), (55, .iinc 2 1), (58, .goto (-42)), (61, .aload_n 0), (62, .iconst 0), (63, .putfield 46), (66, .aload_n 0), (67, .getfield 28), (70, .sipush 604), (73, .iaload), (74, .istore_n 2), (75, .iconst 0), (76, .istore_n 3), (77, .iload_n 3), (78, .sipush 604), (81, .if_icmp .ge 37), (84, .iload_n 2), (85, .invokestatic 49), (88, .ifCond .eq 30), (91, .aload_n 0), (92, .getfield 17), (95, .iload_n 3), (96, .iload_n 2), (97, .iastore), (98, .aload_n 0), (99, .iload_n 3), (100, .iconst 1), (101, .iadd), (102, .putfield 46), (105, .aload_n 0), (106, .getfield 28), (109, .iload_n 2), (110, .iaload), (111, .istore_n 2), (112, .iinc 3 1), (115, .goto (-38)), (118, .aload_n 0), (119, .aload_n 0), (120, .getfield 53), (123, .invokevirtual 57), (126, .return_)], ([(16, [true, false, true, false]), (77, [true, false, true, true]), (118, [true, false, false, false])], zp_4)))
def mc4_walk : zv_M := ((RX4, (⟨RX4, "walk", "(LBranchedText$State;)V"⟩, (prog_6_method_7_code, (7, none)))), ([(0, .lconst 0), (1, .lstore_n 2), (2, .lconst 0), (3, .lstore 4), (5, .aload_n 0), (6, .lconst 0), (7, .putfield 61), (10, .aload_n 0), (11, .aload_n 1), (12, .getfield 64), (15, .iconst 1), (16, .iadd), (17, .bipush 48), (19, .invokestatic 67), (22, .putfield 35), (25, .aload_n 1), (26, .astore 6), (28, .aload 6), (30, .ifnull 98), (33, .aload 6), (35, .getfield 64), (38, .ifCond .lt 25), (41, .aload 6), (43, .getfield 64), (46, .bipush 48), (48, .if_icmp .ge 15), (51, .aload_n 0), (52, .getfield 11), (55, .aload 6), (57, .getfield 64), (60, .aload 6), (62, .aastore), (63, .aload 6), (65, .invokevirtual 73), (68, .ifCond .eq 17), (71, .aload_n 0), (72, .dup), (73, .getfield 61), (76, .aload 6), (78, .invokevirtual 76), (81, .lor), (82, .putfield 61), (85, .aload 6), (87, .getfield 80), (90, .iconst 2), (91, .if_icmp .ne 19), (94, .lload 4), (96, .aload 6), (98, .getfield 83), (101, .lload_n 2), (102, .ldc2_w 86), (105, .lxor), (106, .land), (107, .lor), (108, .lstore 4), (110, .lload_n 2), (111, .aload 6), (113, .getfield 83), (116, .lor), (117, .lstore_n 2), (118, .aload 6), (120, .getfield 88), (123, .astore 6), (125, .goto (-97)), (128, .aload_n 0), (129, .aload_n 0), (130, .getfield 61), (133, .lload 4), (135, .ldc2_w 86), (138, .lxor), (139, .land), (140, .putfield 53), (143, .return_)], ([(28, [true, false, true, false, true, false, true]), (63, [true, false, true, false, true, false, true]), (85, [true, false, true, false, true, false, true])], zp_4)))
def mc4_link : zv_M := ((RX4, (⟨RX4, "link", "(LBranchedText$State;)V"⟩, (prog_6_method_8_code, (6, none)))), ([(0, .aload_n 1), (1, .getfield 92), (4, .invokestatic 49), (7, .ifCond .eq 10), (10, .aload_n 1), (11, .getfield 92), (14, .goto 6), (17, .sipush 604), (20, .istore_n 2), (21, .aload_n 0), (22, .getfield 28), (25, .iload_n 2), (26, .iaload), (27, .istore_n 3), (28, .iconst 0), (29, .istore 4), (31, .iload 4), (33, .aload_n 1), (34, .getfield 95), (37, .if_icmp .ge 39), (40, .aload_n 1), (41, .getfield 96), (44, .iload 4), (46, .invokestatic 99), (49, .istore 5), (51, .iload 5), (53, .invokestatic 49), (56, .ifCond .eq 14), (59, .aload_n 0), (60, .getfield 28), (63, .iload_n 2), (64, .iload 5), (66, .iastore), (67, .iload 5), (69, .istore_n 2), (70, .iinc 4 1), (73, .goto (-42)), (76, .aload_n 0), (77, .getfield 28), (80, .iload_n 2), (81, .iload_n 3), (82, .iastore), (83, .return_)], ([(31, [true, true, true, true, true, false])], zp_4)))
def mc4_look : zv_M := ((RX4, (⟨RX4, "look", "(J)V"⟩, (prog_6_method_9_code, (7, none)))), ([(0, .iconst 0), (1, .istore_n 3), (2, .iload_n 3), (3, .sipush 604), (6, .if_icmp .ge 16), (9, .aload_n 0), (10, .getfield 25), (13, .iload_n 3), (14, .iconst 0), (15, .bastore), (16, .iinc 3 1), (19, .goto (-17)), (22, .iconst 0), (23, .istore_n 3), (24, .iload_n 3), (25, .aload_n 0), (26, .getfield 35), (29, .if_icmp .ge 78), (32, .aload_n 0), (33, .getfield 11), (36, .iload_n 3), (37, .aaload), (38, .astore 4), (40, .iconst 0), (41, .istore 5), (43, .aload 4), (45, .ifnull 56), (48, .lload_n 1), (49, .aload 4), (51, .invokevirtual 76), (54, .land), (55, .lconst 0), (56, .lcmp), (57, .ifCond .eq 44), (60, .iload 5), (62, .aload 4), (64, .getfield 95), (67, .if_icmp .ge 34), (70, .aload 4), (72, .iload 5), (74, .invokevirtual 102), (77, .istore 6), (79, .iload 6), (81, .invokestatic 49), (84, .ifCond .eq 11), (87, .aload_n 0), (88, .getfield 25), (91, .iload 6), (93, .iconst 1), (94, .bastore), (95, .iinc 5 1), (98, .goto (-55)), (101, .iinc 3 1), (104, .goto (-80)), (107, .aload_n 0), (108, .iconst 0), (109, .putfield 106), (112, .iconst 0), (113, .istore_n 3), (114, .iload_n 3), (115, .aload_n 0), (116, .getfield 46), (119, .if_icmp .ge 99), (122, .iload_n 3), (123, .sipush 604), (126, .if_icmp .ge 92), (129, .aload_n 0), (130, .getfield 17), (133, .iload_n 3), (134, .iaload), (135, .istore 4), (137, .iload 4), (139, .invokestatic 109), (142, .istore 5), (144, .aload_n 0), (145, .getfield 21), (148, .iload_n 3), (149, .iload 4), (151, .invokestatic 49), (154, .ifCond .eq 33), (157, .aload_n 0), (158, .getfield 25), (161, .iload 4), (163, .baload), (164, .ifCond .ne 23), (167, .iload 5), (169, .ifCond .eq 14), (172, .lload_n 1), (173, .iload 5), (175, .lushr), (176, .lconst 1), (177, .land), (178, .lconst 0), (179, .lcmp), (180, .ifCond .eq 7), (183, .iconst 1), (184, .goto 4), (187, .iconst 0), (188, .bastore), (189, .aload_n 0), (190, .dup), (191, .getfield 106), (194, .aload_n 0), (195, .getfield 21), (198, .iload_n 3), (199, .baload), (200, .ifCond .eq 7), (203, .iconst 1), (204, .goto 4), (207, .iconst 0), (208, .iadd), (209, .putfield 106), (212, .iinc 3 1), (215, .goto (-101)), (218, .return_)], ([(2, [true, true, false, true, false, false, false]), (24, [true, true, false, true, false, false, false]), (43, [true, true, false, true, true, true, false]), (114, [true, true, false, true, false, false, false]), (183, [true, true, false, true, false, false, false]), (187, [true, true, false, true, false, false, false]), (188, [true, true, false, true, false, false, false])], zp_4)))
def mc4_numberAt : zv_M := ((RX4, (⟨RX4, "numberAt", "(I)I"⟩, (prog_6_method_10_code, (2, (some .int))))), ([(0, .iload_n 1), (1, .ifCond .lt 38), (4, .iload_n 1), (5, .aload_n 0), (6, .getfield 35), (9, .if_icmp .ge 30), (12, .iload_n 1), (13, .bipush 48), (15, .if_icmp .ge 24), (18, .aload_n 0), (19, .getfield 11), (22, .iload_n 1), (23, .aaload), (24, .ifnull 15), (27, .aload_n 0), (28, .getfield 11), (31, .iload_n 1), (32, .aaload), (33, .getfield 96), (36, .goto 4), (39, .iconst 0), (40, .ireturn)], ([], zp_4)))
def mc4_idAt : zv_M := ((RX4, (⟨RX4, "idAt", "(I)I"⟩, (prog_6_method_11_code, (2, (some .int))))), ([(0, .iload_n 1), (1, .ifCond .lt 27), (4, .iload_n 1), (5, .aload_n 0), (6, .getfield 46), (9, .if_icmp .ge 19), (12, .iload_n 1), (13, .sipush 604), (16, .if_icmp .ge 12), (19, .aload_n 0), (20, .getfield 17), (23, .iload_n 1), (24, .iaload), (25, .goto 4), (28, .iconst (-1)), (29, .ireturn)], ([], zp_4)))
def mc4_seesAt : zv_M := ((RX4, (⟨RX4, "seesAt", "(I)Z"⟩, (prog_6_method_12_code, (2, (some .boolean))))), ([(0, .iload_n 1), (1, .ifCond .lt 31), (4, .iload_n 1), (5, .aload_n 0), (6, .getfield 46), (9, .if_icmp .ge 23), (12, .iload_n 1), (13, .sipush 604), (16, .if_icmp .ge 16), (19, .aload_n 0), (20, .getfield 21), (23, .iload_n 1), (24, .baload), (25, .ifCond .eq 7), (28, .iconst 1), (29, .goto 4), (32, .iconst 0), (33, .ireturn)], ([], zp_4)))
def mc4_placeOf : zv_M := ((RX4, (⟨RX4, "placeOf", "(I)I"⟩, (prog_6_method_13_code, (3, (some .int))))), ([(0, .iconst 0), (1, .istore_n 2), (2, .iload_n 2), (3, .aload_n 0), (4, .getfield 46), (7, .if_icmp .ge 25), (10, .iload_n 1), (11, .iconst (-1)), (12, .if_icmp .eq 14), (15, .aload_n 0), (16, .iload_n 2), (17, .invokevirtual 112), (20, .iload_n 1), (21, .if_icmp .ne 5), (24, .iload_n 2), (25, .ireturn), (26, .iinc 2 1), (29, .goto (-27)), (32, .iconst (-1)), (33, .ireturn)], ([(2, [true, true, true])], zp_4)))
def mc4_seenUpTo : zv_M := ((RX4, (⟨RX4, "seenUpTo", "(I)I"⟩, (prog_6_method_14_code, (5, (some .int))))), ([(0, .aload_n 0), (1, .iload_n 1), (2, .invokevirtual 115), (5, .istore_n 2), (6, .iload_n 2), (7, .iconst (-1)), (8, .if_icmp .ne 5), (11, .iconst (-1)), (12, .ireturn), (13, .iconst 0), (14, .istore_n 3), (15, .iconst 0), (16, .istore 4), (18, .iload 4), (20, .iload_n 2), (21, .if_icmp .gt 26), (24, .iload_n 3), (25, .aload_n 0), (26, .iload 4), (28, .invokevirtual 118), (31, .ifCond .eq 7), (34, .iconst 1), (35, .goto 4), (38, .iconst 0), (39, .iadd), (40, .istore_n 3), (41, .iinc 4 1), (44, .goto (-26)), (47, .iload_n 3), (48, .ireturn)], ([(18, [true, false, true, true, true])], zp_4)))
def mc4_outOfForce : zv_M := ((RX4, (⟨RX4, "outOfForce", "()J"⟩, (prog_6_method_15_code, (1, (some .long))))), ([(0, .aload_n 0), (1, .getfield 61), (4, .aload_n 0), (5, .getfield 53), (8, .ldc2_w 86), (11, .lxor), (12, .land), (13, .lreturn)], ([], zp_4)))
def mc4_cutsInForce : zv_M := ((RX4, (⟨RX4, "cutsInForce", "(I)I"⟩, (prog_6_method_16_code, (5, (some .int))))), ([(0, .iconst 0), (1, .istore_n 2), (2, .iconst 0), (3, .istore_n 3), (4, .iload_n 3), (5, .aload_n 0), (6, .getfield 35), (9, .if_icmp .ge 49), (12, .aload_n 0), (13, .getfield 11), (16, .iload_n 3), (17, .aaload), (18, .astore 4), (20, .aload 4), (22, .ifnull 30), (25, .aload_n 0), (26, .getfield 53), (29, .aload 4), (31, .invokevirtual 76), (34, .land), (35, .lconst 0), (36, .lcmp), (37, .ifCond .eq 15), (40, .aload 4), (42, .iload_n 1), (43, .invokevirtual 121), (46, .ifCond .eq 6), (49, .iinc 2 1), (52, .iinc 3 1), (55, .goto (-51)), (58, .iload_n 2), (59, .ireturn)], ([(4, [true, true, true, true, false])], zp_4)))
def mc4_lastCut : zv_M := ((RX4, (⟨RX4, "lastCut", "(I)I"⟩, (prog_6_method_17_code, (3, (some .int))))), ([(0, .aload_n 0), (1, .getfield 35), (4, .iconst 1), (5, .isub), (6, .istore_n 2), (7, .iload_n 2), (8, .ifCond .lt 41), (11, .aload_n 0), (12, .getfield 11), (15, .iload_n 2), (16, .aaload), (17, .ifnull 26), (20, .aload_n 0), (21, .getfield 11), (24, .iload_n 2), (25, .aaload), (26, .iload_n 1), (27, .invokevirtual 121), (30, .ifCond .eq 13), (33, .aload_n 0), (34, .getfield 11), (37, .iload_n 2), (38, .aaload), (39, .getfield 96), (42, .ireturn), (43, .iinc 2 (-1)), (46, .goto (-39)), (49, .iconst (-1)), (50, .ireturn)], ([(7, [true, true, true])], zp_4)))
def mc4_leaningOn : zv_M := ((RX4, (⟨RX4, "leaningOn", "(LBranchedText$State;)J"⟩, (prog_6_method_18_code, (6, (some .long))))), ([(0, .aload_n 1), (1, .invokevirtual 76), (4, .lstore_n 2), (5, .iconst 0), (6, .istore 4), (8, .iload 4), (10, .aload_n 0), (11, .getfield 35), (14, .if_icmp .ge 55), (17, .aload_n 0), (18, .getfield 11), (21, .iload 4), (23, .aaload), (24, .astore 5), (26, .aload 5), (28, .ifnull 35), (31, .aload 5), (33, .getfield 64), (36, .aload_n 1), (37, .getfield 64), (40, .if_icmp .le 23), (43, .aload 5), (45, .getfield 124), (48, .lload_n 2), (49, .land), (50, .lconst 0), (51, .lcmp), (52, .ifCond .eq 11), (55, .lload_n 2), (56, .aload 5), (58, .invokevirtual 76), (61, .lor), (62, .lstore_n 2), (63, .iinc 4 1), (66, .goto (-58)), (69, .lload_n 2), (70, .lreturn)], ([(8, [true, true, true, false, true, false])], zp_4)))
def mc4_groundOf : zv_M := ((RX4, (⟨RX4, "groundOf", "(LBranchedText$State;)J"⟩, (prog_6_method_19_code, (5, (some .long))))), ([(0, .aload_n 1), (1, .invokevirtual 76), (4, .lstore_n 2), (5, .aload_n 1), (6, .astore 4), (8, .aload 4), (10, .ifnull 33), (13, .lload_n 2), (14, .aload 4), (16, .invokevirtual 76), (19, .land), (20, .lconst 0), (21, .lcmp), (22, .ifCond .eq 11), (25, .lload_n 2), (26, .aload 4), (28, .getfield 124), (31, .lor), (32, .lstore_n 2), (33, .aload 4), (35, .getfield 88), (38, .astore 4), (40, .goto (-32)), (43, .lload_n 2), (44, .lreturn)], ([(8, [false, false, true, false, true])], zp_4)))
def mc5_init : zv_M := ((RX5, (⟨RX5, "<init>", "(I)V"⟩, (prog_7_method_1_code, (2, none)))), ([(0, .aload_n 0), (1, .invokespecial 3), (4, .aload_n 0), (5, .bipush 12), (7, .newarray .int), (9, .putfield 9), (12, .aload_n 0), (13, .bipush 120), (15, .newarray .int), (17, .putfield 15), (20, .aload_n 0), (21, .iload_n 1), (22, .putfield 18), (25, .return_)], ([], zp_5)))
def mc5_open : zv_M := ((RX5, (⟨RX5, "open", "(LBranchedText$State;III)V"⟩, (prog_7_method_2_code, (5, none)))), ([(0, .aload_n 0), (1, .iconst 1), (2, .putfield 22), (5, .aload_n 0), (6, .aload_n 1), (7, .putfield 26), (10, .aload_n 0), (11, .aload_n 0), (12, .putfield 30), (15, .aload_n 0), (16, .iload_n 2), (17, .putfield 33), (20, .aload_n 0), (21, .iconst 0), (22, .putfield 36), (25, .aload_n 0), (26, .iload_n 3), (27, .putfield 39), (30, .aload_n 0), (31, .iload 4), (33, .putfield 42), (36, .aload_n 0), (37, .aload_n 1), (38, .ifnonnull 7), (41, .iconst 0), (42, .goto 9), (45, .aload_n 1), (46, .getfield 45), (49, .iconst 1), (50, .iadd), (51, .putfield 45), (54, .aload_n 0), (55, .iconst 0), (56, .putfield 48), (59, .aload_n 0), (60, .iconst 0), (61, .putfield 51), (64, .aload_n 0), (65, .iconst 0), (66, .putfield 54), (69, .aload_n 0), (70, .iconst 0), (71, .putfield 57), (74, .aload_n 0), (75, .iconst (-1)), (76, .putfield 60), (79, .aload_n 0), (80, .lconst 0), (81, .putfield 63), (84, .aload_n 0), (85, .lconst 0), (86, .putfield 67), (89, .return_)], ([(51, [true, false, false, false, false])], zp_5)))
def mc5_bit : zv_M := ((RX5, (⟨RX5, "bit", "()J"⟩, (prog_7_method_3_code, (1, (some .long))))), ([(0, .lconst 1), (1, .aload_n 0), (2, .getfield 18), (5, .lshl), (6, .lreturn)], ([], zp_5)))
def mc5_edits : zv_M := ((RX5, (⟨RX5, "edits", "()Z"⟩, (prog_7_method_4_code, (1, (some .boolean))))), ([(0, .aload_n 0), (1, .getfield 33), (4, .ifCond .eq 11), (7, .aload_n 0), (8, .getfield 33), (11, .iconst 1), (12, .if_icmp .ne 7), (15, .iconst 1), (16, .goto 4), (19, .iconst 0), (20, .ireturn)], ([], zp_5)))
def mc5_brings : zv_M := ((RX5, (⟨RX5, "brings", "()Z"⟩, (prog_7_method_5_code, (1, (some .boolean))))), ([(0, .aload_n 0), (1, .getfield 33), (4, .ifCond .eq 11), (7, .aload_n 0), (8, .getfield 33), (11, .iconst (-1)), (12, .if_icmp .ne 7), (15, .iconst 1), (16, .goto 4), (19, .iconst 0), (20, .ireturn)], ([], zp_5)))
def mc5_idAt : zv_M := ((RX5, (⟨RX5, "idAt", "(I)I"⟩, (prog_7_method_6_code, (2, (some .int))))), ([(0, .iload_n 1), (1, .ifCond .lt 29), (4, .iload_n 1), (5, .aload_n 0), (6, .getfield 51), (9, .if_icmp .ge 21), (12, .iload_n 1), (13, .aload_n 0), (14, .getfield 15), (17, .arraylength), (18, .if_icmp .ge 12), (21, .aload_n 0), (22, .getfield 15), (25, .iload_n 1), (26, .iaload), (27, .goto 4), (30, .iconst (-1)), (31, .ireturn)], ([], zp_5)))
def mc5_addId : zv_M := ((RX5, (⟨RX5, "addId", "(I)V"⟩, (prog_7_method_7_code, (2, none)))), ([(0, .aload_n 0), (1, .getfield 51), (4, .ifCond .lt 35), (7, .aload_n 0), (8, .getfield 51), (11, .aload_n 0), (12, .getfield 15), (15, .arraylength), (16, .if_icmp .ge 23), (19, .aload_n 0), (20, .getfield 15), (23, .aload_n 0), (24, .getfield 51), (27, .iload_n 1), (28, .iastore), (29, .aload_n 0), (30, .dup), (31, .getfield 51), (34, .iconst 1), (35, .iadd), (36, .putfield 51), (39, .return_)], ([], zp_5)))
def mc5_tookAt : zv_M := ((RX5, (⟨RX5, "tookAt", "(I)I"⟩, (prog_7_method_8_code, (2, (some .int))))), ([(0, .aload_n 0), (1, .getfield 33), (4, .iconst 1), (5, .if_icmp .ne 33), (8, .iload_n 1), (9, .ifCond .lt 29), (12, .iload_n 1), (13, .aload_n 0), (14, .getfield 42), (17, .if_icmp .ge 21), (20, .iload_n 1), (21, .aload_n 0), (22, .getfield 9), (25, .arraylength), (26, .if_icmp .ge 12), (29, .aload_n 0), (30, .getfield 9), (33, .iload_n 1), (34, .iaload), (35, .goto 4), (38, .iconst (-1)), (39, .ireturn)], ([], zp_5)))
def mc5_tookIt : zv_M := ((RX5, (⟨RX5, "tookIt", "(I)Z"⟩, (prog_7_method_9_code, (3, (some .boolean))))), ([(0, .iconst 0), (1, .istore_n 2), (2, .iload_n 2), (3, .aload_n 0), (4, .getfield 42), (7, .if_icmp .ge 25), (10, .iload_n 1), (11, .iconst (-1)), (12, .if_icmp .eq 14), (15, .aload_n 0), (16, .iload_n 2), (17, .invokevirtual 70), (20, .iload_n 1), (21, .if_icmp .ne 5), (24, .iconst 1), (25, .ireturn), (26, .iinc 2 1), (29, .goto (-27)), (32, .iconst 0), (33, .ireturn)], ([(2, [true, true, true])], zp_5)))
def mc6_init : zv_M := ((RX6, (⟨RX6, "<init>", "()V"⟩, (prog_8_method_1_code, (1, none)))), ([(0, .aload_n 0), (1, .invokespecial 3), (4, .aload_n 0), (5, .bipush 40), (7, .newarray .int), (9, .putfield 9), (12, .aload_n 0), (13, .bipush 40), (15, .newarray .int), (17, .putfield 15), (20, .aload_n 0), (21, .bipush 40), (23, .newarray .int), (25, .putfield 18), (28, .aload_n 0), (29, .bipush 40), (31, .newarray .int), (33, .putfield 21), (36, .return_)], ([], zp_6)))
def mc6_add : zv_M := ((RX6, (⟨RX6, "add", "(LBranchedText$State;I)V"⟩, (prog_8_method_2_code, (4, none)))), ([(0, .aload_n 0), (1, .getfield 24), (4, .bipush 40), (6, .irem), (7, .istore_n 3), (8, .iload_n 3), (9, .ifCond .lt 26), (12, .iload_n 3), (13, .bipush 40), (15, .if_icmp .ge 20), (18, .aload_n 0), (19, .getfield 9), (22, .iload_n 3), (23, .aload_n 1), (24, .getfield 28), (27, .iastore), (28, .aload_n 0), (29, .getfield 15), (32, .iload_n 3), (33, .iload_n 2), (34, .iastore), (35, .aload_n 0), (36, .dup), (37, .getfield 24), (40, .iconst 1), (41, .iadd), (42, .putfield 24), (45, .aload_n 1), (46, .aload_n 0), (47, .getfield 24), (50, .putfield 33), (53, .return_)], ([], zp_6)))
def mc6_slot : zv_M := ((RX6, (⟨RX6, "slot", "(I)I"⟩, (prog_8_method_3_code, (2, (some .int))))), ([(0, .aload_n 0), (1, .getfield 24), (4, .iconst 1), (5, .isub), (6, .iload_n 1), (7, .isub), (8, .bipush 40), (10, .irem), (11, .ireturn)], ([], zp_6)))
def mc6_stateAt : zv_M := ((RX6, (⟨RX6, "stateAt", "(I)I"⟩, (prog_8_method_4_code, (3, (some .int))))), ([(0, .aload_n 0), (1, .iload_n 1), (2, .invokevirtual 36), (5, .istore_n 2), (6, .iload_n 2), (7, .ifCond .lt 18), (10, .iload_n 2), (11, .bipush 40), (13, .if_icmp .ge 12), (16, .aload_n 0), (17, .getfield 9), (20, .iload_n 2), (21, .iaload), (22, .goto 4), (25, .iconst (-1)), (26, .ireturn)], ([], zp_6)))
def mc6_timeAt : zv_M := ((RX6, (⟨RX6, "timeAt", "(I)I"⟩, (prog_8_method_5_code, (3, (some .int))))), ([(0, .aload_n 0), (1, .iload_n 1), (2, .invokevirtual 36), (5, .istore_n 2), (6, .iload_n 2), (7, .ifCond .lt 18), (10, .iload_n 2), (11, .bipush 40), (13, .if_icmp .ge 12), (16, .aload_n 0), (17, .getfield 15), (20, .iload_n 2), (21, .iaload), (22, .goto 4), (25, .iconst (-1)), (26, .ireturn)], ([], zp_6)))
def mc6_forget : zv_M := ((RX6, (⟨RX6, "forget", "(I)V"⟩, (prog_8_method_6_code, (3, none)))), ([(0, .iconst 0), (1, .istore_n 2), (2, .iload_n 2), (3, .bipush 40), (5, .if_icmp .ge 26), (8, .aload_n 0), (9, .getfield 9), (12, .iload_n 2), (13, .iaload), (14, .iload_n 1), (15, .if_icmp .ne 10), (18, .aload_n 0), (19, .getfield 9), (22, .iload_n 2), (23, .iconst (-1)), (24, .iastore), (25, .iinc 2 1), (28, .goto (-26)), (31, .return_)], ([(2, [true, true, true])], zp_6)))
def mc6_keep : zv_M := ((RX6, (⟨RX6, "keep", "()V"⟩, (prog_8_method_7_code, (1, none)))), ([(0, .aload_n 0), (1, .getfield 9), (4, .iconst 0), (5, .aload_n 0), (6, .getfield 18), (9, .iconst 0), (10, .bipush 40), (12, .invokestatic 40), (15, .aload_n 0), (16, .getfield 15), (19, .iconst 0), (20, .aload_n 0), (21, .getfield 21), (24, .iconst 0), (25, .bipush 40), (27, .invokestatic 40), (30, .aload_n 0), (31, .aload_n 0), (32, .getfield 24), (35, .putfield 46), (38, .return_)], ([], zp_6)))
def mc6_giveBack : zv_M := ((RX6, (⟨RX6, "giveBack", "()V"⟩, (prog_8_method_8_code, (1, none)))), ([(0, .aload_n 0), (1, .getfield 18), (4, .iconst 0), (5, .aload_n 0), (6, .getfield 9), (9, .iconst 0), (10, .bipush 40), (12, .invokestatic 40), (15, .aload_n 0), (16, .getfield 21), (19, .iconst 0), (20, .aload_n 0), (21, .getfield 15), (24, .iconst 0), (25, .bipush 40), (27, .invokestatic 40), (30, .aload_n 0), (31, .aload_n 0), (32, .getfield 46), (35, .putfield 24), (38, .return_)], ([], zp_6)))
def mc7_init : zv_M := ((RX7, (⟨RX7, "<init>", "()V"⟩, (prog_9_method_1_code, (1, none)))), ([(0, .aload_n 0), (1, .invokespecial 3), (4, .aload_n 0), (5, .bipush 40), (7, .newarray .int), (9, .putfield 9), (12, .return_)], ([], zp_7)))
def mc7_clear : zv_M := ((RX7, (⟨RX7, "clear", "()V"⟩, (prog_9_method_2_code, (1, none)))), ([(0, .aload_n 0), (1, .iconst 0), (2, .putfield 15), (5, .return_)], ([], zp_7)))
def mc7_add : zv_M := ((RX7, (⟨RX7, "add", "(I)V"⟩, (prog_9_method_3_code, (2, none)))), ([(0, .aload_n 0), (1, .getfield 15), (4, .ifCond .lt 35), (7, .aload_n 0), (8, .getfield 15), (11, .aload_n 0), (12, .getfield 9), (15, .arraylength), (16, .if_icmp .ge 23), (19, .aload_n 0), (20, .getfield 9), (23, .aload_n 0), (24, .getfield 15), (27, .iload_n 1), (28, .iastore), (29, .aload_n 0), (30, .dup), (31, .getfield 15), (34, .iconst 1), (35, .iadd), (36, .putfield 15), (39, .return_)], ([], zp_7)))
def mc7_at : zv_M := ((RX7, (⟨RX7, "at", "(I)I"⟩, (prog_9_method_4_code, (2, (some .int))))), ([(0, .iload_n 1), (1, .ifCond .lt 29), (4, .iload_n 1), (5, .aload_n 0), (6, .getfield 15), (9, .if_icmp .ge 21), (12, .iload_n 1), (13, .aload_n 0), (14, .getfield 9), (17, .arraylength), (18, .if_icmp .ge 12), (21, .aload_n 0), (22, .getfield 9), (25, .iload_n 1), (26, .iaload), (27, .goto 4), (30, .iconst (-1)), (31, .ireturn)], ([], zp_7)))
def mc7_key : zv_M := ((RX7, (⟨RX7, "key", "()I"⟩, (prog_9_method_5_code, (3, (some .int))))), ([(0, .aload_n 0), (1, .getfield 15), (4, .iconst 1), (5, .bipush 6), (7, .invokestatic 19), (10, .ifCond .ne 5), (13, .iconst 0), (14, .ireturn), (15, .iconst 0), (16, .istore_n 1), (17, .aload_n 0), (18, .getfield 15), (21, .iconst 1), (22, .isub), (23, .istore_n 2), (24, .iload_n 2), (25, .ifCond .lt 21), (28, .iload_n 1), (29, .iconst 5), (30, .ishl), (31, .aload_n 0), (32, .iload_n 2), (33, .invokevirtual 23), (36, .iconst 1), (37, .iadd), (38, .ior), (39, .istore_n 1), (40, .iinc 2 (-1)), (43, .goto (-19)), (46, .iload_n 1), (47, .ireturn)], ([(24, [true, true, true])], zp_7)))
def mc8_init : zv_M := ((RX8, (⟨RX8, "<init>", "()V"⟩, (prog_1_method_1_code, (1, none)))), ([(0, .aload_n 0), (1, .invokespecial 3), (4, .aload_n 0), (5, .sipush 160), (8, .newarray .int), (10, .putfield 9), (13, .aload_n 0), (14, .new 13), (17, .dup), (18, .invokespecial 15), (21, .putfield 16), (24, .aload_n 0), (25, .new 20), (28, .dup), (29, .invokespecial 22), (32, .putfield 23), (35, .aload_n 0), (36, .new 27), (39, .dup), (40, .invokespecial 29), (43, .putfield 30), (46, .aload_n 0), (47, .new 27), (50, .dup), (51, .invokespecial 29), (54, .putfield 34), (57, .aload_n 0), (58, .iconst 0), (59, .putfield 37), (62, .aload_n 0), (63, .iconst 0), (64, .putfield 41), (67, .aload_n 0), (68, .iconst 0), (69, .putfield 44), (72, .return_)], ([], zp_8)))
def mc8_refused : zv_M := ((RX8, (⟨RX8, "refused", "(I)I"⟩, (prog_1_method_2_code, (2, (some .int))))), ([(0, .aload_n 0), (1, .iload_n 1), (2, .putfield 41), (5, .iconst (-1)), (6, .ireturn)], ([], zp_8)))
def mc8_given : zv_M := ((RX8, (⟨RX8, "given", "(I)I"⟩, (prog_1_method_3_code, (2, (some .int))))), ([(0, .aload_n 0), (1, .iconst 0), (2, .putfield 41), (5, .iload_n 1), (6, .ireturn)], ([], zp_8)))
def mc8_answered : zv_M := ((RX8, (⟨RX8, "answered", "(I)I"⟩, (prog_1_method_4_code, (2, (some .int))))), ([(0, .iload_n 1), (1, .ifCond .ge 12), (4, .aload_n 0), (5, .iload_n 1), (6, .ineg), (7, .invokevirtual 48), (10, .goto 8), (13, .aload_n 0), (14, .iload_n 1), (15, .invokevirtual 52), (18, .ireturn)], ([], zp_8)))
def mc8_within : zv_M := ((RX8, (⟨RX8, "within", "(III)Z"⟩, (prog_1_method_5_code, (3, (some .boolean))))), ([(0, .iload_n 0), (1, .iload_n 1), (2, .if_icmp .lt 12), (5, .iload_n 0), (6, .iload_n 2), (7, .if_icmp .gt 7), (10, .iconst 1), (11, .goto 4), (14, .iconst 0), (15, .ireturn)], ([], zp_8)))
def mc8_status : zv_M := ((RX8, (⟨RX8, "status", "()I"⟩, (prog_1_method_6_code, (1, (some .int))))), ([(0, .aload_n 0), (1, .getfield 41), (4, .ireturn)], ([], zp_8)))
def mc8_feed : zv_M := ((RX8, (⟨RX8, "feed", "(IIIII)I"⟩, (prog_1_method_7_code, (6, (some .int))))), ([(0, .aload_n 0), (1, .getfield 23), (4, .getfield 55), (7, .bipush 20), (9, .iadd), (10, .sipush 700), (13, .if_icmp .le 5), (16, .iconst (-1)), (17, .ireturn), (18, .aload_n 0), (19, .iload_n 1), (20, .invokevirtual 58), (23, .aload_n 0), (24, .iload_n 2), (25, .invokevirtual 58), (28, .aload_n 0), (29, .iload_n 3), (30, .invokevirtual 58), (33, .aload_n 0), (34, .iload 4), (36, .invokevirtual 58), (39, .aload_n 0), (40, .iload 5), (42, .invokevirtual 58), (45, .aload_n 0), (46, .getfield 23), (49, .getfield 55), (52, .ireturn)], ([], zp_8)))
def mc8_feedInt : zv_M := ((RX8, (⟨RX8, "feedInt", "(I)V"⟩, (prog_1_method_8_code, (3, none)))), ([(0, .bipush 24), (2, .istore_n 2), (3, .iload_n 2), (4, .ifCond .lt 23), (7, .aload_n 0), (8, .getfield 23), (11, .iload_n 1), (12, .iload_n 2), (13, .iushr), (14, .sipush 255), (17, .iand), (18, .invokevirtual 62), (21, .iinc 2 (-8)), (24, .goto (-21)), (27, .return_)], ([(3, [true, true, true])], zp_8)))
def mc8_fault : zv_M := ((RX8, (⟨RX8, "fault", "(I)I"⟩, (prog_1_method_9_code, (2, (some .int))))), ([(0, .aload_n 0), (1, .getfield 44), (4, .ifCond .eq 12), (7, .iload_n 1), (8, .iconst 0), (9, .iconst 1), (10, .invokestatic 65), (13, .ifCond .ne 5), (16, .iconst (-1)), (17, .ireturn), (18, .iload_n 1), (19, .ifCond .ne 13), (22, .aload_n 0), (23, .getfield 23), (26, .getfield 69), (29, .goto 10), (32, .aload_n 0), (33, .getfield 23), (36, .getfield 72), (39, .ireturn)], ([], zp_8)))
def mc8_type : zv_M := ((RX8, (⟨RX8, "type", "(II)I"⟩, (prog_1_method_10_code, (5, (some .int))))), ([(0, .iconst 0), (1, .istore_n 3), (2, .iload_n 3), (3, .bipush 12), (5, .if_icmp .ge 31), (8, .iload_n 1), (9, .iload_n 2), (10, .iload_n 3), (11, .invokestatic 75), (14, .ifCond .eq 22), (17, .iload_n 1), (18, .iload_n 2), (19, .iload_n 3), (20, .invokestatic 75), (23, .bipush 26), (25, .if_icmp .le 5), (28, .iconst (-1)), (29, .ireturn), (30, .iinc 3 1), (33, .goto (-31)), (36, .aload_n 0), (37, .getfield 16), (40, .invokevirtual 79), (43, .iconst 0), (44, .istore 4), (46, .iload 4), (48, .iload_n 3), (49, .if_icmp .ge 25), (52, .aload_n 0), (53, .getfield 16), (56, .iload_n 1), (57, .iload_n 2), (58, .iload 4), (60, .invokestatic 75), (63, .iconst 1), (64, .isub), (65, .invokevirtual 82), (68, .iinc 4 1), (71, .goto (-25)), (74, .iload_n 3), (75, .ireturn)], ([(2, [true, true, true, true, false]), (36, [true, true, true, true, false]), (46, [true, true, true, true, true])], zp_8)))
def mc8_typedLetter : zv_M := ((RX8, (⟨RX8, "typedLetter", "(III)I"⟩, (prog_1_method_11_code, (4, (some .int))))), ([(0, .bipush 6), (2, .istore_n 3), (3, .iload_n 2), (4, .iload_n 3), (5, .if_icmp .ge 11), (8, .iload_n 0), (9, .iconst 5), (10, .iload_n 2), (11, .imul), (12, .iushr), (13, .goto 10), (16, .iload_n 1), (17, .iconst 5), (18, .iload_n 2), (19, .iload_n 3), (20, .isub), (21, .imul), (22, .iushr), (23, .bipush 31), (25, .iand), (26, .ireturn)], ([], zp_8)))
def mc8_load : zv_M := ((RX8, (⟨RX8, "load", "(I)I"⟩, (prog_1_method_12_code, (3, (some .int))))), ([(0, .iload_n 1), (1, .iconst 0), (2, .aload_n 0), (3, .getfield 23), (6, .getfield 55), (9, .invokestatic 65), (12, .ifCond .ne 9), (15, .aload_n 0), (16, .iconst 1), (17, .invokevirtual 48), (20, .ireturn), (21, .aload_n 0), (22, .iconst 1), (23, .putfield 44), (26, .aload_n 0), (27, .getfield 34), (30, .invokevirtual 85), (33, .aload_n 0), (34, .getfield 23), (37, .iload_n 1), (38, .invokevirtual 88), (41, .aload_n 0), (42, .getfield 23), (45, .aload_n 0), (46, .getfield 34), (49, .invokevirtual 90), (52, .iconst 0), (53, .istore_n 2), (54, .iload_n 2), (55, .iload_n 1), (56, .if_icmp .gt 61), (59, .aload_n 0), (60, .getfield 23), (63, .invokevirtual 94), (66, .ifCond .eq 51), (69, .aload_n 0), (70, .getfield 23), (73, .invokevirtual 98), (76, .ifCond .eq 35), (79, .aload_n 0), (80, .aload_n 0), (81, .getfield 34), (84, .invokevirtual 101), (87, .ifCond .ge 16), (90, .aload_n 0), (91, .getfield 23), (94, .bipush 7), (96, .invokevirtual 105), (99, .pop), (100, .goto 11), (103, .aload_n 0), (104, .getfield 23), (107, .invokevirtual 109), (110, .pop), (111, .iinc 2 1), (114, .goto (-60)), (117, .aload_n 0), (118, .getfield 23), (121, .getfield 69), (124, .ifCond .eq 10), (127, .aload_n 0), (128, .bipush 9), (130, .invokevirtual 48), (133, .ireturn), (134, .aload_n 0), (135, .getfield 30), (138, .astore_n 2), (139, .aload_n 0), (140, .aload_n 0), (141, .getfield 34), (144, .putfield 30), (147, .aload_n 0), (148, .aload_n 2), (149, .putfield 34), (152, .aload_n 0), (153, .aload_n 0), (154, .getfield 30), (157, .getfield 112), (160, .invokevirtual 52), (163, .ireturn)], ([(54, [true, true, true]), (117, [true, false, false])], zp_8)))
def mc8_done : zv_M := ((RX8, (⟨RX8, "done", "(LBranchedText$History;)I"⟩, (prog_1_method_13_code, (2, (some .int))))), ([(0, .aload_n 0), (1, .getfield 23), (4, .getfield 115), (7, .tableswitch 208 0 11 #[61, 80, 99, 111, 116, 121, 133, 148, 160, 172, 184, 196]), (68, .aload_n 1), (69, .aload_n 0), (70, .getfield 23), (73, .getfield 118), (76, .aload_n 0), (77, .getfield 23), (80, .getfield 121), (83, .invokevirtual 124), (86, .ireturn), (87, .aload_n 1), (88, .aload_n 0), (89, .getfield 23), (92, .getfield 118), (95, .aload_n 0), (96, .getfield 23), (99, .getfield 128), (102, .invokevirtual 131), (105, .ireturn), (106, .aload_n 1), (107, .aload_n 0), (108, .getfield 23), (111, .getfield 118), (114, .invokevirtual 135), (117, .ireturn), (118, .aload_n 1), (119, .invokevirtual 138), (122, .ireturn), (123, .aload_n 1), (124, .invokevirtual 142), (127, .ireturn), (128, .aload_n 1), (129, .aload_n 0), (130, .getfield 23), (133, .getfield 118), (136, .invokevirtual 145), (139, .ireturn), (140, .aload_n 1), (141, .aload_n 0), (142, .getfield 23), (145, .getfield 121), (148, .invokevirtual 148), (151, .invokevirtual 151), (154, .ireturn), (155, .aload_n 1), (156, .aload_n 0), (157, .getfield 23), (160, .getfield 118), (163, .invokevirtual 154), (166, .ireturn), (167, .aload_n 1), (168, .aload_n 0), (169, .getfield 23), (172, .getfield 118), (175, .invokevirtual 157), (178, .ireturn), (179, .aload_n 1), (180, .aload_n 0), (181, .getfield 23), (184, .getfield 118), (187, .invokevirtual 160), (190, .ireturn), (191, .aload_n 1), (192, .aload_n 0), (193, .getfield 23), (196, .getfield 118), (199, .invokevirtual 163), (202, .ireturn), (203, .aload_n 1), (204, .aload_n 0), (205, .getfield 23), (208, .getfield 118), (211, .invokevirtual 166), (214, .ireturn), (215, .iconst (-1)), (216, .ireturn)], ([], zp_8)))
def mc8_many : zv_M := ((RX8, (⟨RX8, "many", "(I)I"⟩, (prog_1_method_14_code, (2, (some .int))))), ([(0, .iload_n 1), (1, .tableswitch 196 0 9 #[55, 67, 82, 94, 109, 124, 139, 151, 163, 181]), (56, .aload_n 0), (57, .aload_n 0), (58, .getfield 30), (61, .getfield 112), (64, .invokevirtual 52), (67, .ireturn), (68, .aload_n 0), (69, .aload_n 0), (70, .getfield 30), (73, .getfield 169), (76, .getfield 173), (79, .invokevirtual 52), (82, .ireturn), (83, .aload_n 0), (84, .aload_n 0), (85, .getfield 30), (88, .getfield 178), (91, .invokevirtual 52), (94, .ireturn), (95, .aload_n 0), (96, .aload_n 0), (97, .getfield 30), (100, .getfield 169), (103, .getfield 181), (106, .invokevirtual 52), (109, .ireturn), (110, .aload_n 0), (111, .aload_n 0), (112, .getfield 30), (115, .invokevirtual 184), (118, .getfield 188), (121, .invokevirtual 52), (124, .ireturn), (125, .aload_n 0), (126, .aload_n 0), (127, .getfield 30), (130, .getfield 193), (133, .getfield 197), (136, .invokevirtual 52), (139, .ireturn), (140, .aload_n 0), (141, .aload_n 0), (142, .getfield 30), (145, .invokevirtual 200), (148, .invokevirtual 52), (151, .ireturn), (152, .aload_n 0), (153, .aload_n 0), (154, .getfield 30), (157, .invokevirtual 203), (160, .invokevirtual 52), (163, .ireturn), (164, .aload_n 0), (165, .aload_n 0), (166, .getfield 30), (169, .invokevirtual 184), (172, .invokevirtual 206), (175, .invokestatic 210), (178, .invokevirtual 52), (181, .ireturn), (182, .aload_n 0), (183, .aload_n 0), (184, .getfield 30), (187, .getfield 216), (190, .getfield 220), (193, .invokevirtual 52), (196, .ireturn), (197, .aload_n 0), (198, .iconst 1), (199, .invokevirtual 48), (202, .ireturn)], ([], zp_8)))
def mc8_letter : zv_M := ((RX8, (⟨RX8, "letter", "(II)I"⟩, (prog_1_method_15_code, (4, (some .int))))), ([(0, .iload_n 2), (1, .ifCond .ge 9), (4, .aload_n 0), (5, .iconst 1), (6, .invokevirtual 48), (9, .ireturn), (10, .aload_n 0), (11, .getfield 30), (14, .iload_n 1), (15, .invokevirtual 223), (18, .astore_n 3), (19, .aload_n 3), (20, .ifnonnull 9), (23, .aload_n 0), (24, .iconst 2), (25, .invokevirtual 48), (28, .ireturn), (29, .iload_n 2), (30, .aload_n 3), (31, .getfield 181), (34, .if_icmp .lt 9), (37, .aload_n 0), (38, .iconst 5), (39, .invokevirtual 48), (42, .ireturn), (43, .aload_n 0), (44, .aload_n 0), (45, .getfield 30), (48, .aload_n 3), (49, .iload_n 2), (50, .invokevirtual 227), (53, .invokevirtual 52), (56, .ireturn)], ([], zp_8)))
def mc8_state : zv_M := ((RX8, (⟨RX8, "state", "(II)I"⟩, (prog_1_method_16_code, (4, (some .int))))), ([(0, .iload_n 2), (1, .iconst 0), (2, .bipush 9), (4, .invokestatic 65), (7, .ifCond .ne 9), (10, .aload_n 0), (11, .iconst 1), (12, .invokevirtual 48), (15, .ireturn), (16, .aload_n 0), (17, .getfield 30), (20, .iload_n 1), (21, .invokevirtual 223), (24, .astore_n 3), (25, .aload_n 3), (26, .ifnonnull 9), (29, .aload_n 0), (30, .iconst 2), (31, .invokevirtual 48), (34, .ireturn), (35, .iload_n 2), (36, .tableswitch 161 0 8 #[52, 75, 84, 93, 102, 111, 134, 143, 152]), (88, .aload_n 0), (89, .aload_n 3), (90, .getfield 231), (93, .ifnonnull 7), (96, .iconst (-1)), (97, .goto 10), (100, .aload_n 3), (101, .getfield 231), (104, .getfield 173), (107, .invokevirtual 52), (110, .ireturn), (111, .aload_n 0), (112, .aload_n 3), (113, .getfield 234), (116, .invokevirtual 52), (119, .ireturn), (120, .aload_n 0), (121, .aload_n 3), (122, .getfield 237), (125, .invokevirtual 52), (128, .ireturn), (129, .aload_n 0), (130, .aload_n 3), (131, .getfield 240), (134, .invokevirtual 52), (137, .ireturn), (138, .aload_n 0), (139, .aload_n 3), (140, .getfield 243), (143, .invokevirtual 52), (146, .ireturn), (147, .aload_n 0), (148, .aload_n 3), (149, .getfield 244), (152, .ifnonnull 7), (155, .iconst (-1)), (156, .goto 10), (159, .aload_n 3), (160, .getfield 244), (163, .getfield 173), (166, .invokevirtual 52), (169, .ireturn), (170, .aload_n 0), (171, .aload_n 3), (172, .getfield 247), (175, .invokevirtual 52), (178, .ireturn), (179, .aload_n 0), (180, .aload_n 3), (181, .getfield 250), (184, .invokevirtual 52), (187, .ireturn), (188, .aload_n 0), (189, .aload_n 3), (190, .getfield 181), (193, .invokevirtual 52), (196, .ireturn), (197, .aload_n 0), (198, .aload_n 0), (199, .getfield 30), (202, .getfield 193), (205, .aload_n 3), (206, .getfield 173), (209, .invokevirtual 253), (212, .invokevirtual 52), (215, .ireturn)], ([(107, [false, false, false, false]), (166, [false, false, false, false])], zp_8)))
def mc8_child : zv_M := ((RX8, (⟨RX8, "child", "(II)I"⟩, (prog_1_method_17_code, (5, (some .int))))), ([(0, .iload_n 2), (1, .ifCond .ge 9), (4, .aload_n 0), (5, .iconst 1), (6, .invokevirtual 48), (9, .ireturn), (10, .aload_n 0), (11, .getfield 30), (14, .iload_n 1), (15, .invokevirtual 223), (18, .astore_n 3), (19, .aload_n 3), (20, .ifnonnull 9), (23, .aload_n 0), (24, .iconst 2), (25, .invokevirtual 48), (28, .ireturn), (29, .aload_n 0), (30, .getfield 30), (33, .aload_n 3), (34, .iload_n 2), (35, .invokevirtual 256), (38, .astore 4), (40, .aload 4), (42, .ifnonnull 11), (45, .aload_n 0), (46, .iconst 5), (47, .invokevirtual 48), (50, .goto 12), (53, .aload_n 0), (54, .aload 4), (56, .getfield 173), (59, .invokevirtual 52), (62, .ireturn)], ([], zp_8)))
def mc8_force : zv_M := ((RX8, (⟨RX8, "force", "(II)I"⟩, (prog_1_method_18_code, (6, (some .int))))), ([(0, .aload_n 0), (1, .getfield 30), (4, .iload_n 1), (5, .invokevirtual 223), (8, .astore_n 3), (9, .aload_n 0), (10, .getfield 30), (13, .iload_n 2), (14, .invokevirtual 223), (17, .astore 4), (19, .aload_n 3), (20, .ifnull 8), (23, .aload 4), (25, .ifnonnull 9), (28, .aload_n 0), (29, .iconst 2), (30, .invokevirtual 48), (33, .ireturn), (34, .aload_n 0), (35, .getfield 30), (38, .getfield 260), (41, .astore 5), (43, .aload 5), (45, .aload 4), (47, .invokevirtual 264), (50, .aload 5), (52, .getfield 268), (55, .aload_n 3), (56, .invokevirtual 272), (59, .land), (60, .lconst 0), (61, .lcmp), (62, .ifCond .ne 9), (65, .aload_n 0), (66, .iconst 5), (67, .invokevirtual 48), (70, .ireturn), (71, .aload_n 0), (72, .aload 5), (74, .getfield 275), (77, .aload_n 3), (78, .invokevirtual 272), (81, .land), (82, .lconst 0), (83, .lcmp), (84, .ifCond .eq 7), (87, .iconst 1), (88, .goto 4), (91, .iconst 0), (92, .invokevirtual 52), (95, .ireturn)], ([(28, [true, false, false, false, false, false]), (92, [false, false, false, false, false, false])], zp_8)))
def mc8_blame : zv_M := ((RX8, (⟨RX8, "blame", "(II)I"⟩, (prog_1_method_19_code, (4, (some .int))))), ([(0, .iload_n 1), (1, .ifCond .lt 12), (4, .iload_n 2), (5, .iconst 0), (6, .iconst 2), (7, .invokestatic 65), (10, .ifCond .ne 9), (13, .aload_n 0), (14, .iconst 1), (15, .invokevirtual 48), (18, .ireturn), (19, .aload_n 0), (20, .getfield 30), (23, .getfield 169), (26, .iload_n 1), (27, .invokevirtual 278), (30, .istore_n 3), (31, .iload_n 3), (32, .iconst (-1)), (33, .if_icmp .ne 9), (36, .aload_n 0), (37, .iconst 5), (38, .invokevirtual 48), (41, .ireturn), (42, .iload_n 2), (43, .lookupswitch 43 #[(0, 25), (1, 34)]), (68, .aload_n 0), (69, .iload_n 3), (70, .invokestatic 281), (73, .invokevirtual 52), (76, .ireturn), (77, .aload_n 0), (78, .iload_n 3), (79, .invokestatic 284), (82, .invokevirtual 52), (85, .ireturn), (86, .aload_n 0), (87, .aload_n 0), (88, .getfield 30), (91, .invokevirtual 184), (94, .iload_n 3), (95, .invokevirtual 287), (98, .invokevirtual 52), (101, .ireturn)], ([(13, [true, false, false, false])], zp_8)))
def mc8_row : zv_M := ((RX8, (⟨RX8, "row", "(II)I"⟩, (prog_1_method_20_code, (5, (some .int))))), ([(0, .iload_n 1), (1, .ifCond .lt 12), (4, .iload_n 2), (5, .iconst 0), (6, .iconst 4), (7, .invokestatic 65), (10, .ifCond .ne 9), (13, .aload_n 0), (14, .iconst 1), (15, .invokevirtual 48), (18, .ireturn), (19, .aload_n 0), (20, .getfield 30), (23, .invokevirtual 184), (26, .astore_n 3), (27, .aload_n 3), (28, .iload_n 1), (29, .invokevirtual 290), (32, .istore 4), (34, .iload 4), (36, .iconst (-1)), (37, .if_icmp .ne 9), (40, .aload_n 0), (41, .iconst 5), (42, .invokevirtual 48), (45, .ireturn), (46, .iload_n 2), (47, .tableswitch 82 0 3 #[29, 43, 53, 71]), (76, .aload_n 0), (77, .aload_n 0), (78, .getfield 30), (81, .iload 4), (83, .invokevirtual 291), (86, .invokevirtual 52), (89, .ireturn), (90, .aload_n 0), (91, .iload 4), (93, .invokestatic 281), (96, .invokevirtual 52), (99, .ireturn), (100, .aload_n 0), (101, .aload_n 3), (102, .iload_n 1), (103, .invokevirtual 294), (106, .ifCond .eq 7), (109, .iconst 1), (110, .goto 4), (113, .iconst 0), (114, .invokevirtual 52), (117, .ireturn), (118, .aload_n 0), (119, .aload_n 3), (120, .iload 4), (122, .invokevirtual 297), (125, .invokevirtual 52), (128, .ireturn), (129, .aload_n 0), (130, .aload_n 3), (131, .iload 4), (133, .invokevirtual 300), (136, .invokevirtual 52), (139, .ireturn)], ([(13, [true, false, false, false, false]), (114, [false, false, false, false, false])], zp_8)))
def mc8_visit : zv_M := ((RX8, (⟨RX8, "visit", "(II)I"⟩, (prog_1_method_21_code, (3, (some .int))))), ([(0, .iload_n 1), (1, .iconst 0), (2, .bipush 39), (4, .invokestatic 65), (7, .ifCond .eq 12), (10, .iload_n 2), (11, .iconst 0), (12, .iconst 1), (13, .invokestatic 65), (16, .ifCond .ne 9), (19, .aload_n 0), (20, .iconst 1), (21, .invokevirtual 48), (24, .ireturn), (25, .iload_n 1), (26, .aload_n 0), (27, .getfield 30), (30, .getfield 216), (33, .getfield 220), (36, .if_icmp .lt 9), (39, .aload_n 0), (40, .iconst 5), (41, .invokevirtual 48), (44, .ireturn), (45, .aload_n 0), (46, .iload_n 2), (47, .ifCond .ne 17), (50, .aload_n 0), (51, .getfield 30), (54, .getfield 216), (57, .iload_n 1), (58, .invokevirtual 303), (61, .goto 14), (64, .aload_n 0), (65, .getfield 30), (68, .getfield 216), (71, .iload_n 1), (72, .invokevirtual 306), (75, .invokevirtual 52), (78, .ireturn)], ([(19, [true, false, false]), (75, [false, false, false])], zp_8)))
def mc8_named : zv_M := ((RX8, (⟨RX8, "named", "()I"⟩, (prog_1_method_22_code, (3, (some .int))))), ([(0, .aload_n 0), (1, .getfield 16), (4, .invokevirtual 148), (7, .istore_n 1), (8, .iload_n 1), (9, .ifCond .ne 9), (12, .aload_n 0), (13, .iconst 1), (14, .invokevirtual 48), (17, .ireturn), (18, .aload_n 0), (19, .getfield 30), (22, .getfield 193), (25, .iload_n 1), (26, .invokevirtual 309), (29, .istore_n 2), (30, .iload_n 2), (31, .ifCond .ge 11), (34, .aload_n 0), (35, .iconst 5), (36, .invokevirtual 48), (39, .goto 18), (42, .aload_n 0), (43, .aload_n 0), (44, .getfield 30), (47, .getfield 193), (50, .iload_n 2), (51, .invokevirtual 312), (54, .invokevirtual 52), (57, .ireturn)], ([], zp_8)))
def mc8_leans : zv_M := ((RX8, (⟨RX8, "leans", "(II)I"⟩, (prog_1_method_23_code, (7, (some .int))))), ([(0, .aload_n 0), (1, .getfield 30), (4, .iload_n 1), (5, .invokevirtual 223), (8, .astore_n 3), (9, .aload_n 0), (10, .getfield 30), (13, .iload_n 2), (14, .invokevirtual 223), (17, .astore 4), (19, .aload_n 3), (20, .ifnull 8), (23, .aload 4), (25, .ifnonnull 9), (28, .aload_n 0), (29, .iconst 2), (30, .invokevirtual 48), (33, .ireturn), (34, .aload_n 3), (35, .getfield 250), (38, .aload 4), (40, .getfield 250), (43, .if_icmp .lt 7), (46, .aload_n 3), (47, .goto 5), (50, .aload 4), (52, .astore 5), (54, .aload 5), (56, .aload_n 3), (57, .if_acmp .ne 8), (60, .aload 4), (62, .goto 4), (65, .aload_n 3), (66, .astore 6), (68, .aload 5), (70, .invokevirtual 315), (73, .ifCond .eq 21), (76, .aload 6), (78, .invokevirtual 315), (81, .ifCond .eq 13), (84, .aload 6), (86, .aload 5), (88, .invokestatic 318), (91, .ifCond .ne 9), (94, .aload_n 0), (95, .iconst 5), (96, .invokevirtual 48), (99, .ireturn), (100, .aload_n 0), (101, .aload 5), (103, .getfield 322), (106, .aload 6), (108, .invokevirtual 272), (111, .land), (112, .lconst 0), (113, .lcmp), (114, .ifCond .eq 7), (117, .iconst 1), (118, .goto 4), (121, .iconst 0), (122, .invokevirtual 52), (125, .ireturn)], ([(28, [true, false, false, false, false, false, false]), (52, [true, false, false, true, true, false, false]), (66, [true, false, false, false, false, true, false]), (94, [true, false, false, false, false, false, false]), (122, [false, false, false, false, false, false, false])], zp_8)))
def mc8_put : zv_M := ((RX8, (⟨RX8, "put", "(I)I"⟩, (prog_1_method_24_code, (2, (some .int))))), ([(0, .aload_n 0), (1, .aload_n 0), (2, .getfield 30), (5, .iload_n 1), (6, .aload_n 0), (7, .getfield 16), (10, .invokevirtual 124), (13, .invokevirtual 325), (16, .ireturn)], ([], zp_8)))
def mc8_cut : zv_M := ((RX8, (⟨RX8, "cut", "(II)I"⟩, (prog_1_method_25_code, (3, (some .int))))), ([(0, .aload_n 0), (1, .aload_n 0), (2, .getfield 30), (5, .iload_n 1), (6, .iload_n 2), (7, .invokevirtual 131), (10, .invokevirtual 325), (13, .ireturn)], ([], zp_8)))
def mc8_wait : zv_M := ((RX8, (⟨RX8, "wait", "(I)I"⟩, (prog_1_method_26_code, (2, (some .int))))), ([(0, .aload_n 0), (1, .aload_n 0), (2, .getfield 30), (5, .iload_n 1), (6, .invokevirtual 135), (9, .invokevirtual 325), (12, .ireturn)], ([], zp_8)))
def mc8_undo : zv_M := ((RX8, (⟨RX8, "undo", "()I"⟩, (prog_1_method_27_code, (1, (some .int))))), ([(0, .aload_n 0), (1, .aload_n 0), (2, .getfield 30), (5, .invokevirtual 138), (8, .invokevirtual 325), (11, .ireturn)], ([], zp_8)))
def mc8_redo : zv_M := ((RX8, (⟨RX8, "redo", "()I"⟩, (prog_1_method_28_code, (1, (some .int))))), ([(0, .aload_n 0), (1, .aload_n 0), (2, .getfield 30), (5, .invokevirtual 142), (8, .invokevirtual 325), (11, .ireturn)], ([], zp_8)))
def mc8_go : zv_M := ((RX8, (⟨RX8, "go", "(I)I"⟩, (prog_1_method_29_code, (2, (some .int))))), ([(0, .aload_n 0), (1, .aload_n 0), (2, .getfield 30), (5, .iload_n 1), (6, .invokevirtual 145), (9, .invokevirtual 325), (12, .ireturn)], ([], zp_8)))
def mc8_name : zv_M := ((RX8, (⟨RX8, "name", "()I"⟩, (prog_1_method_30_code, (1, (some .int))))), ([(0, .aload_n 0), (1, .aload_n 0), (2, .getfield 30), (5, .aload_n 0), (6, .getfield 16), (9, .invokevirtual 148), (12, .invokevirtual 151), (15, .invokevirtual 325), (18, .ireturn)], ([], zp_8)))
def mc8_unname : zv_M := ((RX8, (⟨RX8, "unname", "()I"⟩, (prog_1_method_31_code, (1, (some .int))))), ([(0, .aload_n 0), (1, .aload_n 0), (2, .getfield 30), (5, .aload_n 0), (6, .getfield 16), (9, .invokevirtual 148), (12, .invokevirtual 328), (15, .invokevirtual 325), (18, .ireturn)], ([], zp_8)))
def mc8_withdraw : zv_M := ((RX8, (⟨RX8, "withdraw", "(I)I"⟩, (prog_1_method_32_code, (2, (some .int))))), ([(0, .aload_n 0), (1, .aload_n 0), (2, .getfield 30), (5, .iload_n 1), (6, .invokevirtual 154), (9, .invokevirtual 325), (12, .ireturn)], ([], zp_8)))
def mc8_restore : zv_M := ((RX8, (⟨RX8, "restore", "(I)I"⟩, (prog_1_method_33_code, (2, (some .int))))), ([(0, .aload_n 0), (1, .aload_n 0), (2, .getfield 30), (5, .iload_n 1), (6, .invokevirtual 157), (9, .invokevirtual 325), (12, .ireturn)], ([], zp_8)))
def mc8_carry : zv_M := ((RX8, (⟨RX8, "carry", "(I)I"⟩, (prog_1_method_34_code, (2, (some .int))))), ([(0, .aload_n 0), (1, .aload_n 0), (2, .getfield 30), (5, .iload_n 1), (6, .invokevirtual 160), (9, .invokevirtual 325), (12, .ireturn)], ([], zp_8)))
def mc8_merge : zv_M := ((RX8, (⟨RX8, "merge", "(I)I"⟩, (prog_1_method_35_code, (2, (some .int))))), ([(0, .aload_n 0), (1, .aload_n 0), (2, .getfield 30), (5, .iload_n 1), (6, .invokevirtual 163), (9, .invokevirtual 325), (12, .ireturn)], ([], zp_8)))
def mc8_prune : zv_M := ((RX8, (⟨RX8, "prune", "(I)I"⟩, (prog_1_method_36_code, (2, (some .int))))), ([(0, .aload_n 0), (1, .aload_n 0), (2, .getfield 30), (5, .iload_n 1), (6, .invokevirtual 166), (9, .invokevirtual 325), (12, .ireturn)], ([], zp_8)))
def mc8_common : zv_M := ((RX8, (⟨RX8, "common", "(II)I"⟩, (prog_1_method_37_code, (5, (some .int))))), ([(0, .aload_n 0), (1, .getfield 30), (4, .iload_n 1), (5, .invokevirtual 223), (8, .astore_n 3), (9, .aload_n 0), (10, .getfield 30), (13, .iload_n 2), (14, .invokevirtual 223), (17, .astore 4), (19, .aload_n 3), (20, .ifnull 8), (23, .aload 4), (25, .ifnonnull 9), (28, .aload_n 0), (29, .iconst 2), (30, .invokevirtual 48), (33, .ireturn), (34, .aload_n 0), (35, .aload_n 3), (36, .aload 4), (38, .invokestatic 331), (41, .getfield 173), (44, .invokevirtual 52), (47, .ireturn)], ([(28, [true, false, false, false, false])], zp_8)))
def mc8_way : zv_M := ((RX8, (⟨RX8, "way", "(III)I"⟩, (prog_1_method_38_code, (7, (some .int))))), ([(0, .iload_n 3), (1, .ifCond .ge 9), (4, .aload_n 0), (5, .iconst 1), (6, .invokevirtual 48), (9, .ireturn), (10, .aload_n 0), (11, .getfield 30), (14, .iload_n 1), (15, .invokevirtual 223), (18, .astore 4), (20, .aload_n 0), (21, .getfield 30), (24, .iload_n 2), (25, .invokevirtual 223), (28, .astore 5), (30, .aload 4), (32, .ifnull 8), (35, .aload 5), (37, .ifnonnull 9), (40, .aload_n 0), (41, .iconst 2), (42, .invokevirtual 48), (45, .ireturn), (46, .aload 4), (48, .aload 5), (50, .iload_n 3), (51, .invokestatic 335), (54, .astore 6), (56, .aload 6), (58, .ifnonnull 11), (61, .aload_n 0), (62, .iconst 5), (63, .invokevirtual 48), (66, .goto 12), (69, .aload_n 0), (70, .aload 6), (72, .getfield 173), (75, .invokevirtual 52), (78, .ireturn)], ([(40, [true, false, false, false, false, false, false])], zp_8)))
def mc8_between : zv_M := ((RX8, (⟨RX8, "between", "(III)I"⟩, (prog_1_method_39_code, (6, (some .int))))), ([(0, .iload_n 3), (1, .iconst 0), (2, .iconst 3), (3, .invokestatic 65), (6, .ifCond .ne 9), (9, .aload_n 0), (10, .iconst 1), (11, .invokevirtual 48), (14, .ireturn), (15, .aload_n 0), (16, .getfield 30), (19, .iload_n 1), (20, .invokevirtual 223), (23, .astore 4), (25, .aload_n 0), (26, .getfield 30), (29, .iload_n 2), (30, .invokevirtual 223), (33, .astore 5), (35, .aload 4), (37, .ifnull 8), (40, .aload 5), (42, .ifnonnull 9), (45, .aload_n 0), (46, .iconst 2), (47, .invokevirtual 48), (50, .ireturn), (51, .iload_n 3), (52, .tableswitch 88 0 2 #[28, 44, 66]), (80, .aload_n 0), (81, .aload_n 0), (82, .getfield 30), (85, .aload 4), (87, .aload 5), (89, .invokevirtual 339), (92, .invokevirtual 52), (95, .ireturn), (96, .aload_n 0), (97, .aload 4), (99, .getfield 181), (102, .aload_n 0), (103, .getfield 30), (106, .aload 4), (108, .aload 5), (110, .invokevirtual 339), (113, .isub), (114, .invokevirtual 52), (117, .ireturn), (118, .aload_n 0), (119, .aload 5), (121, .getfield 181), (124, .aload_n 0), (125, .getfield 30), (128, .aload 4), (130, .aload 5), (132, .invokevirtual 339), (135, .isub), (136, .invokevirtual 52), (139, .ireturn), (140, .aload_n 0), (141, .aload_n 0), (142, .getfield 30), (145, .aload 4), (147, .aload 5), (149, .invokevirtual 343), (152, .invokevirtual 52), (155, .ireturn)], ([(45, [true, false, false, false, false, false])], zp_8)))
def mc8_least : zv_M := ((RX8, (⟨RX8, "least", "(II)I"⟩, (prog_1_method_40_code, (5, (some .int))))), ([(0, .aload_n 0), (1, .getfield 30), (4, .iload_n 1), (5, .invokevirtual 223), (8, .astore_n 3), (9, .aload_n 0), (10, .getfield 30), (13, .iload_n 2), (14, .invokevirtual 223), (17, .astore 4), (19, .aload_n 3), (20, .ifnull 8), (23, .aload 4), (25, .ifnonnull 9), (28, .aload_n 0), (29, .iconst 2), (30, .invokevirtual 48), (33, .ireturn), (34, .aload_n 0), (35, .aload_n 3), (36, .getfield 181), (39, .aload 4), (41, .getfield 181), (44, .iadd), (45, .iconst 2), (46, .aload_n 0), (47, .getfield 30), (50, .aload_n 3), (51, .aload 4), (53, .invokevirtual 346), (56, .imul), (57, .isub), (58, .invokevirtual 52), (61, .ireturn)], ([(28, [true, false, false, false, false])], zp_8)))
def mc8_merges : zv_M := ((RX8, (⟨RX8, "merges", "(II)I"⟩, (prog_1_method_41_code, (3, (some .int))))), ([(0, .iload_n 2), (1, .iconst 0), (2, .iconst 2), (3, .invokestatic 65), (6, .ifCond .ne 9), (9, .aload_n 0), (10, .iconst 1), (11, .invokevirtual 48), (14, .ireturn), (15, .aload_n 0), (16, .aload_n 0), (17, .getfield 30), (20, .iload_n 1), (21, .iload_n 2), (22, .invokevirtual 349), (25, .invokevirtual 325), (28, .ireturn)], ([], zp_8)))
def mc8_tell : zv_M := ((RX8, (⟨RX8, "tell", "(I)I"⟩, (prog_1_method_42_code, (2, (some .int))))), ([(0, .iload_n 1), (1, .iconst 0), (2, .iconst 2), (3, .invokestatic 65), (6, .ifCond .ne 9), (9, .aload_n 0), (10, .iconst 1), (11, .invokevirtual 48), (14, .ireturn), (15, .aload_n 0), (16, .iconst 0), (17, .putfield 37), (20, .iload_n 1), (21, .ifCond .ne 10), (24, .aload_n 0), (25, .invokevirtual 352), (28, .goto 19), (31, .iload_n 1), (32, .iconst 1), (33, .if_icmp .ne 10), (36, .aload_n 0), (37, .invokevirtual 355), (40, .goto 7), (43, .aload_n 0), (44, .invokevirtual 358), (47, .aload_n 0), (48, .aload_n 0), (49, .getfield 37), (52, .invokevirtual 52), (55, .ireturn)], ([(47, [true, false])], zp_8)))
def mc8_tellDocument : zv_M := ((RX8, (⟨RX8, "tellDocument", "()V"⟩, (prog_1_method_43_code, (3, none)))), ([(0, .aload_n 0), (1, .getfield 30), (4, .getfield 169), (7, .astore_n 1), (8, .iconst 0), (9, .istore_n 2), (10, .iload_n 2), (11, .aload_n 1), (12, .getfield 181), (15, .if_icmp .ge 25), (18, .aload_n 0), (19, .bipush 97), (21, .aload_n 0), (22, .getfield 30), (25, .aload_n 1), (26, .iload_n 2), (27, .invokevirtual 227), (30, .iadd), (31, .invokevirtual 361), (34, .iinc 2 1), (37, .goto (-27)), (40, .return_)], ([(10, [true, true, true])], zp_8)))
def mc8_tellLine : zv_M := ((RX8, (⟨RX8, "tellLine", "()V"⟩, (prog_1_method_44_code, (3, none)))), ([(0, .aload_n 0), (1, .getfield 30), (4, .invokevirtual 184), (7, .astore_n 1), (8, .iconst 0), (9, .istore_n 2), (10, .iload_n 2), (11, .aload_n 1), (12, .getfield 364), (15, .if_icmp .ge 28), (18, .iload_n 2), (19, .ifCond .le 9), (22, .aload_n 0), (23, .bipush 60), (25, .invokevirtual 361), (28, .aload_n 0), (29, .aload_n 1), (30, .iload_n 2), (31, .invokevirtual 367), (34, .invokevirtual 370), (37, .iinc 2 1), (40, .goto (-30)), (43, .return_)], ([(10, [true, true, true]), (28, [true, true, true])], zp_8)))
def mc8_tellNames : zv_M := ((RX8, (⟨RX8, "tellNames", "()V"⟩, (prog_1_method_45_code, (4, none)))), ([(0, .aload_n 0), (1, .getfield 30), (4, .getfield 193), (7, .astore_n 1), (8, .iconst 0), (9, .istore_n 2), (10, .iload_n 2), (11, .aload_n 1), (12, .getfield 197), (15, .if_icmp .ge 62), (18, .iload_n 2), (19, .ifCond .le 9), (22, .aload_n 0), (23, .bipush 32), (25, .invokevirtual 361), (28, .aload_n 1), (29, .iload_n 2), (30, .invokevirtual 373), (33, .istore_n 3), (34, .iload_n 3), (35, .ifCond .le 21), (38, .aload_n 0), (39, .bipush 96), (41, .iload_n 3), (42, .bipush 31), (44, .iand), (45, .iadd), (46, .invokevirtual 361), (49, .iload_n 3), (50, .iconst 5), (51, .iushr), (52, .istore_n 3), (53, .goto (-19)), (56, .aload_n 0), (57, .bipush 61), (59, .invokevirtual 361), (62, .aload_n 0), (63, .aload_n 1), (64, .iload_n 2), (65, .invokevirtual 312), (68, .invokevirtual 370), (71, .iinc 2 1), (74, .goto (-64)), (77, .return_)], ([(10, [true, true, true, false]), (28, [true, true, true, false]), (34, [true, true, true, true])], zp_8)))
def mc8_tellNumber : zv_M := ((RX8, (⟨RX8, "tellNumber", "(I)V"⟩, (prog_1_method_46_code, (2, none)))), ([(0, .iload_n 1), (1, .bipush 10), (3, .if_icmp .lt 14), (6, .aload_n 0), (7, .bipush 48), (9, .iload_n 1), (10, .bipush 10), (12, .idiv), (13, .iadd), (14, .invokevirtual 361), (17, .aload_n 0), (18, .bipush 48), (20, .iload_n 1), (21, .bipush 10), (23, .irem), (24, .iadd), (25, .invokevirtual 361), (28, .return_)], ([(17, [true, true])], zp_8)))
def mc8_tellByte : zv_M := ((RX8, (⟨RX8, "tellByte", "(I)V"⟩, (prog_1_method_47_code, (2, none)))), ([(0, .aload_n 0), (1, .getfield 37), (4, .ifCond .lt 35), (7, .aload_n 0), (8, .getfield 37), (11, .aload_n 0), (12, .getfield 9), (15, .arraylength), (16, .if_icmp .ge 23), (19, .aload_n 0), (20, .getfield 9), (23, .aload_n 0), (24, .getfield 37), (27, .iload_n 1), (28, .iastore), (29, .aload_n 0), (30, .dup), (31, .getfield 37), (34, .iconst 1), (35, .iadd), (36, .putfield 37), (39, .return_)], ([], zp_8)))
def mc8_out : zv_M := ((RX8, (⟨RX8, "out", "(I)I"⟩, (prog_1_method_48_code, (2, (some .int))))), ([(0, .iload_n 1), (1, .ifCond .ge 9), (4, .aload_n 0), (5, .iconst 1), (6, .invokevirtual 48), (9, .ireturn), (10, .iload_n 1), (11, .aload_n 0), (12, .getfield 37), (15, .if_icmp .ge 12), (18, .iload_n 1), (19, .aload_n 0), (20, .getfield 9), (23, .arraylength), (24, .if_icmp .lt 11), (27, .aload_n 0), (28, .iconst 5), (29, .invokevirtual 48), (32, .goto 13), (35, .aload_n 0), (36, .aload_n 0), (37, .getfield 9), (40, .iload_n 1), (41, .iaload), (42, .invokevirtual 52), (45, .ireturn)], ([(27, [true, false])], zp_8)))
def mc8_leaning : zv_M := ((RX8, (⟨RX8, "leaning", "(II)I"⟩, (prog_1_method_49_code, (7, (some .int))))), ([(0, .iload_n 2), (1, .iconst 0), (2, .iconst 3), (3, .invokestatic 65), (6, .ifCond .ne 9), (9, .aload_n 0), (10, .iconst 1), (11, .invokevirtual 48), (14, .ireturn), (15, .aload_n 0), (16, .getfield 30), (19, .iload_n 1), (20, .invokevirtual 223), (23, .astore_n 3), (24, .aload_n 3), (25, .ifnonnull 9), (28, .aload_n 0), (29, .iconst 2), (30, .invokevirtual 48), (33, .ireturn), (34, .aload_n 0), (35, .getfield 30), (38, .invokevirtual 184), (41, .astore 4), (43, .aload 4), (45, .getfield 268), (48, .aload_n 3), (49, .invokevirtual 272), (52, .land), (53, .lconst 0), (54, .lcmp), (55, .ifCond .ne 10), (58, .aload_n 0), (59, .bipush 7), (61, .invokevirtual 48), (64, .ireturn), (65, .aload 4), (67, .aload_n 3), (68, .invokevirtual 376), (71, .lstore 5), (73, .iload_n 2), (74, .tableswitch 66 0 2 #[26, 36, 52]), (100, .aload_n 0), (101, .lload 5), (103, .invokestatic 210), (106, .invokevirtual 52), (109, .ireturn), (110, .aload_n 0), (111, .lload 5), (113, .aload 4), (115, .getfield 275), (118, .land), (119, .invokestatic 210), (122, .invokevirtual 52), (125, .ireturn), (126, .aload_n 0), (127, .aload_n 0), (128, .getfield 30), (131, .lload 5), (133, .invokevirtual 380), (136, .invokevirtual 52), (139, .ireturn), (140, .aload 4), (142, .aload 4), (144, .getfield 275), (147, .lload 5), (149, .ldc2_w 383), (152, .lxor), (153, .land), (154, .invokevirtual 385), (157, .aload_n 0), (158, .aload 4), (160, .getfield 389), (163, .invokevirtual 52), (166, .ireturn)], ([], zp_8)))
def mc8_find : zv_M := ((RX8, (⟨RX8, "find", "(I)I"⟩, (prog_1_method_50_code, (3, (some .int))))), ([(0, .iload_n 1), (1, .iconst 0), (2, .iconst 2), (3, .invokestatic 65), (6, .ifCond .eq 13), (9, .aload_n 0), (10, .getfield 16), (13, .getfield 392), (16, .ifCond .ne 9), (19, .aload_n 0), (20, .iconst 1), (21, .invokevirtual 48), (24, .ireturn), (25, .iload_n 1), (26, .iconst 1), (27, .if_icmp .ne 19), (30, .aload_n 0), (31, .aload_n 0), (32, .getfield 30), (35, .aload_n 0), (36, .getfield 16), (39, .invokevirtual 393), (42, .invokevirtual 52), (45, .ireturn), (46, .iload_n 1), (47, .ifCond .ne 17), (50, .aload_n 0), (51, .getfield 30), (54, .aload_n 0), (55, .getfield 16), (58, .invokevirtual 397), (61, .goto 21), (64, .aload_n 0), (65, .getfield 30), (68, .aload_n 0), (69, .getfield 30), (72, .getfield 169), (75, .aload_n 0), (76, .getfield 16), (79, .invokevirtual 400), (82, .istore_n 2), (83, .iload_n 2), (84, .iconst (-1)), (85, .if_icmp .ne 11), (88, .aload_n 0), (89, .iconst 5), (90, .invokevirtual 48), (93, .goto 8), (96, .aload_n 0), (97, .iload_n 2), (98, .invokevirtual 52), (101, .ireturn)], ([(19, [true, false, false]), (82, [true, false, false])], zp_8)))
def mc8_first : zv_M := ((RX8, (⟨RX8, "first", "()I"⟩, (prog_1_method_51_code, (2, (some .int))))), ([(0, .aload_n 0), (1, .getfield 30), (4, .invokevirtual 404), (7, .astore_n 1), (8, .aload_n 1), (9, .ifnonnull 11), (12, .aload_n 0), (13, .iconst 5), (14, .invokevirtual 48), (17, .goto 11), (20, .aload_n 0), (21, .aload_n 1), (22, .getfield 173), (25, .invokevirtual 52), (28, .ireturn)], ([], zp_8)))
def mc8_twin : zv_M := ((RX8, (⟨RX8, "twin", "(I)I"⟩, (prog_1_method_52_code, (4, (some .int))))), ([(0, .aload_n 0), (1, .getfield 30), (4, .iload_n 1), (5, .invokevirtual 223), (8, .astore_n 2), (9, .aload_n 2), (10, .ifnonnull 9), (13, .aload_n 0), (14, .iconst 2), (15, .invokevirtual 48), (18, .ireturn), (19, .aload_n 0), (20, .getfield 30), (23, .aload_n 2), (24, .invokevirtual 408), (27, .istore_n 3), (28, .iload_n 3), (29, .iconst (-1)), (30, .if_icmp .ne 11), (33, .aload_n 0), (34, .iconst 5), (35, .invokevirtual 48), (38, .goto 8), (41, .aload_n 0), (42, .iload_n 3), (43, .invokevirtual 52), (46, .ireturn)], ([], zp_8)))
def mc8_back : zv_M := ((RX8, (⟨RX8, "back", "(I)I"⟩, (prog_1_method_53_code, (3, (some .int))))), ([(0, .iload_n 1), (1, .iconst 1), (2, .bipush 48), (4, .invokestatic 65), (7, .ifCond .ne 9), (10, .aload_n 0), (11, .iconst 1), (12, .invokevirtual 48), (15, .ireturn), (16, .aload_n 0), (17, .getfield 30), (20, .iload_n 1), (21, .invokevirtual 412), (24, .astore_n 2), (25, .aload_n 2), (26, .ifnonnull 11), (29, .aload_n 0), (30, .iconst 5), (31, .invokevirtual 48), (34, .goto 11), (37, .aload_n 0), (38, .aload_n 2), (39, .getfield 173), (42, .invokevirtual 52), (45, .ireturn)], ([], zp_8)))
def mc9_init : zv_M := ((RX9, (⟨RX9, "<init>", "()V"⟩, (prog_11_method_1_code, (1, none)))), ([(0, .aload_n 0), (1, .invokespecial 1), (4, .aload_n 0), (5, .sipush 4236), (8, .newarray .int), (10, .putfield 7), (13, .aload_n 0), (14, .sipush 4236), (17, .newarray .int), (19, .putfield 13), (22, .aload_n 0), (23, .sipush 4236), (26, .newarray .int), (28, .putfield 16), (31, .aload_n 0), (32, .bipush 49), (34, .newarray .int), (36, .putfield 19), (39, .aload_n 0), (40, .sipush 640), (43, .newarray .int), (45, .putfield 22), (48, .aload_n 0), (49, .sipush 640), (52, .newarray .int), (54, .putfield 25), (57, .aload_n 0), (58, .bipush 49), (60, .newarray .boolean), (62, .putfield 28), (65, .aload_n 0), (66, .sipush 640), (69, .newarray .boolean), (71, .putfield 32), (74, .aload_n 0), (75, .sipush 640), (78, .newarray .int), (80, .putfield 35), (83, .aload_n 0), (84, .sipush 640), (87, .newarray .int), (89, .putfield 38), (92, .aload_n 0), (93, .bipush 6), (95, .newarray .int), (97, .putfield 41), (100, .aload_n 0), (101, .sipush 400), (104, .newarray .boolean), (106, .putfield 44), (109, .aload_n 0), (110, .sipush 700), (113, .newarray .int), (115, .putfield 47), (118, .aload_n 0), (119, .bipush 12), (121, .newarray .int), (123, .putfield 50), (126, .aload_n 0), (127, .bipush 48), (129, .newarray .int), (131, .putfield 53), (134, .aload_n 0), (135, .bipush 49), (137, .newarray .int), (139, .putfield 56), (142, .aload_n 0), (143, .bipush 49), (145, .newarray .boolean), (147, .putfield 59), (150, .aload_n 0), (151, .bipush 49), (153, .newarray .boolean), (155, .putfield 62), (158, .aload_n 0), (159, .sipush 700), (162, .newarray .byte), (164, .putfield 65), (167, .aload_n 0), (168, .iconst (-1)), (169, .putfield 69), (172, .aload_n 0), (173, .iconst (-1)), (174, .putfield 73), (177, .aload_n 0), (178, .bipush 12), (180, .newarray .long), (182, .dup), (183, .iconst 0), (184, .ldc2_w 76), (187, .lastore), (188, .dup), (189, .iconst 1), (190, .ldc2_w 78), (193, .lastore), (194, .dup), (195, .iconst 2), (196, .ldc2_w 80), (199, .lastore), (200, .dup), (201, .iconst 3), (202, .ldc2_w 82), (205, .lastore), (206, .dup), (207, .iconst 4), (208, .ldc2_w 84), (211, .lastore), (212, .dup), (213, .iconst 5), (214, .ldc2_w 86), (217, .lastore), (218, .dup), (219, .bipush 6), (221, .ldc2_w 88), (224, .lastore), (225, .dup), (226, .bipush 7), (228, .ldc2_w 90), (231, .lastore), (232, .dup), (233, .bipush 8), (235, .ldc2_w 92), (238, .lastore), (239, .dup), (240, .bipush 9), (242, .ldc2_w 94), (245, .lastore), (246, .dup), (247, .bipush 10), (249, .ldc2_w 96), (252, .lastore), (253, .dup), (254, .bipush 11), (256, .ldc2_w 98), (259, .lastore), (260, .putfield 100), (263, .aload_n 0), (264, .iconst 5), (265, .newarray .long), (267, .dup), (268, .iconst 0), (269, .ldc2_w 104), (272, .lastore), (273, .dup), (274, .iconst 1), (275, .ldc2_w 106), (278, .lastore), (279, .dup), (280, .iconst 2), (281, .ldc2_w 108), (284, .lastore), (285, .dup), (286, .iconst 3), (287, .ldc2_w 110), (290, .lastore), (291, .dup), (292, .iconst 4), (293, .ldc2_w 112), (296, .lastore), (297, .putfield 114), (300, .aload_n 0), (301, .bipush 6), (303, .newarray .long), (305, .dup), (306, .iconst 0), (307, .ldc2_w 117), (310, .lastore), (311, .dup), (312, .iconst 1), (313, .ldc2_w 119), (316, .lastore), (317, .dup), (318, .iconst 2), (319, .ldc2_w 121), (322, .lastore), (323, .dup), (324, .iconst 3), (325, .ldc2_w 123), (328, .lastore), (329, .dup), (330, .iconst 4), (331, .ldc2_w 125), (334, .lastore), (335, .dup), (336, .iconst 5), (337, .ldc2_w 127), (340, .lastore), (341, .putfield 129), (344, .aload_n 0), (345, .sipush 640), (348, .newarray .int), (350, .putfield 132), (353, .aload_n 0), (354, .sipush 14641), (357, .newarray .int), (359, .putfield 135), (362, .aload_n 0), (363, .sipush 200), (366, .newarray .int), (368, .putfield 138), (371, .aload_n 0), (372, .invokevirtual 141), (375, .return_)], ([], zp_9)))
def mc9_status : zv_M := ((RX9, (⟨RX9, "status", "()I"⟩, (prog_11_method_3_code, (1, (some .int))))), ([(0, .aload_n 0), (1, .iconst 0), (2, .putfield 144), (5, .aload_n 0), (6, .getfield 147), (9, .ireturn)], ([], zp_9)))
def mc9_refuse : zv_M := ((RX9, (⟨RX9, "refuse", "(I)I"⟩, (prog_11_method_4_code, (2, (some .int))))), ([(0, .aload_n 0), (1, .iload_n 1), (2, .putfield 147), (5, .iconst (-1)), (6, .ireturn)], ([], zp_9)))
def mc9_is : zv_M := ((RX9, (⟨RX9, "is", "(I)Z"⟩, (prog_11_method_5_code, (2, (some .boolean))))), ([(0, .aload_n 0), (1, .iconst 0), (2, .putfield 144), (5, .aload_n 0), (6, .iload_n 1), (7, .putfield 147), (10, .iload_n 1), (11, .ifCond .ne 7), (14, .iconst 1), (15, .goto 4), (18, .iconst 0), (19, .ireturn)], ([], zp_9)))
def mc9_isIn : zv_M := ((RX9, (⟨RX9, "isIn", "(III)Z"⟩, (prog_11_method_6_code, (3, (some .boolean))))), ([(0, .iload_n 0), (1, .iload_n 1), (2, .if_icmp .lt 12), (5, .iload_n 0), (6, .iload_n 2), (7, .if_icmp .gt 7), (10, .iconst 1), (11, .goto 4), (14, .iconst 0), (15, .ireturn)], ([], zp_9)))
def mc9_clears : zv_M := ((RX9, (⟨RX9, "clears", "()V"⟩, (prog_11_method_7_code, (2, none)))), ([(0, .iconst 0), (1, .istore_n 1), (2, .iload_n 1), (3, .sipush 4236), (6, .if_icmp .ge 16), (9, .aload_n 0), (10, .getfield 7), (13, .iload_n 1), (14, .iconst 0), (15, .iastore), (16, .iinc 1 1), (19, .goto (-17)), (22, .aload_n 0), (23, .iconst 0), (24, .iconst 0), (25, .iconst 1), (26, .invokevirtual 150), (29, .aload_n 0), (30, .iconst 0), (31, .iconst 1), (32, .iconst (-1)), (33, .invokevirtual 150), (36, .aload_n 0), (37, .iconst 0), (38, .iconst 2), (39, .iconst (-1)), (40, .invokevirtual 150), (43, .aload_n 0), (44, .iconst 0), (45, .iconst 4), (46, .iconst (-1)), (47, .invokevirtual 150), (50, .return_)], ([(2, [true, true])], zp_9)))
def mc9_of : zv_M := ((RX9, (⟨RX9, "of", "(II)I"⟩, (prog_11_method_8_code, (3, (some .int))))), ([(0, .aload_n 0), (1, .getfield 7), (4, .sipush 432), (7, .bipush 76), (9, .iload_n 1), (10, .imul), (11, .iadd), (12, .iload_n 2), (13, .iadd), (14, .iaload), (15, .ireturn)], ([], zp_9)))
def mc9_sets : zv_M := ((RX9, (⟨RX9, "sets", "(III)V"⟩, (prog_11_method_9_code, (4, none)))), ([(0, .aload_n 0), (1, .getfield 7), (4, .sipush 432), (7, .bipush 76), (9, .iload_n 1), (10, .imul), (11, .iadd), (12, .iload_n 2), (13, .iadd), (14, .iload_n 3), (15, .iastore), (16, .return_)], ([], zp_9)))
def mc9_isState : zv_M := ((RX9, (⟨RX9, "isState", "(I)Z"⟩, (prog_11_method_10_code, (2, (some .boolean))))), ([(0, .iload_n 1), (1, .iconst 0), (2, .bipush 47), (4, .invokestatic 154), (7, .ifCond .eq 17), (10, .aload_n 0), (11, .iload_n 1), (12, .iconst 0), (13, .invokevirtual 158), (16, .iconst 1), (17, .if_icmp .ne 7), (20, .iconst 1), (21, .goto 4), (24, .iconst 0), (25, .ireturn)], ([], zp_9)))
def mc9_isEdit : zv_M := ((RX9, (⟨RX9, "isEdit", "(I)Z"⟩, (prog_11_method_11_code, (2, (some .boolean))))), ([(0, .aload_n 0), (1, .iload_n 1), (2, .iconst 2), (3, .invokevirtual 158), (6, .ifCond .eq 13), (9, .aload_n 0), (10, .iload_n 1), (11, .iconst 2), (12, .invokevirtual 158), (15, .iconst 1), (16, .if_icmp .ne 7), (19, .iconst 1), (20, .goto 4), (23, .iconst 0), (24, .ireturn)], ([], zp_9)))
def mc9_here : zv_M := ((RX9, (⟨RX9, "here", "()I"⟩, (prog_11_method_12_code, (1, (some .int))))), ([(0, .aload_n 0), (1, .getfield 7), (4, .iconst 0), (5, .iaload), (6, .ireturn)], ([], zp_9)))
def mc9_states : zv_M := ((RX9, (⟨RX9, "states", "()I"⟩, (prog_11_method_13_code, (3, (some .int))))), ([(0, .iconst 0), (1, .istore_n 1), (2, .iconst 0), (3, .istore_n 2), (4, .iload_n 2), (5, .bipush 48), (7, .if_icmp .ge 18), (10, .iload_n 1), (11, .aload_n 0), (12, .iload_n 2), (13, .iconst 0), (14, .invokevirtual 158), (17, .iadd), (18, .istore_n 1), (19, .iinc 2 1), (22, .goto (-18)), (25, .iload_n 1), (26, .ireturn)], ([(4, [true, true, true])], zp_9)))
def mc9_names : zv_M := ((RX9, (⟨RX9, "names", "(II)Z"⟩, (prog_11_method_14_code, (3, (some .boolean))))), ([(0, .aload_n 0), (1, .iload_n 1), (2, .iload_n 2), (3, .bipush 24), (5, .if_icmp .ge 8), (8, .bipush 10), (10, .goto 5), (13, .bipush 11), (15, .invokevirtual 158), (18, .iload_n 2), (19, .bipush 24), (21, .irem), (22, .ishr), (23, .iconst 1), (24, .iand), (25, .iconst 1), (26, .if_icmp .ne 7), (29, .iconst 1), (30, .goto 4), (33, .iconst 0), (34, .ireturn)], ([(15, [false, false, true])], zp_9)))
def mc9_namesToo : zv_M := ((RX9, (⟨RX9, "namesToo", "(II)V"⟩, (prog_11_method_15_code, (3, none)))), ([(0, .aload_n 0), (1, .iload_n 1), (2, .iload_n 2), (3, .bipush 24), (5, .if_icmp .ge 8), (8, .bipush 10), (10, .goto 5), (13, .bipush 11), (15, .aload_n 0), (16, .iload_n 1), (17, .iload_n 2), (18, .bipush 24), (20, .if_icmp .ge 8), (23, .bipush 10), (25, .goto 5), (28, .bipush 11), (30, .invokevirtual 158), (33, .iconst 1), (34, .iload_n 2), (35, .bipush 24), (37, .irem), (38, .ishl), (39, .ior), (40, .invokevirtual 150), (43, .return_)], ([(15, [true, true, true]), (30, [false, false, true])], zp_9)))
def mc9_isOfLine : zv_M := ((RX9, (⟨RX9, "isOfLine", "(II)Z"⟩, (prog_11_method_16_code, (4, (some .boolean))))), ([(0, .iload_n 2), (1, .istore_n 3), (2, .iload_n 3), (3, .ifCond .lt 20), (6, .iload_n 3), (7, .iload_n 1), (8, .if_icmp .ne 5), (11, .iconst 1), (12, .ireturn), (13, .aload_n 0), (14, .iload_n 3), (15, .iconst 1), (16, .invokevirtual 158), (19, .istore_n 3), (20, .goto (-18)), (23, .iconst 0), (24, .ireturn)], ([(2, [true, true, false, true])], zp_9)))
def mc9_depthOf : zv_M := ((RX9, (⟨RX9, "depthOf", "(I)I"⟩, (prog_11_method_17_code, (4, (some .int))))), ([(0, .iconst 0), (1, .istore_n 2), (2, .aload_n 0), (3, .iload_n 1), (4, .iconst 1), (5, .invokevirtual 158), (8, .istore_n 3), (9, .iload_n 3), (10, .ifCond .lt 16), (13, .iinc 2 1), (16, .aload_n 0), (17, .iload_n 3), (18, .iconst 1), (19, .invokevirtual 158), (22, .istore_n 3), (23, .goto (-14)), (26, .iload_n 2), (27, .ireturn)], ([(9, [true, false, true, true])], zp_9)))
def mc9_rowOf : zv_M := ((RX9, (⟨RX9, "rowOf", "(II)I"⟩, (prog_11_method_18_code, (4, (some .int))))), ([(0, .iconst 0), (1, .istore_n 3), (2, .iload_n 3), (3, .aload_n 0), (4, .getfield 162), (7, .if_icmp .ge 31), (10, .aload_n 0), (11, .getfield 22), (14, .iload_n 3), (15, .iaload), (16, .iload_n 1), (17, .if_icmp .ne 15), (20, .aload_n 0), (21, .getfield 25), (24, .iload_n 3), (25, .iaload), (26, .iload_n 2), (27, .if_icmp .ne 5), (30, .iload_n 3), (31, .ireturn), (32, .iinc 3 1), (35, .goto (-33)), (38, .iconst (-1)), (39, .ireturn)], ([(2, [true, true, true, true])], zp_9)))
def mc9_letsIn : zv_M := ((RX9, (⟨RX9, "letsIn", "(I)V"⟩, (prog_11_method_19_code, (5, none)))), ([(0, .aload_n 0), (1, .iload_n 1), (2, .bipush 8), (4, .invokevirtual 158), (7, .ifCond .ge 7), (10, .iconst 0), (11, .goto 23), (14, .aload_n 0), (15, .aload_n 0), (16, .iload_n 1), (17, .bipush 8), (19, .invokevirtual 158), (22, .aload_n 0), (23, .iload_n 1), (24, .bipush 9), (26, .invokevirtual 158), (29, .invokevirtual 165), (32, .iconst 1), (33, .iadd), (34, .istore_n 2), (35, .aload_n 0), (36, .iload_n 1), (37, .iconst 5), (38, .invokevirtual 158), (41, .istore_n 3), (42, .aload_n 0), (43, .getfield 162), (46, .iconst 1), (47, .isub), (48, .istore 4), (50, .iload 4), (52, .iload_n 2), (53, .if_icmp .lt 41), (56, .aload_n 0), (57, .getfield 22), (60, .iload 4), (62, .iload_n 3), (63, .iadd), (64, .aload_n 0), (65, .getfield 22), (68, .iload 4), (70, .iaload), (71, .iastore), (72, .aload_n 0), (73, .getfield 25), (76, .iload 4), (78, .iload_n 3), (79, .iadd), (80, .aload_n 0), (81, .getfield 25), (84, .iload 4), (86, .iaload), (87, .iastore), (88, .iinc 4 (-1)), (91, .goto (-41)), (94, .iconst 0), (95, .istore 4), (97, .iload 4), (99, .iload_n 3), (100, .if_icmp .ge 30), (103, .aload_n 0), (104, .getfield 22), (107, .iload_n 2), (108, .iload 4), (110, .iadd), (111, .iload_n 1), (112, .iastore), (113, .aload_n 0), (114, .getfield 25), (117, .iload_n 2), (118, .iload 4), (120, .iadd), (121, .iload 4), (123, .iastore), (124, .iinc 4 1), (127, .goto (-30)), (130, .aload_n 0), (131, .dup), (132, .getfield 162), (135, .iload_n 3), (136, .iadd), (137, .putfield 162), (140, .return_)], ([(34, [true, true, false, false, false]), (50, [true, true, true, true, true]), (97, [true, true, true, true, true])], zp_9)))
def mc9_turns : zv_M := ((RX9, (⟨RX9, "turns", "(I)V"⟩, (prog_11_method_20_code, (3, none)))), ([(0, .iconst 0), (1, .istore_n 2), (2, .iload_n 2), (3, .aload_n 0), (4, .getfield 168), (7, .if_icmp .ge 49), (10, .aload_n 0), (11, .iload_n 1), (12, .aload_n 0), (13, .getfield 19), (16, .iload_n 2), (17, .iaload), (18, .invokevirtual 171), (21, .ifCond .eq 29), (24, .aload_n 0), (25, .getfield 28), (28, .aload_n 0), (29, .getfield 19), (32, .iload_n 2), (33, .iaload), (34, .aload_n 0), (35, .iload_n 1), (36, .iconst 2), (37, .invokevirtual 158), (40, .iconst 3), (41, .if_icmp .ne 7), (44, .iconst 1), (45, .goto 4), (48, .iconst 0), (49, .bastore), (50, .iinc 2 1), (53, .goto (-51)), (56, .return_)], ([(2, [true, true, true])], zp_9)))
def mc9_sees : zv_M := ((RX9, (⟨RX9, "sees", "(I)V"⟩, (prog_11_method_21_code, (6, none)))), ([(0, .aload_n 0), (1, .aload_n 0), (2, .iload_n 1), (3, .invokevirtual 175), (6, .iconst 1), (7, .iadd), (8, .putfield 168), (11, .aload_n 0), (12, .getfield 168), (15, .iconst 1), (16, .isub), (17, .istore_n 2), (18, .iload_n 1), (19, .istore_n 3), (20, .iload_n 3), (21, .ifCond .lt 23), (24, .aload_n 0), (25, .getfield 19), (28, .iload_n 2), (29, .iload_n 3), (30, .iastore), (31, .iinc 2 (-1)), (34, .aload_n 0), (35, .iload_n 3), (36, .iconst 1), (37, .invokevirtual 158), (40, .istore_n 3), (41, .goto (-21)), (44, .aload_n 0), (45, .aload_n 0), (46, .iconst 0), (47, .iconst 5), (48, .invokevirtual 158), (51, .putfield 162), (54, .iconst 0), (55, .istore_n 3), (56, .iload_n 3), (57, .aload_n 0), (58, .getfield 162), (61, .if_icmp .ge 23), (64, .aload_n 0), (65, .getfield 22), (68, .iload_n 3), (69, .iconst 0), (70, .iastore), (71, .aload_n 0), (72, .getfield 25), (75, .iload_n 3), (76, .iload_n 3), (77, .iastore), (78, .iinc 3 1), (81, .goto (-25)), (84, .aload_n 0), (85, .getfield 28), (88, .iconst 0), (89, .iconst 1), (90, .bastore), (91, .iconst 1), (92, .istore_n 3), (93, .iload_n 3), (94, .aload_n 0), (95, .getfield 168), (98, .if_icmp .ge 61), (101, .aload_n 0), (102, .getfield 19), (105, .iload_n 3), (106, .iaload), (107, .istore 4), (109, .aload_n 0), (110, .getfield 28), (113, .iload 4), (115, .aload_n 0), (116, .iload 4), (118, .invokevirtual 179), (121, .bastore), (122, .aload_n 0), (123, .iload 4), (125, .iconst 2), (126, .invokevirtual 158), (129, .ifCond .ne 9), (132, .aload_n 0), (133, .iload 4), (135, .invokevirtual 183), (138, .aload_n 0), (139, .iload 4), (141, .invokevirtual 179), (144, .ifCond .ne 9), (147, .aload_n 0), (148, .iload 4), (150, .invokevirtual 187), (153, .iinc 3 1), (156, .goto (-63)), (159, .iconst 0), (160, .istore_n 3), (161, .iload_n 3), (162, .aload_n 0), (163, .getfield 162), (166, .if_icmp .ge 26), (169, .aload_n 0), (170, .getfield 32), (173, .iload_n 3), (174, .aload_n 0), (175, .getfield 28), (178, .aload_n 0), (179, .getfield 22), (182, .iload_n 3), (183, .iaload), (184, .baload), (185, .bastore), (186, .iinc 3 1), (189, .goto (-28)), (192, .iconst 1), (193, .istore_n 3), (194, .iload_n 3), (195, .aload_n 0), (196, .getfield 168), (199, .if_icmp .ge 97), (202, .aload_n 0), (203, .getfield 19), (206, .iload_n 3), (207, .iaload), (208, .istore 4), (210, .iconst 0), (211, .istore 5), (213, .aload_n 0), (214, .iload 4), (216, .iconst 2), (217, .invokevirtual 158), (220, .iconst 1), (221, .if_icmp .ne 69), (224, .aload_n 0), (225, .getfield 28), (228, .iload 4), (230, .baload), (231, .ifCond .eq 59), (234, .iload 5), (236, .aload_n 0), (237, .iload 4), (239, .iconst 5), (240, .invokevirtual 158), (243, .if_icmp .ge 47), (246, .aload_n 0), (247, .getfield 32), (250, .aload_n 0), (251, .aload_n 0), (252, .iload 4), (254, .bipush 52), (256, .iconst 2), (257, .iload 5), (259, .imul), (260, .iadd), (261, .invokevirtual 158), (264, .aload_n 0), (265, .iload 4), (267, .bipush 52), (269, .iconst 2), (270, .iload 5), (272, .imul), (273, .iadd), (274, .iconst 1), (275, .iadd), (276, .invokevirtual 158), (279, .invokevirtual 165), (282, .iconst 0), (283, .bastore), (284, .iinc 5 1), (287, .goto (-74)), (290, .iinc 3 1), (293, .goto (-99)), (296, .aload_n 0), (297, .iconst 0), (298, .putfield 190), (301, .iconst 0), (302, .istore_n 3), (303, .iload_n 3), (304, .aload_n 0), (305, .getfield 162), (308, .if_icmp .ge 32), (311, .aload_n 0), (312, .dup), (313, .getfield 190), (316, .aload_n 0), (317, .getfield 32), (320, .iload_n 3), (321, .baload), (322, .ifCond .eq 7), (325, .iconst 1), (326, .goto 4), (329, .iconst 0), (330, .iadd), (331, .putfield 190), (334, .iinc 3 1), (337, .goto (-34)), (340, .return_)], ([(20, [true, false, true, true, false, false]), (56, [true, false, false, true, false, false]), (93, [true, false, false, true, false, false]), (138, [true, false, false, true, true, false]), (161, [true, false, false, true, false, false]), (194, [true, false, false, true, false, false]), (213, [true, false, false, true, true, true]), (303, [true, false, false, true, false, false])], zp_9)))
def mc9_rowPlace : zv_M := ((RX9, (⟨RX9, "rowPlace", "(I)I"⟩, (prog_11_method_22_code, (4, (some .int))))), ([(0, .iload_n 1), (1, .istore_n 2), (2, .iconst 0), (3, .istore_n 3), (4, .iload_n 3), (5, .aload_n 0), (6, .getfield 162), (9, .if_icmp .ge 30), (12, .aload_n 0), (13, .getfield 32), (16, .iload_n 3), (17, .baload), (18, .ifCond .ne 6), (21, .goto 12), (24, .iload_n 2), (25, .ifCond .ne 5), (28, .iload_n 3), (29, .ireturn), (30, .iinc 2 (-1)), (33, .iinc 3 1), (36, .goto (-32)), (39, .iconst (-1)), (40, .ireturn)], ([(4, [true, false, true, true])], zp_9)))
def mc9_letterIn : zv_M := ((RX9, (⟨RX9, "letterIn", "(I)I"⟩, (prog_11_method_23_code, (2, (some .int))))), ([(0, .aload_n 0), (1, .aload_n 0), (2, .getfield 22), (5, .iload_n 1), (6, .iaload), (7, .bipush 12), (9, .aload_n 0), (10, .getfield 25), (13, .iload_n 1), (14, .iaload), (15, .iadd), (16, .invokevirtual 158), (19, .ireturn)], ([], zp_9)))
def mc9_lettersOf : zv_M := ((RX9, (⟨RX9, "lettersOf", "(I)I"⟩, (prog_11_method_24_code, (2, (some .int))))), ([(0, .aload_n 0), (1, .iload_n 1), (2, .invokevirtual 193), (5, .aload_n 0), (6, .getfield 190), (9, .ireturn)], ([], zp_9)))
def mc9_copies : zv_M := ((RX9, (⟨RX9, "copies", "(I[I)I"⟩, (prog_11_method_25_code, (5, (some .int))))), ([(0, .aload_n 0), (1, .iload_n 1), (2, .invokevirtual 193), (5, .iconst 0), (6, .istore_n 3), (7, .iconst 0), (8, .istore 4), (10, .iload 4), (12, .aload_n 0), (13, .getfield 162), (16, .if_icmp .ge 34), (19, .aload_n 0), (20, .getfield 32), (23, .iload 4), (25, .baload), (26, .ifCond .ne 6), (29, .goto 15), (32, .aload_n 2), (33, .iload_n 3), (34, .aload_n 0), (35, .iload 4), (37, .invokevirtual 196), (40, .iastore), (41, .iinc 3 1), (44, .iinc 4 1), (47, .goto (-37)), (50, .iload_n 3), (51, .ireturn)], ([(10, [true, false, true, true, true])], zp_9)))
def mc9_visits : zv_M := ((RX9, (⟨RX9, "visits", "(I)V"⟩, (prog_11_method_26_code, (3, none)))), ([(0, .iload_n 1), (1, .aload_n 0), (2, .invokevirtual 199), (5, .if_icmp .ne 4), (8, .return_), (9, .aload_n 0), (10, .getfield 7), (13, .iconst 0), (14, .iload_n 1), (15, .iastore), (16, .aload_n 0), (17, .getfield 7), (20, .iconst 2), (21, .dup2), (22, .iaload), (23, .iconst 1), (24, .iadd), (25, .iastore), (26, .aload_n 0), (27, .iload_n 1), (28, .bipush 7), (30, .aload_n 0), (31, .getfield 7), (34, .iconst 2), (35, .iaload), (36, .invokevirtual 150), (39, .bipush 79), (41, .istore_n 2), (42, .iload_n 2), (43, .iconst 1), (44, .if_icmp .le 31), (47, .aload_n 0), (48, .getfield 7), (51, .sipush 4156), (54, .iload_n 2), (55, .iadd), (56, .aload_n 0), (57, .getfield 7), (60, .sipush 4156), (63, .iload_n 2), (64, .iadd), (65, .iconst 2), (66, .isub), (67, .iaload), (68, .iastore), (69, .iinc 2 (-1)), (72, .goto (-30)), (75, .aload_n 0), (76, .getfield 7), (79, .sipush 4156), (82, .iload_n 1), (83, .iastore), (84, .aload_n 0), (85, .getfield 7), (88, .sipush 4157), (91, .aload_n 0), (92, .getfield 7), (95, .iconst 1), (96, .iaload), (97, .iastore), (98, .aload_n 0), (99, .getfield 7), (102, .iconst 5), (103, .aload_n 0), (104, .getfield 7), (107, .iconst 5), (108, .iaload), (109, .bipush 40), (111, .if_icmp .ge 14), (114, .aload_n 0), (115, .getfield 7), (118, .iconst 5), (119, .iaload), (120, .iconst 1), (121, .iadd), (122, .goto 5), (125, .bipush 40), (127, .iastore), (128, .return_)], ([(42, [true, true, true])], zp_9)))
def mc9_latestIn : zv_M := ((RX9, (⟨RX9, "latestIn", "(I)I"⟩, (prog_11_method_27_code, (4, (some .int))))), ([(0, .aload_n 0), (1, .iload_n 1), (2, .bipush 7), (4, .invokevirtual 158), (7, .istore_n 2), (8, .iconst 0), (9, .istore_n 3), (10, .iload_n 3), (11, .bipush 48), (13, .if_icmp .ge 45), (16, .aload_n 0), (17, .iload_n 3), (18, .invokevirtual 203), (21, .ifCond .eq 31), (24, .aload_n 0), (25, .iload_n 3), (26, .bipush 7), (28, .invokevirtual 158), (31, .iload_n 2), (32, .if_icmp .le 20), (35, .aload_n 0), (36, .iload_n 1), (37, .iload_n 3), (38, .invokevirtual 206), (41, .ifCond .eq 11), (44, .aload_n 0), (45, .iload_n 3), (46, .bipush 7), (48, .invokevirtual 158), (51, .istore_n 2), (52, .iinc 3 1), (55, .goto (-45)), (58, .iload_n 2), (59, .ireturn)], ([(10, [true, true, true, true])], zp_9)))
def mc9_childOf : zv_M := ((RX9, (⟨RX9, "childOf", "(II)I"⟩, (prog_11_method_28_code, (6, (some .int))))), ([(0, .iconst 0), (1, .istore_n 3), (2, .iload_n 3), (3, .bipush 48), (5, .if_icmp .ge 101), (8, .aload_n 0), (9, .iload_n 3), (10, .invokevirtual 203), (13, .ifCond .eq 87), (16, .aload_n 0), (17, .iload_n 3), (18, .iconst 1), (19, .invokevirtual 158), (22, .iload_n 1), (23, .if_icmp .eq 6), (26, .goto 74), (29, .iconst 0), (30, .istore 4), (32, .iconst 0), (33, .istore 5), (35, .iload 5), (37, .bipush 48), (39, .if_icmp .ge 53), (42, .iload 4), (44, .aload_n 0), (45, .iload 5), (47, .invokevirtual 203), (50, .ifCond .eq 32), (53, .aload_n 0), (54, .iload 5), (56, .iconst 1), (57, .invokevirtual 158), (60, .iload_n 1), (61, .if_icmp .ne 21), (64, .aload_n 0), (65, .iload 5), (67, .invokevirtual 209), (70, .aload_n 0), (71, .iload_n 3), (72, .invokevirtual 209), (75, .if_icmp .le 7), (78, .iconst 1), (79, .goto 4), (82, .iconst 0), (83, .iadd), (84, .istore 4), (86, .iinc 5 1), (89, .goto (-54)), (92, .iload 4), (94, .iload_n 2), (95, .if_icmp .ne 5), (98, .iload_n 3), (99, .ireturn), (100, .iinc 3 1), (103, .goto (-101)), (106, .iconst (-1)), (107, .ireturn)], ([(2, [true, true, true, true, false, false]), (35, [true, true, true, true, true, true])], zp_9)))
def mc9_childrenOf : zv_M := ((RX9, (⟨RX9, "childrenOf", "(I)I"⟩, (prog_11_method_29_code, (4, (some .int))))), ([(0, .iconst 0), (1, .istore_n 2), (2, .iconst 0), (3, .istore_n 3), (4, .iload_n 3), (5, .bipush 48), (7, .if_icmp .ge 35), (10, .iload_n 2), (11, .aload_n 0), (12, .iload_n 3), (13, .invokevirtual 203), (16, .ifCond .eq 17), (19, .aload_n 0), (20, .iload_n 3), (21, .iconst 1), (22, .invokevirtual 158), (25, .iload_n 1), (26, .if_icmp .ne 7), (29, .iconst 1), (30, .goto 4), (33, .iconst 0), (34, .iadd), (35, .istore_n 2), (36, .iinc 3 1), (39, .goto (-35)), (42, .iload_n 2), (43, .ireturn)], ([(4, [true, true, true, true])], zp_9)))
def mc9_freeState : zv_M := ((RX9, (⟨RX9, "freeState", "()I"⟩, (prog_11_method_30_code, (2, (some .int))))), ([(0, .iconst 0), (1, .istore_n 1), (2, .iload_n 1), (3, .bipush 48), (5, .if_icmp .ge 19), (8, .aload_n 0), (9, .iload_n 1), (10, .iconst 0), (11, .invokevirtual 158), (14, .iconst 1), (15, .if_icmp .ne 9), (18, .iinc 1 1), (21, .goto (-19)), (24, .iload_n 1), (25, .ireturn)], ([(2, [true, true])], zp_9)))
def mc9_isNear : zv_M := ((RX9, (⟨RX9, "isNear", "(IIII)Z"⟩, (prog_11_method_31_code, (8, (some .boolean))))), ([(0, .aload_n 0), (1, .iload 4), (3, .iconst 2), (4, .invokevirtual 158), (7, .ifCond .ne 7), (10, .iconst 1), (11, .goto 4), (14, .iconst 0), (15, .istore 5), (17, .aload_n 0), (18, .iload 4), (20, .iconst 4), (21, .invokevirtual 158), (24, .istore 6), (26, .iload 6), (28, .aload_n 0), (29, .iload 4), (31, .iconst 5), (32, .invokevirtual 158), (35, .iadd), (36, .istore 7), (38, .iload_n 1), (39, .ifCond .ne 34), (42, .iload 5), (44, .ifCond .eq 17), (47, .iload_n 2), (48, .iload 7), (50, .if_icmp .ne 7), (53, .iconst 1), (54, .goto 18), (57, .iconst 0), (58, .goto 14), (61, .iload_n 2), (62, .iload 6), (64, .if_icmp .ne 7), (67, .iconst 1), (68, .goto 4), (71, .iconst 0), (72, .ireturn), (73, .iload 5), (75, .ifCond .eq 19), (78, .iload_n 2), (79, .iload_n 3), (80, .iadd), (81, .iload 7), (83, .if_icmp .ne 7), (86, .iconst 1), (87, .goto 26), (90, .iconst 0), (91, .goto 22), (94, .iload_n 2), (95, .iload 6), (97, .if_icmp .eq 11), (100, .iload_n 2), (101, .iload_n 3), (102, .iadd), (103, .iload 6), (105, .if_icmp .ne 7), (108, .iconst 1), (109, .goto 4), (112, .iconst 0), (113, .ireturn)], ([(15, [true, true, true, true, true, false, false, false])], zp_9)))
def mc9_compares : zv_M := ((RX9, (⟨RX9, "compares", "(III)Z"⟩, (prog_11_method_32_code, (3, (some .boolean))))), ([(0, .iload_n 0), (1, .ifCond .ne 16), (4, .iload_n 1), (5, .iload_n 2), (6, .if_icmp .ge 7), (9, .iconst 1), (10, .goto 35), (13, .iconst 0), (14, .goto 31), (17, .iload_n 0), (18, .iconst 1), (19, .if_icmp .ne 16), (22, .iload_n 1), (23, .iload_n 2), (24, .if_icmp .ne 7), (27, .iconst 1), (28, .goto 17), (31, .iconst 0), (32, .goto 13), (35, .iload_n 1), (36, .iload_n 2), (37, .if_icmp .le 7), (40, .iconst 1), (41, .goto 4), (44, .iconst 0), (45, .ireturn)], ([], zp_9)))
def mc9_holds : zv_M := ((RX9, (⟨RX9, "holds", "()Z"⟩, (prog_11_method_33_code, (4, (some .boolean))))), ([(0, .aload_n 0), (1, .getfield 7), (4, .iconst 4), (5, .iaload), (6, .ifCond .ne 50), (9, .aload_n 0), (10, .getfield 41), (13, .iconst 0), (14, .iaload), (15, .iconst 3), (16, .if_icmp .ge 38), (19, .aload_n 0), (20, .getfield 41), (23, .iconst 3), (24, .iaload), (25, .iconst 1), (26, .if_icmp .ne 28), (29, .aload_n 0), (30, .getfield 41), (33, .iconst 4), (34, .iaload), (35, .iconst 1), (36, .if_icmp .ne 18), (39, .aload_n 0), (40, .getfield 41), (43, .iconst 1), (44, .iaload), (45, .bipush 8), (47, .if_icmp .ge 7), (50, .iconst 1), (51, .goto 4), (54, .iconst 0), (55, .ireturn), (56, .iconst 0), (57, .istore_n 1), (58, .iconst 0), (59, .istore_n 2), (60, .iload_n 2), (61, .aload_n 0), (62, .getfield 7), (65, .iconst 4), (66, .iaload), (67, .if_icmp .ge 159), (70, .aload_n 0), (71, .getfield 7), (74, .bipush 8), (76, .iload_n 2), (77, .iadd), (78, .iaload), (79, .istore_n 3), (80, .iload_n 3), (81, .ifCond .lt 37), (84, .aload_n 0), (85, .getfield 44), (88, .iload_n 1), (89, .iload_n 3), (90, .bipush 6), (92, .idiv), (93, .iconst 3), (94, .irem), (95, .aload_n 0), (96, .getfield 41), (99, .iload_n 3), (100, .bipush 6), (102, .irem), (103, .iaload), (104, .iload_n 3), (105, .bipush 18), (107, .idiv), (108, .invokestatic 212), (111, .bastore), (112, .iinc 1 1), (115, .goto 105), (118, .iload_n 3), (119, .iconst (-1)), (120, .if_icmp .ne 30), (123, .aload_n 0), (124, .getfield 44), (127, .iload_n 1), (128, .iconst 1), (129, .isub), (130, .aload_n 0), (131, .getfield 44), (134, .iload_n 1), (135, .iconst 1), (136, .isub), (137, .baload), (138, .ifCond .ne 7), (141, .iconst 1), (142, .goto 4), (145, .iconst 0), (146, .bastore), (147, .goto 73), (150, .iinc 1 (-1)), (153, .aload_n 0), (154, .getfield 44), (157, .iload_n 1), (158, .iconst 1), (159, .isub), (160, .iload_n 3), (161, .bipush (-2)), (163, .if_icmp .ne 31), (166, .aload_n 0), (167, .getfield 44), (170, .iload_n 1), (171, .iconst 1), (172, .isub), (173, .baload), (174, .ifCond .eq 16), (177, .aload_n 0), (178, .getfield 44), (181, .iload_n 1), (182, .baload), (183, .ifCond .eq 7), (186, .iconst 1), (187, .goto 32), (190, .iconst 0), (191, .goto 28), (194, .aload_n 0), (195, .getfield 44), (198, .iload_n 1), (199, .iconst 1), (200, .isub), (201, .baload), (202, .ifCond .ne 12), (205, .aload_n 0), (206, .getfield 44), (209, .iload_n 1), (210, .baload), (211, .ifCond .eq 7), (214, .iconst 1), (215, .goto 4), (218, .iconst 0), (219, .bastore), (220, .iinc 2 1), (223, .goto (-163)), (226, .aload_n 0), (227, .getfield 44), (230, .iconst 0), (231, .baload), (232, .ireturn)], ([(60, [true, true, true, false])], zp_9)))
def mc9_joins : zv_M := ((RX9, (⟨RX9, "joins", "(III)Z"⟩, (prog_11_method_34_code, (5, (some .boolean))))), ([(0, .aload_n 0), (1, .invokevirtual 199), (4, .istore 4), (6, .aload_n 0), (7, .iload 4), (9, .invokevirtual 179), (12, .ifCond .ne 5), (15, .iconst 0), (16, .ireturn), (17, .aload_n 0), (18, .getfield 41), (21, .iconst 0), (22, .aload_n 0), (23, .getfield 7), (26, .iconst 1), (27, .iaload), (28, .aload_n 0), (29, .iload 4), (31, .iconst 3), (32, .invokevirtual 158), (35, .isub), (36, .iastore), (37, .aload_n 0), (38, .getfield 41), (41, .iconst 1), (42, .aload_n 0), (43, .iload 4), (45, .invokevirtual 175), (48, .aload_n 0), (49, .aload_n 0), (50, .iload 4), (52, .bipush 6), (54, .invokevirtual 158), (57, .invokevirtual 175), (60, .isub), (61, .iconst 1), (62, .iadd), (63, .iastore), (64, .aload_n 0), (65, .getfield 41), (68, .iconst 2), (69, .iload_n 1), (70, .iastore), (71, .aload_n 0), (72, .getfield 41), (75, .iconst 3), (76, .aload_n 0), (77, .iload 4), (79, .iconst 2), (80, .invokevirtual 158), (83, .iload_n 1), (84, .if_icmp .ne 7), (87, .iconst 1), (88, .goto 4), (91, .iconst 0), (92, .iastore), (93, .aload_n 0), (94, .getfield 41), (97, .iconst 4), (98, .aload_n 0), (99, .iload_n 1), (100, .iload_n 2), (101, .iload_n 3), (102, .iload 4), (104, .invokevirtual 215), (107, .ifCond .eq 7), (110, .iconst 1), (111, .goto 4), (114, .iconst 0), (115, .iastore), (116, .aload_n 0), (117, .getfield 41), (120, .iconst 5), (121, .iload_n 3), (122, .iastore), (123, .aload_n 0), (124, .invokevirtual 219), (127, .ireturn)], ([(92, [true, true, true, true, true]), (115, [true, false, false, true, false])], zp_9)))
def mc9_begins : zv_M := ((RX9, (⟨RX9, "begins", "(IIIIZ)V"⟩, (prog_11_method_35_code, (7, none)))), ([(0, .iconst 0), (1, .istore 6), (3, .iload 6), (5, .bipush 76), (7, .if_icmp .ge 17), (10, .aload_n 0), (11, .iload_n 1), (12, .iload 6), (14, .iconst 0), (15, .invokevirtual 150), (18, .iinc 6 1), (21, .goto (-18)), (24, .aload_n 0), (25, .iload_n 1), (26, .iconst 0), (27, .iconst 1), (28, .invokevirtual 150), (31, .aload_n 0), (32, .iload_n 1), (33, .iconst 1), (34, .aload_n 0), (35, .invokevirtual 199), (38, .invokevirtual 150), (41, .aload_n 0), (42, .iload_n 1), (43, .iconst 2), (44, .iload_n 2), (45, .invokevirtual 150), (48, .aload_n 0), (49, .iload_n 1), (50, .iconst 3), (51, .aload_n 0), (52, .getfield 7), (55, .iconst 1), (56, .iaload), (57, .invokevirtual 150), (60, .aload_n 0), (61, .iload_n 1), (62, .iconst 4), (63, .iload_n 3), (64, .invokevirtual 150), (67, .aload_n 0), (68, .iload_n 1), (69, .iconst 5), (70, .iload 4), (72, .invokevirtual 150), (75, .aload_n 0), (76, .iload_n 1), (77, .bipush 6), (79, .iload 5), (81, .ifCond .eq 16), (84, .aload_n 0), (85, .aload_n 0), (86, .invokevirtual 199), (89, .bipush 6), (91, .invokevirtual 158), (94, .goto 4), (97, .iload_n 1), (98, .invokevirtual 150), (101, .aload_n 0), (102, .iload_n 1), (103, .bipush 8), (105, .iconst (-1)), (106, .invokevirtual 150), (109, .return_)], ([(3, [true, true, true, true, true, true, true]), (98, [true, true, false, false, false, false, false])], zp_9)))
def mc9_packed : zv_M := ((RX9, (⟨RX9, "packed", "([II)I"⟩, (prog_11_method_36_code, (4, (some .int))))), ([(0, .iconst 0), (1, .istore_n 2), (2, .iconst 0), (3, .istore_n 3), (4, .iload_n 3), (5, .iload_n 1), (6, .if_icmp .ge 20), (9, .bipush 32), (11, .iload_n 2), (12, .imul), (13, .aload_n 0), (14, .iload_n 3), (15, .iaload), (16, .iadd), (17, .iconst 1), (18, .iadd), (19, .istore_n 2), (20, .iinc 3 1), (23, .goto (-19)), (26, .iload_n 2), (27, .ireturn)], ([(4, [true, true, true, true])], zp_9)))
def mc9_nameAt : zv_M := ((RX9, (⟨RX9, "nameAt", "(I)I"⟩, (prog_11_method_37_code, (3, (some .int))))), ([(0, .iconst 0), (1, .istore_n 2), (2, .iload_n 2), (3, .aload_n 0), (4, .getfield 7), (7, .iconst 3), (8, .iaload), (9, .if_icmp .ge 27), (12, .aload_n 0), (13, .getfield 7), (16, .sipush 408), (19, .iconst 2), (20, .iload_n 2), (21, .imul), (22, .iadd), (23, .iaload), (24, .iload_n 1), (25, .if_icmp .ne 5), (28, .iload_n 2), (29, .ireturn), (30, .iinc 2 1), (33, .goto (-31)), (36, .iconst (-1)), (37, .ireturn)], ([(2, [true, true, true])], zp_9)))
def mc9_type : zv_M := ((RX9, (⟨RX9, "type", "(II)I"⟩, (prog_11_method_38_code, (7, (some .int))))), ([(0, .aload_n 0), (1, .iconst 0), (2, .putfield 144), (5, .iconst 0), (6, .istore_n 3), (7, .iconst 1), (8, .istore 4), (10, .iconst 0), (11, .istore 5), (13, .iload 5), (15, .bipush 12), (17, .if_icmp .ge 83), (20, .iload 4), (22, .ifCond .eq 78), (25, .iload 5), (27, .bipush 6), (29, .if_icmp .ge 7), (32, .iload_n 1), (33, .goto 4), (36, .iload_n 2), (37, .iconst 5), (38, .iload 5), (40, .bipush 6), (42, .irem), (43, .imul), (44, .iushr), (45, .bipush 31), (47, .iand), (48, .istore 6), (50, .iload 6), (52, .bipush 26), (54, .if_icmp .le 5), (57, .iconst (-1)), (58, .ireturn), (59, .iload 6), (61, .ifCond .le 7), (64, .iconst 1), (65, .goto 4), (68, .iconst 0), (69, .istore 4), (71, .aload_n 0), (72, .getfield 47), (75, .iload_n 3), (76, .iload 6), (78, .iconst 1), (79, .isub), (80, .iastore), (81, .iload_n 3), (82, .iload 4), (84, .ifCond .eq 7), (87, .iconst 1), (88, .goto 4), (91, .iconst 0), (92, .iadd), (93, .istore_n 3), (94, .iinc 5 1), (97, .goto (-84)), (100, .iconst 0), (101, .istore 5), (103, .iload 5), (105, .iload_n 3), (106, .if_icmp .ge 23), (109, .aload_n 0), (110, .getfield 50), (113, .iload 5), (115, .aload_n 0), (116, .getfield 47), (119, .iload 5), (121, .iaload), (122, .iastore), (123, .iinc 5 1), (126, .goto (-23)), (129, .aload_n 0), (130, .iload_n 3), (131, .putfield 223), (134, .iload_n 3), (135, .ireturn)], ([(13, [true, true, true, true, true, true, false]), (37, [true, true, true, true, false, true, false]), (69, [true, true, true, true, false, true, true]), (103, [true, false, false, true, false, true, false])], zp_9)))
def mc9_hand : zv_M := ((RX9, (⟨RX9, "hand", "()V"⟩, (prog_11_method_39_code, (2, none)))), ([(0, .iconst 0), (1, .istore_n 1), (2, .iload_n 1), (3, .aload_n 0), (4, .getfield 223), (7, .if_icmp .ge 21), (10, .aload_n 0), (11, .getfield 47), (14, .iload_n 1), (15, .aload_n 0), (16, .getfield 50), (19, .iload_n 1), (20, .iaload), (21, .iastore), (22, .iinc 1 1), (25, .goto (-23)), (28, .aload_n 0), (29, .aload_n 0), (30, .getfield 223), (33, .putfield 226), (36, .return_)], ([(2, [true, true])], zp_9)))
def mc9_putNow : zv_M := ((RX9, (⟨RX9, "putNow", "(I)I"⟩, (prog_11_method_40_code, (6, (some .int))))), ([(0, .aload_n 0), (1, .aload_n 0), (2, .invokevirtual 199), (5, .invokevirtual 229), (8, .istore_n 2), (9, .iload_n 1), (10, .iconst 0), (11, .iload_n 2), (12, .invokestatic 154), (15, .ifCond .eq 10), (18, .aload_n 0), (19, .getfield 226), (22, .ifCond .ne 9), (25, .aload_n 0), (26, .iconst 1), (27, .invokevirtual 232), (30, .ireturn), (31, .aload_n 0), (32, .invokevirtual 235), (35, .bipush 48), (37, .if_icmp .ne 9), (40, .aload_n 0), (41, .iconst 3), (42, .invokevirtual 232), (45, .ireturn), (46, .iload_n 2), (47, .aload_n 0), (48, .getfield 226), (51, .iadd), (52, .bipush 120), (54, .if_icmp .le 10), (57, .aload_n 0), (58, .bipush 6), (60, .invokevirtual 232), (63, .ireturn), (64, .aload_n 0), (65, .invokevirtual 238), (68, .istore_n 3), (69, .iload_n 1), (70, .ifCond .ne 7), (73, .iconst (-1)), (74, .goto 10), (77, .aload_n 0), (78, .iload_n 1), (79, .iconst 1), (80, .isub), (81, .invokevirtual 241), (84, .istore 4), (86, .aload_n 0), (87, .iload_n 3), (88, .iconst 0), (89, .iload_n 1), (90, .aload_n 0), (91, .getfield 226), (94, .aload_n 0), (95, .iconst 0), (96, .iload_n 1), (97, .aload_n 0), (98, .getfield 226), (101, .invokevirtual 244), (104, .invokevirtual 247), (107, .iconst 0), (108, .istore 5), (110, .iload 5), (112, .aload_n 0), (113, .getfield 226), (116, .if_icmp .ge 26), (119, .aload_n 0), (120, .iload_n 3), (121, .bipush 12), (123, .iload 5), (125, .iadd), (126, .aload_n 0), (127, .getfield 47), (130, .iload 5), (132, .iaload), (133, .invokevirtual 150), (136, .iinc 5 1), (139, .goto (-29)), (142, .iload 4), (144, .ifCond .lt 31), (147, .aload_n 0), (148, .iload_n 3), (149, .bipush 8), (151, .aload_n 0), (152, .getfield 22), (155, .iload 4), (157, .iaload), (158, .invokevirtual 150), (161, .aload_n 0), (162, .iload_n 3), (163, .bipush 9), (165, .aload_n 0), (166, .getfield 25), (169, .iload 4), (171, .iaload), (172, .invokevirtual 150), (175, .aload_n 0), (176, .iload_n 3), (177, .invokevirtual 251), (180, .iload_n 3), (181, .ireturn)], ([(25, [true, false, false, false, false, false]), (84, [true, true, false, true, false, false]), (110, [true, false, false, true, true, true]), (175, [true, false, false, true, false, false])], zp_9)))
def mc9_cutNow : zv_M := ((RX9, (⟨RX9, "cutNow", "(II)I"⟩, (prog_11_method_41_code, (6, (some .int))))), ([(0, .iload_n 2), (1, .iconst 1), (2, .bipush 12), (4, .invokestatic 154), (7, .ifCond .eq 7), (10, .iload_n 1), (11, .ifCond .ge 9), (14, .aload_n 0), (15, .iconst 1), (16, .invokevirtual 232), (19, .ireturn), (20, .iload_n 2), (21, .aload_n 0), (22, .aload_n 0), (23, .invokevirtual 199), (26, .invokevirtual 229), (29, .iload_n 1), (30, .isub), (31, .if_icmp .le 9), (34, .aload_n 0), (35, .iconst 5), (36, .invokevirtual 232), (39, .ireturn), (40, .aload_n 0), (41, .invokevirtual 235), (44, .bipush 48), (46, .if_icmp .ne 9), (49, .aload_n 0), (50, .iconst 3), (51, .invokevirtual 232), (54, .ireturn), (55, .aload_n 0), (56, .invokevirtual 238), (59, .istore_n 3), (60, .aload_n 0), (61, .iload_n 3), (62, .iconst 1), (63, .iload_n 1), (64, .iload_n 2), (65, .aload_n 0), (66, .iconst 1), (67, .iload_n 1), (68, .iload_n 2), (69, .invokevirtual 244), (72, .invokevirtual 247), (75, .iconst 0), (76, .istore 4), (78, .iload 4), (80, .iload_n 2), (81, .if_icmp .ge 59), (84, .aload_n 0), (85, .iload_n 1), (86, .iload 4), (88, .iadd), (89, .invokevirtual 241), (92, .istore 5), (94, .aload_n 0), (95, .iload_n 3), (96, .bipush 52), (98, .iconst 2), (99, .iload 4), (101, .imul), (102, .iadd), (103, .aload_n 0), (104, .getfield 22), (107, .iload 5), (109, .iaload), (110, .invokevirtual 150), (113, .aload_n 0), (114, .iload_n 3), (115, .bipush 52), (117, .iconst 2), (118, .iload 4), (120, .imul), (121, .iadd), (122, .iconst 1), (123, .iadd), (124, .aload_n 0), (125, .getfield 25), (128, .iload 5), (130, .iaload), (131, .invokevirtual 150), (134, .iinc 4 1), (137, .goto (-59)), (140, .aload_n 0), (141, .iload_n 3), (142, .invokevirtual 251), (145, .iload_n 3), (146, .ireturn)], ([(14, [true, false, false, false, false, false]), (78, [true, true, true, true, true, false])], zp_9)))
def mc9_plain : zv_M := ((RX9, (⟨RX9, "plain", "()V"⟩, (prog_11_method_42_code, (2, none)))), ([(0, .iconst 0), (1, .istore_n 1), (2, .iload_n 1), (3, .bipush 48), (5, .if_icmp .ge 16), (8, .aload_n 0), (9, .getfield 53), (12, .iload_n 1), (13, .iload_n 1), (14, .iastore), (15, .iinc 1 1), (18, .goto (-16)), (21, .return_)], ([(2, [true, true])], zp_9)))
def mc9_carries : zv_M := ((RX9, (⟨RX9, "carries", "(I)I"⟩, (prog_11_method_43_code, (5, (some .int))))), ([(0, .aload_n 0), (1, .iload_n 1), (2, .iconst 2), (3, .invokevirtual 158), (6, .iconst 1), (7, .if_icmp .ne 9), (10, .aload_n 0), (11, .iload_n 1), (12, .invokevirtual 254), (15, .ireturn), (16, .iconst 0), (17, .istore_n 2), (18, .aload_n 0), (19, .aload_n 0), (20, .invokevirtual 199), (23, .invokevirtual 193), (26, .aload_n 0), (27, .iload_n 1), (28, .bipush 8), (30, .invokevirtual 158), (33, .ifCond .lt 71), (36, .aload_n 0), (37, .aload_n 0), (38, .getfield 53), (41, .aload_n 0), (42, .iload_n 1), (43, .bipush 8), (45, .invokevirtual 158), (48, .iaload), (49, .aload_n 0), (50, .iload_n 1), (51, .bipush 9), (53, .invokevirtual 158), (56, .invokevirtual 165), (59, .istore_n 3), (60, .iload_n 3), (61, .ifCond .ge 10), (64, .aload_n 0), (65, .bipush 10), (67, .invokevirtual 232), (70, .ireturn), (71, .iconst 0), (72, .istore 4), (74, .iload 4), (76, .iload_n 3), (77, .if_icmp .gt 27), (80, .iload_n 2), (81, .aload_n 0), (82, .getfield 32), (85, .iload 4), (87, .baload), (88, .ifCond .eq 7), (91, .iconst 1), (92, .goto 4), (95, .iconst 0), (96, .iadd), (97, .istore_n 2), (98, .iinc 4 1), (101, .goto (-27)), (104, .aload_n 0), (105, .aload_n 0), (106, .iload_n 1), (107, .iconst 5), (108, .invokevirtual 158), (111, .putfield 226), (114, .iconst 0), (115, .istore_n 3), (116, .iload_n 3), (117, .aload_n 0), (118, .getfield 226), (121, .if_icmp .ge 24), (124, .aload_n 0), (125, .getfield 47), (128, .iload_n 3), (129, .aload_n 0), (130, .iload_n 1), (131, .bipush 12), (133, .iload_n 3), (134, .iadd), (135, .invokevirtual 158), (138, .iastore), (139, .iinc 3 1), (142, .goto (-26)), (145, .aload_n 0), (146, .iload_n 2), (147, .invokevirtual 257), (150, .ireturn)], ([(74, [true, true, true, true, true]), (104, [true, true, true, false, false]), (116, [true, true, true, true, false])], zp_9)))
def mc9_isTaken : zv_M := ((RX9, (⟨RX9, "isTaken", "(II)Z"⟩, (prog_11_method_44_code, (4, (some .boolean))))), ([(0, .iconst 0), (1, .istore_n 3), (2, .iload_n 3), (3, .aload_n 0), (4, .iload_n 1), (5, .iconst 5), (6, .invokevirtual 158), (9, .if_icmp .ge 58), (12, .aload_n 0), (13, .getfield 53), (16, .aload_n 0), (17, .iload_n 1), (18, .bipush 52), (20, .iconst 2), (21, .iload_n 3), (22, .imul), (23, .iadd), (24, .invokevirtual 158), (27, .iaload), (28, .aload_n 0), (29, .getfield 22), (32, .iload_n 2), (33, .iaload), (34, .if_icmp .ne 27), (37, .aload_n 0), (38, .iload_n 1), (39, .bipush 52), (41, .iconst 2), (42, .iload_n 3), (43, .imul), (44, .iadd), (45, .iconst 1), (46, .iadd), (47, .invokevirtual 158), (50, .aload_n 0), (51, .getfield 25), (54, .iload_n 2), (55, .iaload), (56, .if_icmp .ne 5), (59, .iconst 1), (60, .ireturn), (61, .iinc 3 1), (64, .goto (-62)), (67, .iconst 0), (68, .ireturn)], ([(2, [true, true, true, true])], zp_9)))
def mc9_carriesCut : zv_M := ((RX9, (⟨RX9, "carriesCut", "(I)I"⟩, (prog_11_method_45_code, (6, (some .int))))), ([(0, .aload_n 0), (1, .aload_n 0), (2, .invokevirtual 199), (5, .invokevirtual 193), (8, .iconst (-1)), (9, .istore_n 2), (10, .iconst 0), (11, .istore_n 3), (12, .iconst 0), (13, .istore 4), (15, .iconst 0), (16, .istore 5), (18, .iload 5), (20, .aload_n 0), (21, .getfield 162), (24, .if_icmp .ge 68), (27, .aload_n 0), (28, .getfield 32), (31, .iload 5), (33, .baload), (34, .ifCond .ne 6), (37, .goto 49), (40, .aload_n 0), (41, .iload_n 1), (42, .iload 5), (44, .invokevirtual 260), (47, .ifCond .eq 36), (50, .iload_n 2), (51, .ifCond .lt 18), (54, .iload 4), (56, .iload_n 2), (57, .iload_n 3), (58, .iadd), (59, .if_icmp .eq 10), (62, .aload_n 0), (63, .bipush 10), (65, .invokevirtual 232), (68, .ireturn), (69, .iload_n 2), (70, .ifCond .ge 8), (73, .iload 4), (75, .goto 4), (78, .iload_n 2), (79, .istore_n 2), (80, .iinc 3 1), (83, .iinc 4 1), (86, .iinc 5 1), (89, .goto (-71)), (92, .iload_n 3), (93, .ifCond .ne 12), (96, .aload_n 0), (97, .bipush 10), (99, .invokevirtual 232), (102, .goto 9), (105, .aload_n 0), (106, .iload_n 2), (107, .iload_n 3), (108, .invokevirtual 263), (111, .ireturn)], ([(18, [true, true, true, true, true, true]), (69, [true, true, true, true, true, true])], zp_9)))
def mc9_carryNow : zv_M := ((RX9, (⟨RX9, "carryNow", "(I)I"⟩, (prog_11_method_46_code, (2, (some .int))))), ([(0, .aload_n 0), (1, .iload_n 1), (2, .invokevirtual 203), (5, .ifCond .ne 9), (8, .aload_n 0), (9, .iconst 2), (10, .invokevirtual 232), (13, .ireturn), (14, .aload_n 0), (15, .iload_n 1), (16, .aload_n 0), (17, .invokevirtual 199), (20, .invokevirtual 206), (23, .ifCond .ne 11), (26, .aload_n 0), (27, .iload_n 1), (28, .invokevirtual 179), (31, .ifCond .ne 10), (34, .aload_n 0), (35, .bipush 7), (37, .invokevirtual 232), (40, .ireturn), (41, .aload_n 0), (42, .invokevirtual 266), (45, .aload_n 0), (46, .iload_n 1), (47, .invokevirtual 269), (50, .ireturn)], ([(34, [true, false])], zp_9)))
def mc9_mergeNow : zv_M := ((RX9, (⟨RX9, "mergeNow", "(I)I"⟩, (prog_11_method_47_code, (6, (some .int))))), ([(0, .aload_n 0), (1, .iload_n 1), (2, .invokevirtual 203), (5, .ifCond .ne 9), (8, .aload_n 0), (9, .iconst 2), (10, .invokevirtual 232), (13, .ireturn), (14, .aload_n 0), (15, .iload_n 1), (16, .aload_n 0), (17, .invokevirtual 199), (20, .invokevirtual 206), (23, .ifCond .eq 9), (26, .aload_n 0), (27, .iconst 4), (28, .invokevirtual 232), (31, .ireturn), (32, .aload_n 0), (33, .iload_n 1), (34, .invokevirtual 193), (37, .aload_n 0), (38, .getfield 168), (41, .istore_n 2), (42, .iconst 0), (43, .istore_n 3), (44, .iload_n 3), (45, .iload_n 2), (46, .if_icmp .ge 76), (49, .aload_n 0), (50, .getfield 56), (53, .iload_n 3), (54, .aload_n 0), (55, .getfield 19), (58, .iload_n 3), (59, .iaload), (60, .iastore), (61, .aload_n 0), (62, .getfield 59), (65, .iload_n 3), (66, .aload_n 0), (67, .aload_n 0), (68, .getfield 19), (71, .iload_n 3), (72, .iaload), (73, .invokevirtual 179), (76, .ifCond .eq 38), (79, .aload_n 0), (80, .getfield 28), (83, .aload_n 0), (84, .getfield 19), (87, .iload_n 3), (88, .iaload), (89, .baload), (90, .ifCond .eq 24), (93, .aload_n 0), (94, .aload_n 0), (95, .getfield 19), (98, .iload_n 3), (99, .iaload), (100, .aload_n 0), (101, .invokevirtual 199), (104, .invokevirtual 206), (107, .ifCond .ne 7), (110, .iconst 1), (111, .goto 4), (114, .iconst 0), (115, .bastore), (116, .iinc 3 1), (119, .goto (-75)), (122, .aload_n 0), (123, .invokevirtual 266), (126, .iconst 0), (127, .istore_n 3), (128, .aload_n 0), (129, .iconst 0), (130, .putfield 272), (133, .iconst 1), (134, .istore 4), (136, .iload 4), (138, .iload_n 2), (139, .if_icmp .ge 86), (142, .aload_n 0), (143, .getfield 59), (146, .iload 4), (148, .baload), (149, .ifCond .ne 6), (152, .goto 67), (155, .aload_n 0), (156, .aload_n 0), (157, .getfield 56), (160, .iload 4), (162, .iaload), (163, .invokevirtual 269), (166, .istore 5), (168, .iload 5), (170, .ifCond .lt 17), (173, .aload_n 0), (174, .getfield 53), (177, .aload_n 0), (178, .getfield 56), (181, .iload 4), (183, .iaload), (184, .iload 5), (186, .iastore), (187, .iload_n 3), (188, .iload 5), (190, .ifCond .lt 7), (193, .iconst 1), (194, .goto 4), (197, .iconst 0), (198, .iadd), (199, .istore_n 3), (200, .aload_n 0), (201, .dup), (202, .getfield 272), (205, .iload 5), (207, .ifCond .lt 7), (210, .iconst 0), (211, .goto 4), (214, .iconst 1), (215, .iadd), (216, .putfield 272), (219, .iinc 4 1), (222, .goto (-86)), (225, .aload_n 0), (226, .iconst 0), (227, .putfield 147), (230, .iload_n 3), (231, .ireturn)], ([(44, [true, false, true, true, false, false]), (136, [true, false, true, true, true, false]), (187, [true, false, true, true, true, true]), (198, [true, false, true, false, true, true])], zp_9)))
def mc9_undoNow : zv_M := ((RX9, (⟨RX9, "undoNow", "()I"⟩, (prog_11_method_48_code, (1, (some .int))))), ([(0, .aload_n 0), (1, .invokevirtual 199), (4, .ifCond .ne 9), (7, .aload_n 0), (8, .iconst 5), (9, .invokevirtual 232), (12, .ireturn), (13, .aload_n 0), (14, .aload_n 0), (15, .aload_n 0), (16, .aload_n 0), (17, .invokevirtual 199), (20, .bipush 6), (22, .invokevirtual 158), (25, .iconst 1), (26, .invokevirtual 158), (29, .invokevirtual 251), (32, .aload_n 0), (33, .invokevirtual 199), (36, .ireturn)], ([], zp_9)))
def mc9_redoNow : zv_M := ((RX9, (⟨RX9, "redoNow", "()I"⟩, (prog_11_method_49_code, (4, (some .int))))), ([(0, .aload_n 0), (1, .aload_n 0), (2, .invokevirtual 199), (5, .iconst 0), (6, .invokevirtual 275), (9, .istore_n 1), (10, .iload_n 1), (11, .ifCond .ge 9), (14, .aload_n 0), (15, .iconst 5), (16, .invokevirtual 232), (19, .ireturn), (20, .aload_n 0), (21, .iload_n 1), (22, .bipush 6), (24, .invokevirtual 158), (27, .istore_n 2), (28, .aload_n 0), (29, .iload_n 1), (30, .iconst 0), (31, .invokevirtual 275), (34, .istore_n 3), (35, .iload_n 3), (36, .ifCond .lt 26), (39, .aload_n 0), (40, .iload_n 3), (41, .bipush 6), (43, .invokevirtual 158), (46, .iload_n 2), (47, .if_icmp .ne 15), (50, .iload_n 3), (51, .istore_n 1), (52, .aload_n 0), (53, .iload_n 1), (54, .iconst 0), (55, .invokevirtual 275), (58, .istore_n 3), (59, .goto (-24)), (62, .aload_n 0), (63, .iload_n 1), (64, .invokevirtual 251), (67, .iload_n 1), (68, .ireturn)], ([(35, [true, true, true, true]), (62, [true, true, false, false])], zp_9)))
def mc9_commonOf : zv_M := ((RX9, (⟨RX9, "commonOf", "(II)I"⟩, (prog_11_method_50_code, (4, (some .int))))), ([(0, .iload_n 1), (1, .istore_n 3), (2, .aload_n 0), (3, .iload_n 3), (4, .iload_n 2), (5, .invokevirtual 206), (8, .ifCond .ne 13), (11, .aload_n 0), (12, .iload_n 3), (13, .iconst 1), (14, .invokevirtual 158), (17, .istore_n 3), (18, .goto (-16)), (21, .iload_n 3), (22, .ireturn)], ([(2, [true, false, true, true])], zp_9)))
def mc9_wayMany : zv_M := ((RX9, (⟨RX9, "wayMany", "(II)I"⟩, (prog_11_method_51_code, (3, (some .int))))), ([(0, .aload_n 0), (1, .iload_n 1), (2, .invokevirtual 175), (5, .aload_n 0), (6, .iload_n 2), (7, .invokevirtual 175), (10, .iadd), (11, .iconst 2), (12, .aload_n 0), (13, .aload_n 0), (14, .iload_n 1), (15, .iload_n 2), (16, .invokevirtual 278), (19, .invokevirtual 175), (22, .imul), (23, .isub), (24, .ireturn)], ([], zp_9)))
def mc9_goNow : zv_M := ((RX9, (⟨RX9, "goNow", "(I)I"⟩, (prog_11_method_52_code, (3, (some .int))))), ([(0, .aload_n 0), (1, .iload_n 1), (2, .invokevirtual 203), (5, .ifCond .ne 9), (8, .aload_n 0), (9, .iconst 2), (10, .invokevirtual 232), (13, .ireturn), (14, .iload_n 1), (15, .aload_n 0), (16, .invokevirtual 199), (19, .if_icmp .ne 9), (22, .aload_n 0), (23, .iconst 4), (24, .invokevirtual 232), (27, .ireturn), (28, .aload_n 0), (29, .aload_n 0), (30, .invokevirtual 199), (33, .iload_n 1), (34, .invokevirtual 281), (37, .istore_n 2), (38, .aload_n 0), (39, .iload_n 1), (40, .invokevirtual 251), (43, .iload_n 2), (44, .ireturn)], ([], zp_9)))
def mc9_nameNow : zv_M := ((RX9, (⟨RX9, "nameNow", "()I"⟩, (prog_11_method_53_code, (3, (some .int))))), ([(0, .aload_n 0), (1, .getfield 226), (4, .iconst 1), (5, .bipush 6), (7, .invokestatic 154), (10, .ifCond .ne 9), (13, .aload_n 0), (14, .iconst 1), (15, .invokevirtual 232), (18, .ireturn), (19, .aload_n 0), (20, .getfield 47), (23, .aload_n 0), (24, .getfield 226), (27, .invokestatic 284), (30, .istore_n 1), (31, .aload_n 0), (32, .iload_n 1), (33, .invokevirtual 288), (36, .istore_n 2), (37, .iload_n 2), (38, .ifCond .ge 20), (41, .aload_n 0), (42, .getfield 7), (45, .iconst 3), (46, .iaload), (47, .bipush 12), (49, .if_icmp .ne 9), (52, .aload_n 0), (53, .iconst 3), (54, .invokevirtual 232), (57, .ireturn), (58, .iload_n 2), (59, .ifCond .lt 30), (62, .aload_n 0), (63, .getfield 7), (66, .sipush 408), (69, .iconst 2), (70, .iload_n 2), (71, .imul), (72, .iadd), (73, .iconst 1), (74, .iadd), (75, .iaload), (76, .aload_n 0), (77, .invokevirtual 199), (80, .if_icmp .ne 9), (83, .aload_n 0), (84, .iconst 4), (85, .invokevirtual 232), (88, .ireturn), (89, .iload_n 2), (90, .ifCond .ge 20), (93, .aload_n 0), (94, .getfield 7), (97, .iconst 3), (98, .iaload), (99, .istore_n 2), (100, .aload_n 0), (101, .getfield 7), (104, .iconst 3), (105, .dup2), (106, .iaload), (107, .iconst 1), (108, .iadd), (109, .iastore), (110, .aload_n 0), (111, .getfield 7), (114, .sipush 408), (117, .iconst 2), (118, .iload_n 2), (119, .imul), (120, .iadd), (121, .iload_n 1), (122, .iastore), (123, .aload_n 0), (124, .getfield 7), (127, .sipush 408), (130, .iconst 2), (131, .iload_n 2), (132, .imul), (133, .iadd), (134, .iconst 1), (135, .iadd), (136, .aload_n 0), (137, .invokevirtual 199), (140, .iastore), (141, .aload_n 0), (142, .getfield 7), (145, .iconst 3), (146, .iaload), (147, .ireturn)], ([(58, [true, true, true]), (89, [true, true, true]), (110, [true, true, true])], zp_9)))
def mc9_leansOn : zv_M := ((RX9, (⟨RX9, "leansOn", "(II)Z"⟩, (prog_11_method_54_code, (4, (some .boolean))))), ([(0, .aload_n 0), (1, .iload_n 1), (2, .iconst 2), (3, .invokevirtual 158), (6, .ifCond .ne 20), (9, .aload_n 0), (10, .iload_n 1), (11, .bipush 8), (13, .invokevirtual 158), (16, .iload_n 2), (17, .if_icmp .ne 7), (20, .iconst 1), (21, .goto 4), (24, .iconst 0), (25, .ireturn), (26, .iconst 0), (27, .istore_n 3), (28, .iload_n 3), (29, .aload_n 0), (30, .iload_n 1), (31, .iconst 5), (32, .invokevirtual 158), (35, .if_icmp .ge 26), (38, .aload_n 0), (39, .iload_n 1), (40, .bipush 52), (42, .iconst 2), (43, .iload_n 3), (44, .imul), (45, .iadd), (46, .invokevirtual 158), (49, .iload_n 2), (50, .if_icmp .ne 5), (53, .iconst 1), (54, .ireturn), (55, .iinc 3 1), (58, .goto (-30)), (61, .iconst 0), (62, .ireturn)], ([(28, [true, true, true, true])], zp_9)))
def mc9_marks : zv_M := ((RX9, (⟨RX9, "marks", "(IZ)V"⟩, (prog_11_method_55_code, (7, none)))), ([(0, .aload_n 0), (1, .aload_n 0), (2, .invokevirtual 199), (5, .invokevirtual 193), (8, .iconst 0), (9, .istore_n 3), (10, .iload_n 3), (11, .bipush 48), (13, .if_icmp .ge 25), (16, .aload_n 0), (17, .getfield 62), (20, .iload_n 3), (21, .iload_n 3), (22, .iload_n 1), (23, .if_icmp .ne 7), (26, .iconst 1), (27, .goto 4), (30, .iconst 0), (31, .bastore), (32, .iinc 3 1), (35, .goto (-25)), (38, .iconst 1), (39, .istore_n 3), (40, .iload_n 3), (41, .aload_n 0), (42, .getfield 168), (45, .if_icmp .ge 154), (48, .aload_n 0), (49, .getfield 19), (52, .iload_n 2), (53, .ifCond .eq 12), (56, .aload_n 0), (57, .getfield 168), (60, .iload_n 3), (61, .isub), (62, .goto 4), (65, .iload_n 3), (66, .iaload), (67, .istore 4), (69, .iconst 1), (70, .istore 5), (72, .iload 5), (74, .aload_n 0), (75, .getfield 168), (78, .if_icmp .ge 115), (81, .aload_n 0), (82, .iload 4), (84, .invokevirtual 179), (87, .ifCond .eq 106), (90, .aload_n 0), (91, .getfield 62), (94, .iload 4), (96, .baload), (97, .ifCond .ne 96), (100, .aload_n 0), (101, .getfield 19), (104, .iload 5), (106, .iaload), (107, .istore 6), (109, .aload_n 0), (110, .getfield 62), (113, .iload 6), (115, .baload), (116, .ifCond .eq 71), (119, .aload_n 0), (120, .iload 6), (122, .invokevirtual 179), (125, .ifCond .eq 62), (128, .iload_n 2), (129, .ifCond .eq 28), (132, .aload_n 0), (133, .iload 4), (135, .iload 6), (137, .invokevirtual 206), (140, .ifCond .eq 47), (143, .aload_n 0), (144, .iload 6), (146, .iload 4), (148, .invokevirtual 291), (151, .ifCond .eq 36), (154, .goto 25), (157, .aload_n 0), (158, .iload 6), (160, .iload 4), (162, .invokevirtual 206), (165, .ifCond .eq 22), (168, .aload_n 0), (169, .iload 4), (171, .iload 6), (173, .invokevirtual 291), (176, .ifCond .eq 11), (179, .aload_n 0), (180, .getfield 62), (183, .iload 4), (185, .iconst 1), (186, .bastore), (187, .iinc 5 1), (190, .goto (-118)), (193, .iinc 3 1), (196, .goto (-156)), (199, .return_)], ([(10, [true, true, true, true, false, false, false]), (40, [true, false, true, true, false, false, false]), (72, [true, false, true, true, true, true, false])], zp_9)))
def mc9_triesNames : zv_M := ((RX9, (⟨RX9, "triesNames", "(I)I"⟩, (prog_11_method_56_code, (4, (some .int))))), ([(0, .aload_n 0), (1, .aload_n 0), (2, .invokevirtual 199), (5, .invokevirtual 193), (8, .aload_n 0), (9, .bipush 48), (11, .iload_n 1), (12, .iconst (-1)), (13, .iconst 0), (14, .iconst 0), (15, .invokevirtual 247), (18, .iconst 0), (19, .istore_n 2), (20, .iconst 1), (21, .istore_n 3), (22, .iload_n 3), (23, .aload_n 0), (24, .getfield 168), (27, .if_icmp .ge 65), (30, .aload_n 0), (31, .getfield 62), (34, .aload_n 0), (35, .getfield 19), (38, .iload_n 3), (39, .iaload), (40, .baload), (41, .ifCond .eq 45), (44, .aload_n 0), (45, .getfield 28), (48, .aload_n 0), (49, .getfield 19), (52, .iload_n 3), (53, .iaload), (54, .baload), (55, .iload_n 1), (56, .iconst 2), (57, .if_icmp .ne 7), (60, .iconst 1), (61, .goto 4), (64, .iconst 0), (65, .if_icmp .eq 6), (68, .goto 18), (71, .aload_n 0), (72, .bipush 48), (74, .aload_n 0), (75, .getfield 19), (78, .iload_n 3), (79, .iaload), (80, .invokevirtual 294), (83, .iinc 2 1), (86, .iinc 3 1), (89, .goto (-67)), (92, .iload_n 2), (93, .ireturn)], ([(22, [true, true, true, true]), (65, [true, true, true, true])], zp_9)))
def mc9_turnNow : zv_M := ((RX9, (⟨RX9, "turnNow", "(II)I"⟩, (prog_11_method_57_code, (5, (some .int))))), ([(0, .aload_n 0), (1, .iload_n 1), (2, .invokevirtual 203), (5, .ifCond .ne 9), (8, .aload_n 0), (9, .iconst 2), (10, .invokevirtual 232), (13, .ireturn), (14, .aload_n 0), (15, .iload_n 1), (16, .aload_n 0), (17, .invokevirtual 199), (20, .invokevirtual 206), (23, .ifCond .eq 11), (26, .aload_n 0), (27, .iload_n 1), (28, .invokevirtual 179), (31, .ifCond .ne 10), (34, .aload_n 0), (35, .bipush 7), (37, .invokevirtual 232), (40, .ireturn), (41, .aload_n 0), (42, .aload_n 0), (43, .invokevirtual 199), (46, .invokevirtual 193), (49, .aload_n 0), (50, .getfield 28), (53, .iload_n 1), (54, .baload), (55, .iload_n 2), (56, .iconst 2), (57, .if_icmp .ne 7), (60, .iconst 1), (61, .goto 4), (64, .iconst 0), (65, .if_icmp .eq 9), (68, .aload_n 0), (69, .iconst 4), (70, .invokevirtual 232), (73, .ireturn), (74, .aload_n 0), (75, .invokevirtual 235), (78, .bipush 48), (80, .if_icmp .ne 9), (83, .aload_n 0), (84, .iconst 3), (85, .invokevirtual 232), (88, .ireturn), (89, .aload_n 0), (90, .iload_n 1), (91, .iload_n 2), (92, .iconst 3), (93, .if_icmp .ne 7), (96, .iconst 1), (97, .goto 4), (100, .iconst 0), (101, .invokevirtual 298), (104, .aload_n 0), (105, .iload_n 2), (106, .invokevirtual 302), (109, .istore_n 3), (110, .aload_n 0), (111, .bipush 48), (113, .invokevirtual 229), (116, .bipush 120), (118, .if_icmp .le 10), (121, .aload_n 0), (122, .bipush 6), (124, .invokevirtual 232), (127, .ireturn), (128, .aload_n 0), (129, .invokevirtual 238), (132, .istore 4), (134, .aload_n 0), (135, .iload 4), (137, .iload_n 2), (138, .iconst (-1)), (139, .iload_n 3), (140, .iconst 0), (141, .invokevirtual 247), (144, .aload_n 0), (145, .iload 4), (147, .bipush 10), (149, .aload_n 0), (150, .bipush 48), (152, .bipush 10), (154, .invokevirtual 158), (157, .invokevirtual 150), (160, .aload_n 0), (161, .iload 4), (163, .bipush 11), (165, .aload_n 0), (166, .bipush 48), (168, .bipush 11), (170, .invokevirtual 158), (173, .invokevirtual 150), (176, .aload_n 0), (177, .iload 4), (179, .invokevirtual 251), (182, .iload 4), (184, .ireturn)], ([(34, [true, false, false, false, false]), (65, [true, true, true, false, false]), (101, [true, false, true, false, false])], zp_9)))
def mc9_lays : zv_M := ((RX9, (⟨RX9, "lays", "(I)V"⟩, (prog_11_method_58_code, (3, none)))), ([(0, .bipush 24), (2, .istore_n 2), (3, .iload_n 2), (4, .ifCond .lt 32), (7, .aload_n 0), (8, .getfield 65), (11, .aload_n 0), (12, .getfield 305), (15, .iload_n 1), (16, .iload_n 2), (17, .ishr), (18, .i2b), (19, .bastore), (20, .aload_n 0), (21, .dup), (22, .getfield 305), (25, .iconst 1), (26, .iadd), (27, .putfield 305), (30, .iinc 2 (-8)), (33, .goto (-30)), (36, .return_)], ([(3, [true, true, true])], zp_9)))
def mc9_feed : zv_M := ((RX9, (⟨RX9, "feed", "(IIIII)I"⟩, (prog_11_method_59_code, (6, (some .int))))), ([(0, .aload_n 0), (1, .iconst 0), (2, .putfield 144), (5, .aload_n 0), (6, .getfield 305), (9, .bipush 20), (11, .iadd), (12, .sipush 700), (15, .if_icmp .le 5), (18, .iconst (-1)), (19, .ireturn), (20, .aload_n 0), (21, .iload_n 1), (22, .invokevirtual 308), (25, .aload_n 0), (26, .iload_n 2), (27, .invokevirtual 308), (30, .aload_n 0), (31, .iload_n 3), (32, .invokevirtual 308), (35, .aload_n 0), (36, .iload 4), (38, .invokevirtual 308), (41, .aload_n 0), (42, .iload 5), (44, .invokevirtual 308), (47, .aload_n 0), (48, .getfield 305), (51, .ireturn)], ([], zp_9)))
def mc9_isOf : zv_M := ((RX9, (⟨RX9, "isOf", "(III)Z"⟩, (prog_11_method_60_code, (4, (some .boolean))))), ([(0, .iload_n 1), (1, .aload_n 0), (2, .getfield 311), (5, .if_icmp .ge 21), (8, .aload_n 0), (9, .getfield 65), (12, .iload_n 1), (13, .baload), (14, .iload_n 2), (15, .iload_n 3), (16, .invokestatic 154), (19, .ifCond .eq 7), (22, .iconst 1), (23, .goto 4), (26, .iconst 0), (27, .ireturn)], ([], zp_9)))
def mc9_reads : zv_M := ((RX9, (⟨RX9, "reads", "()V"⟩, (prog_11_method_61_code, (1, none)))), ([(0, .aload_n 0), (1, .aload_n 0), (2, .getfield 314), (5, .putfield 317), (8, .aload_n 0), (9, .getfield 317), (12, .aload_n 0), (13, .getfield 311), (16, .if_icmp .ge 44), (19, .aload_n 0), (20, .getfield 65), (23, .aload_n 0), (24, .getfield 317), (27, .baload), (28, .bipush 10), (30, .if_icmp .eq 17), (33, .aload_n 0), (34, .getfield 65), (37, .aload_n 0), (38, .getfield 317), (41, .baload), (42, .bipush 32), (44, .if_icmp .ne 16), (47, .aload_n 0), (48, .dup), (49, .getfield 317), (52, .iconst 1), (53, .iadd), (54, .putfield 317), (57, .goto (-49)), (60, .aload_n 0), (61, .aload_n 0), (62, .getfield 317), (65, .iconst 1), (66, .iadd), (67, .putfield 314), (70, .aload_n 0), (71, .aload_n 0), (72, .getfield 317), (75, .aload_n 0), (76, .getfield 311), (79, .if_icmp .lt 7), (82, .iconst 0), (83, .goto 27), (86, .ldc_w 320), (89, .aload_n 0), (90, .getfield 65), (93, .aload_n 0), (94, .getfield 317), (97, .baload), (98, .i2c), (99, .invokevirtual 322), (102, .ifCond .lt 7), (105, .iconst 3), (106, .goto 4), (109, .iconst 4), (110, .putfield 327), (113, .aload_n 0), (114, .aload_n 0), (115, .getfield 317), (118, .bipush 97), (120, .bipush 122), (122, .invokevirtual 330), (125, .ifCond .eq 97), (128, .aload_n 0), (129, .iconst 1), (130, .putfield 327), (133, .aload_n 0), (134, .lconst 0), (135, .putfield 333), (138, .aload_n 0), (139, .aload_n 0), (140, .getfield 317), (143, .putfield 314), (146, .aload_n 0), (147, .aload_n 0), (148, .getfield 314), (151, .bipush 97), (153, .bipush 122), (155, .invokevirtual 330), (158, .ifCond .eq 186), (161, .aload_n 0), (162, .aload_n 0), (163, .getfield 314), (166, .aload_n 0), (167, .getfield 317), (170, .isub), (171, .bipush 9), (173, .if_icmp .ge 29), (176, .ldc2_w 337), (179, .aload_n 0), (180, .getfield 333), (183, .lmul), (184, .aload_n 0), (185, .getfield 65), (188, .aload_n 0), (189, .getfield 314), (192, .baload), (193, .i2l), (194, .ladd), (195, .ldc2_w 339), (198, .lsub), (199, .goto 7), (202, .aload_n 0), (203, .getfield 333), (206, .putfield 333), (209, .aload_n 0), (210, .dup), (211, .getfield 314), (214, .iconst 1), (215, .iadd), (216, .putfield 314), (219, .goto (-73)), (222, .aload_n 0), (223, .aload_n 0), (224, .getfield 317), (227, .bipush 48), (229, .bipush 57), (231, .invokevirtual 330), (234, .ifCond .eq 110), (237, .aload_n 0), (238, .iconst 0), (239, .putfield 341), (242, .aload_n 0), (243, .aload_n 0), (244, .getfield 317), (247, .putfield 314), (250, .aload_n 0), (251, .aload_n 0), (252, .getfield 314), (255, .bipush 48), (257, .bipush 57), (259, .invokevirtual 330), (262, .ifCond .eq 60), (265, .aload_n 0), (266, .aload_n 0), (267, .getfield 314), (270, .aload_n 0), (271, .getfield 317), (274, .isub), (275, .iconst 3), (276, .if_icmp .ge 26), (279, .bipush 10), (281, .aload_n 0), (282, .getfield 341), (285, .imul), (286, .aload_n 0), (287, .getfield 65), (290, .aload_n 0), (291, .getfield 314), (294, .baload), (295, .iadd), (296, .bipush 48), (298, .isub), (299, .goto 7), (302, .aload_n 0), (303, .getfield 341), (306, .putfield 341), (309, .aload_n 0), (310, .dup), (311, .getfield 314), (314, .iconst 1), (315, .iadd), (316, .putfield 314), (319, .goto (-69)), (322, .aload_n 0), (323, .aload_n 0), (324, .getfield 314), (327, .aload_n 0), (328, .getfield 317), (331, .isub), (332, .iconst 3), (333, .if_icmp .le 7), (336, .iconst 4), (337, .goto 4), (340, .iconst 2), (341, .putfield 327), (344, .return_)], ([(8, [true]), (60, [true]), (110, [true]), (146, [true]), (250, [true])], zp_9)))
def mc9_must : zv_M := ((RX9, (⟨RX9, "must", "(ZI)V"⟩, (prog_11_method_62_code, (3, none)))), ([(0, .iload_n 1), (1, .ifCond .ne 10), (4, .aload_n 0), (5, .getfield 344), (8, .ifCond .le 4), (11, .return_), (12, .aload_n 0), (13, .iload_n 2), (14, .iconst 2), (15, .if_icmp .ne 15), (18, .aload_n 0), (19, .getfield 327), (22, .iconst 4), (23, .if_icmp .ne 7), (26, .iconst 1), (27, .goto 4), (30, .iload_n 2), (31, .putfield 344), (34, .aload_n 0), (35, .aload_n 0), (36, .getfield 317), (39, .putfield 347), (42, .return_)], ([], zp_9)))
def mc9_which : zv_M := ((RX9, (⟨RX9, "which", "([J)I"⟩, (prog_11_method_63_code, (3, (some .int))))), ([(0, .iconst 0), (1, .istore_n 2), (2, .iload_n 2), (3, .aload_n 1), (4, .arraylength), (5, .if_icmp .ge 51), (8, .aload_n 0), (9, .getfield 327), (12, .iconst 1), (13, .if_icmp .ne 43), (16, .aload_n 0), (17, .getfield 344), (20, .ifCond .ne 36), (23, .aload_n 1), (24, .iload_n 2), (25, .laload), (26, .aload_n 0), (27, .getfield 333), (30, .lcmp), (31, .ifCond .ne 19), (34, .aload_n 0), (35, .getfield 314), (38, .aload_n 0), (39, .getfield 317), (42, .isub), (43, .bipush 8), (45, .if_icmp .gt 5), (48, .iload_n 2), (49, .ireturn), (50, .iinc 2 1), (53, .goto (-51)), (56, .iconst (-1)), (57, .ireturn)], ([(2, [true, true, true])], zp_9)))
def mc9_isSign : zv_M := ((RX9, (⟨RX9, "isSign", "(C)Z"⟩, (prog_11_method_64_code, (2, (some .boolean))))), ([(0, .aload_n 0), (1, .getfield 344), (4, .ifCond .ne 28), (7, .aload_n 0), (8, .getfield 327), (11, .iconst 3), (12, .if_icmp .ne 20), (15, .aload_n 0), (16, .getfield 65), (19, .aload_n 0), (20, .getfield 317), (23, .baload), (24, .iload_n 1), (25, .if_icmp .ne 7), (28, .iconst 1), (29, .goto 4), (32, .iconst 0), (33, .ireturn)], ([], zp_9)))
def mc9_takes : zv_M := ((RX9, (⟨RX9, "takes", "(C)V"⟩, (prog_11_method_65_code, (2, none)))), ([(0, .aload_n 0), (1, .aload_n 0), (2, .iload_n 1), (3, .invokevirtual 350), (6, .iconst 2), (7, .invokevirtual 354), (10, .aload_n 0), (11, .getfield 344), (14, .ifCond .ne 7), (17, .aload_n 0), (18, .invokevirtual 358), (21, .return_)], ([], zp_9)))
def mc9_takesNumber : zv_M := ((RX9, (⟨RX9, "takesNumber", "()I"⟩, (prog_11_method_66_code, (2, (some .int))))), ([(0, .aload_n 0), (1, .aload_n 0), (2, .getfield 327), (5, .iconst 2), (6, .if_icmp .ne 7), (9, .iconst 1), (10, .goto 4), (13, .iconst 0), (14, .iconst 2), (15, .invokevirtual 354), (18, .aload_n 0), (19, .getfield 341), (22, .istore_n 1), (23, .aload_n 0), (24, .getfield 344), (27, .ifCond .ne 7), (30, .aload_n 0), (31, .invokevirtual 358), (34, .iload_n 1), (35, .ireturn)], ([(14, [true, false])], zp_9)))
def mc9_takesWord : zv_M := ((RX9, (⟨RX9, "takesWord", "(I)V"⟩, (prog_11_method_67_code, (3, none)))), ([(0, .aload_n 0), (1, .aload_n 0), (2, .getfield 327), (5, .iconst 1), (6, .if_icmp .ne 7), (9, .iconst 1), (10, .goto 4), (13, .iconst 0), (14, .iconst 2), (15, .invokevirtual 354), (18, .aload_n 0), (19, .aload_n 0), (20, .getfield 314), (23, .aload_n 0), (24, .getfield 317), (27, .isub), (28, .iload_n 1), (29, .if_icmp .gt 7), (32, .iconst 1), (33, .goto 4), (36, .iconst 0), (37, .iconst 4), (38, .invokevirtual 354), (41, .aload_n 0), (42, .getfield 344), (45, .ifCond .le 4), (48, .return_), (49, .aload_n 0), (50, .aload_n 0), (51, .getfield 314), (54, .aload_n 0), (55, .getfield 317), (58, .isub), (59, .putfield 226), (62, .iconst 0), (63, .istore_n 2), (64, .iload_n 2), (65, .aload_n 0), (66, .getfield 226), (69, .if_icmp .ge 29), (72, .aload_n 0), (73, .getfield 47), (76, .iload_n 2), (77, .aload_n 0), (78, .getfield 65), (81, .aload_n 0), (82, .getfield 317), (85, .iload_n 2), (86, .iadd), (87, .baload), (88, .bipush 97), (90, .isub), (91, .iastore), (92, .iinc 2 1), (95, .goto (-31)), (98, .aload_n 0), (99, .invokevirtual 358), (102, .return_)], ([(14, [true, true, false]), (37, [true, false, false]), (64, [true, false, true])], zp_9)))
def mc9_emits : zv_M := ((RX9, (⟨RX9, "emits", "(I)V"⟩, (prog_11_method_68_code, (2, none)))), ([(0, .aload_n 0), (1, .getfield 344), (4, .ifCond .le 4), (7, .return_), (8, .aload_n 0), (9, .getfield 7), (12, .bipush 8), (14, .aload_n 0), (15, .getfield 7), (18, .iconst 4), (19, .iaload), (20, .iadd), (21, .iload_n 1), (22, .iastore), (23, .aload_n 0), (24, .getfield 7), (27, .iconst 4), (28, .dup2), (29, .iaload), (30, .iconst 1), (31, .iadd), (32, .iastore), (33, .return_)], ([], zp_9)))
def mc9_test : zv_M := ((RX9, (⟨RX9, "test", "()V"⟩, (prog_11_method_69_code, (1, none)))), ([(0, .aload_n 0), (1, .invokevirtual 361), (4, .aload_n 0), (5, .aload_n 0), (6, .getfield 114), (9, .invokevirtual 364), (12, .iconst 2), (13, .if_icmp .ne 20), (16, .aload_n 0), (17, .invokevirtual 358), (20, .aload_n 0), (21, .invokevirtual 361), (24, .aload_n 0), (25, .bipush (-3)), (27, .invokevirtual 368), (30, .goto (-26)), (33, .return_)], ([(4, [true])], zp_9)))
def mc9_side : zv_M := ((RX9, (⟨RX9, "side", "()V"⟩, (prog_11_method_70_code, (1, none)))), ([(0, .aload_n 0), (1, .invokevirtual 371), (4, .aload_n 0), (5, .aload_n 0), (6, .getfield 114), (9, .invokevirtual 364), (12, .iconst 3), (13, .if_icmp .ne 20), (16, .aload_n 0), (17, .invokevirtual 358), (20, .aload_n 0), (21, .invokevirtual 371), (24, .aload_n 0), (25, .bipush (-2)), (27, .invokevirtual 368), (30, .goto (-26)), (33, .return_)], ([(4, [true])], zp_9)))
def mc9_fact : zv_M := ((RX9, (⟨RX9, "fact", "()V"⟩, (prog_11_method_71_code, (5, none)))), ([(0, .aload_n 0), (1, .aload_n 0), (2, .getfield 114), (5, .invokevirtual 364), (8, .iconst 4), (9, .if_icmp .ne 7), (12, .iconst 1), (13, .goto 4), (16, .iconst 0), (17, .istore_n 1), (18, .aload_n 0), (19, .getfield 344), (22, .ifCond .ne 95), (25, .iload_n 1), (26, .ifCond .ne 12), (29, .aload_n 0), (30, .bipush 91), (32, .invokevirtual 350), (35, .ifCond .eq 82), (38, .aload_n 0), (39, .aload_n 0), (40, .getfield 374), (43, .bipush 6), (45, .if_icmp .ge 7), (48, .iconst 1), (49, .goto 4), (52, .iconst 0), (53, .bipush 6), (55, .invokevirtual 354), (58, .aload_n 0), (59, .getfield 344), (62, .ifCond .le 4), (65, .return_), (66, .aload_n 0), (67, .dup), (68, .getfield 374), (71, .iconst 1), (72, .iadd), (73, .putfield 374), (76, .aload_n 0), (77, .invokevirtual 358), (80, .iload_n 1), (81, .ifCond .eq 15), (84, .aload_n 0), (85, .invokevirtual 371), (88, .aload_n 0), (89, .iconst (-1)), (90, .invokevirtual 368), (93, .goto 13), (96, .aload_n 0), (97, .invokevirtual 377), (100, .aload_n 0), (101, .bipush 93), (103, .invokevirtual 380), (106, .aload_n 0), (107, .dup), (108, .getfield 374), (111, .iconst 1), (112, .isub), (113, .putfield 374), (116, .return_), (117, .aload_n 0), (118, .aload_n 0), (119, .getfield 129), (122, .invokevirtual 364), (125, .istore_n 2), (126, .aload_n 0), (127, .iload_n 2), (128, .ifCond .lt 7), (131, .iconst 1), (132, .goto 4), (135, .iconst 0), (136, .iconst 2), (137, .invokevirtual 354), (140, .aload_n 0), (141, .getfield 344), (144, .ifCond .le 4), (147, .return_), (148, .aload_n 0), (149, .invokevirtual 358), (152, .aload_n 0), (153, .bipush 60), (155, .invokevirtual 350), (158, .ifCond .eq 7), (161, .iconst 0), (162, .goto 30), (165, .aload_n 0), (166, .bipush 61), (168, .invokevirtual 350), (171, .ifCond .eq 7), (174, .iconst 1), (175, .goto 17), (178, .aload_n 0), (179, .bipush 62), (181, .invokevirtual 350), (184, .ifCond .eq 7), (187, .iconst 2), (188, .goto 4), (191, .iconst (-1)), (192, .istore_n 3), (193, .aload_n 0), (194, .iload_n 3), (195, .ifCond .lt 7), (198, .iconst 1), (199, .goto 4), (202, .iconst 0), (203, .iconst 2), (204, .invokevirtual 354), (207, .aload_n 0), (208, .getfield 344), (211, .ifCond .ne 7), (214, .aload_n 0), (215, .invokevirtual 358), (218, .aload_n 0), (219, .invokevirtual 384), (222, .istore 4), (224, .aload_n 0), (225, .iload_n 2), (226, .bipush 6), (228, .iload_n 3), (229, .imul), (230, .iadd), (231, .bipush 18), (233, .iload 4), (235, .imul), (236, .iadd), (237, .invokevirtual 368), (240, .return_)], ([(17, [true, false, false, false, false]), (38, [true, true, false, false, false]), (53, [true, true, false, false, false]), (117, [true, false, false, false, false]), (136, [true, false, true, false, false]), (192, [true, false, true, false, false]), (203, [true, false, true, true, false]), (218, [true, false, true, true, false])], zp_9)))
def mc9_readsLine : zv_M := ((RX9, (⟨RX9, "readsLine", "()V"⟩, (prog_11_method_72_code, (2, none)))), ([(0, .aload_n 0), (1, .aload_n 0), (2, .getfield 100), (5, .invokevirtual 364), (8, .istore_n 1), (9, .aload_n 0), (10, .iload_n 1), (11, .ifCond .lt 7), (14, .iconst 1), (15, .goto 4), (18, .iconst 0), (19, .iconst 2), (20, .invokevirtual 354), (23, .aload_n 0), (24, .getfield 344), (27, .ifCond .le 4), (30, .return_), (31, .aload_n 0), (32, .invokevirtual 358), (35, .aload_n 0), (36, .iconst 0), (37, .putfield 387), (40, .aload_n 0), (41, .iconst 0), (42, .putfield 390), (45, .iload_n 1), (46, .iconst 3), (47, .if_icmp .lt 14), (50, .iload_n 1), (51, .iconst 5), (52, .if_icmp .eq 9), (55, .iload_n 1), (56, .bipush 6), (58, .if_icmp .le 11), (61, .aload_n 0), (62, .aload_n 0), (63, .invokevirtual 384), (66, .putfield 387), (69, .iload_n 1), (70, .iconst 1), (71, .if_icmp .ne 11), (74, .aload_n 0), (75, .aload_n 0), (76, .invokevirtual 384), (79, .putfield 390), (82, .iload_n 1), (83, .ifCond .ne 9), (86, .aload_n 0), (87, .bipush 12), (89, .invokevirtual 393), (92, .iload_n 1), (93, .bipush 6), (95, .if_icmp .ne 9), (98, .aload_n 0), (99, .bipush 6), (101, .invokevirtual 393), (104, .aload_n 0), (105, .aload_n 0), (106, .getfield 327), (109, .iconst 3), (110, .if_icmp .ne 21), (113, .aload_n 0), (114, .getfield 65), (117, .aload_n 0), (118, .getfield 317), (121, .baload), (122, .bipush 59), (124, .if_icmp .ne 7), (127, .iconst 1), (128, .goto 4), (131, .iconst 0), (132, .iconst 2), (133, .invokevirtual 354), (136, .aload_n 0), (137, .getfield 344), (140, .ifCond .le 4), (143, .return_), (144, .aload_n 0), (145, .aload_n 0), (146, .iload_n 1), (147, .invokevirtual 396), (150, .ifCond .lt 7), (153, .iconst 1), (154, .goto 4), (157, .iconst 0), (158, .bipush 7), (160, .invokevirtual 354), (163, .aload_n 0), (164, .getfield 344), (167, .ifCond .ne 7), (170, .aload_n 0), (171, .invokevirtual 358), (174, .return_)], ([(19, [true, true]), (61, [true, true]), (69, [true, true]), (82, [true, true]), (92, [true, true]), (104, [true, true]), (131, [true, true]), (132, [true, true]), (158, [true, false])], zp_9)))
def mc9_does : zv_M := ((RX9, (⟨RX9, "does", "(I)I"⟩, (prog_11_method_73_code, (2, (some .int))))), ([(0, .iload_n 1), (1, .tableswitch 158 0 10 #[59, 68, 81, 96, 101, 106, 115, 120, 130, 140, 149]), (60, .aload_n 0), (61, .aload_n 0), (62, .getfield 387), (65, .invokevirtual 257), (68, .ireturn), (69, .aload_n 0), (70, .aload_n 0), (71, .getfield 387), (74, .aload_n 0), (75, .getfield 390), (78, .invokevirtual 263), (81, .ireturn), (82, .aload_n 0), (83, .getfield 7), (86, .iconst 1), (87, .dup2), (88, .iaload), (89, .aload_n 0), (90, .getfield 387), (93, .iadd), (94, .iastore), (95, .iconst 0), (96, .ireturn), (97, .aload_n 0), (98, .invokevirtual 399), (101, .ireturn), (102, .aload_n 0), (103, .invokevirtual 402), (106, .ireturn), (107, .aload_n 0), (108, .aload_n 0), (109, .getfield 387), (112, .invokevirtual 405), (115, .ireturn), (116, .aload_n 0), (117, .invokevirtual 408), (120, .ireturn), (121, .aload_n 0), (122, .aload_n 0), (123, .getfield 387), (126, .iconst 2), (127, .invokevirtual 411), (130, .ireturn), (131, .aload_n 0), (132, .aload_n 0), (133, .getfield 387), (136, .iconst 3), (137, .invokevirtual 411), (140, .ireturn), (141, .aload_n 0), (142, .aload_n 0), (143, .getfield 387), (146, .invokevirtual 414), (149, .ireturn), (150, .aload_n 0), (151, .aload_n 0), (152, .getfield 387), (155, .invokevirtual 417), (158, .ireturn), (159, .aload_n 0), (160, .aload_n 0), (161, .getfield 387), (164, .invokevirtual 420), (167, .ireturn)], ([], zp_9)))
def mc9_load : zv_M := ((RX9, (⟨RX9, "load", "(I)I"⟩, (prog_11_method_74_code, (3, (some .int))))), ([(0, .aload_n 0), (1, .iload_n 1), (2, .iconst 0), (3, .aload_n 0), (4, .getfield 305), (7, .invokestatic 154), (10, .ifCond .eq 7), (13, .iconst 0), (14, .goto 4), (17, .iconst 1), (18, .invokevirtual 423), (21, .ifCond .ne 5), (24, .iconst (-1)), (25, .ireturn), (26, .aload_n 0), (27, .iload_n 1), (28, .putfield 311), (31, .aload_n 0), (32, .iconst 0), (33, .putfield 314), (36, .aload_n 0), (37, .iconst 0), (38, .putfield 344), (41, .aload_n 0), (42, .iconst 0), (43, .putfield 374), (46, .iconst 0), (47, .istore_n 2), (48, .iload_n 2), (49, .sipush 4236), (52, .if_icmp .ge 21), (55, .aload_n 0), (56, .getfield 13), (59, .iload_n 2), (60, .aload_n 0), (61, .getfield 7), (64, .iload_n 2), (65, .iaload), (66, .iastore), (67, .iinc 2 1), (70, .goto (-22)), (73, .aload_n 0), (74, .invokevirtual 141), (77, .aload_n 0), (78, .invokevirtual 358), (81, .aload_n 0), (82, .aload_n 0), (83, .getfield 114), (86, .invokevirtual 364), (89, .ifCond .ne 67), (92, .aload_n 0), (93, .invokevirtual 358), (96, .aload_n 0), (97, .bipush 40), (99, .invokevirtual 393), (102, .iconst 0), (103, .istore_n 2), (104, .iload_n 2), (105, .aload_n 0), (106, .getfield 226), (109, .if_icmp .ge 31), (112, .aload_n 0), (113, .getfield 344), (116, .ifCond .ne 24), (119, .aload_n 0), (120, .iconst 0), (121, .bipush 12), (123, .iload_n 2), (124, .iadd), (125, .aload_n 0), (126, .getfield 47), (129, .iload_n 2), (130, .iaload), (131, .invokevirtual 150), (134, .iinc 2 1), (137, .goto (-33)), (140, .aload_n 0), (141, .iconst 0), (142, .iconst 5), (143, .aload_n 0), (144, .getfield 226), (147, .invokevirtual 150), (150, .aload_n 0), (151, .bipush 59), (153, .invokevirtual 380), (156, .aload_n 0), (157, .aload_n 0), (158, .getfield 114), (161, .invokevirtual 364), (164, .iconst 1), (165, .if_icmp .ne 17), (168, .aload_n 0), (169, .invokevirtual 358), (172, .aload_n 0), (173, .invokevirtual 377), (176, .aload_n 0), (177, .bipush 59), (179, .invokevirtual 380), (182, .aload_n 0), (183, .getfield 344), (186, .ifCond .ne 17), (189, .aload_n 0), (190, .getfield 327), (193, .ifCond .eq 10), (196, .aload_n 0), (197, .invokevirtual 426), (200, .goto (-18)), (203, .aload_n 0), (204, .iconst 0), (205, .putfield 305), (208, .aload_n 0), (209, .aload_n 0), (210, .getfield 344), (213, .putfield 69), (216, .aload_n 0), (217, .aload_n 0), (218, .getfield 344), (221, .ifCond .le 10), (224, .aload_n 0), (225, .getfield 347), (228, .goto 4), (231, .iconst (-1)), (232, .putfield 73), (235, .aload_n 0), (236, .iconst 0), (237, .putfield 147), (240, .aload_n 0), (241, .getfield 344), (244, .ifCond .ne 8), (247, .aload_n 0), (248, .invokevirtual 235), (251, .ireturn), (252, .iconst 0), (253, .istore_n 2), (254, .iload_n 2), (255, .sipush 4236), (258, .if_icmp .ge 21), (261, .aload_n 0), (262, .getfield 7), (265, .iload_n 2), (266, .aload_n 0), (267, .getfield 13), (270, .iload_n 2), (271, .iaload), (272, .iastore), (273, .iinc 2 1), (276, .goto (-22)), (279, .aload_n 0), (280, .bipush 9), (282, .invokevirtual 232), (285, .ireturn)], ([(18, [true, true, false]), (48, [true, false, true]), (104, [true, false, true]), (140, [true, false, false]), (156, [true, false, false]), (182, [true, false, false]), (203, [true, false, false]), (232, [true, false, false]), (254, [true, false, true])], zp_9)))
def mc9_fault : zv_M := ((RX9, (⟨RX9, "fault", "(I)I"⟩, (prog_11_method_75_code, (2, (some .int))))), ([(0, .aload_n 0), (1, .iconst 0), (2, .putfield 144), (5, .iload_n 1), (6, .ifCond .ne 10), (9, .aload_n 0), (10, .getfield 69), (13, .goto 16), (16, .iload_n 1), (17, .iconst 1), (18, .if_icmp .ne 10), (21, .aload_n 0), (22, .getfield 73), (25, .goto 4), (28, .iconst (-1)), (29, .ireturn)], ([], zp_9)))
def mc9_leaves : zv_M := ((RX9, (⟨RX9, "leaves", "()I"⟩, (prog_11_method_76_code, (3, (some .int))))), ([(0, .iconst 0), (1, .istore_n 1), (2, .iconst 0), (3, .istore_n 2), (4, .iload_n 2), (5, .bipush 48), (7, .if_icmp .ge 33), (10, .iload_n 1), (11, .aload_n 0), (12, .iload_n 2), (13, .invokevirtual 203), (16, .ifCond .eq 15), (19, .aload_n 0), (20, .iload_n 2), (21, .invokevirtual 429), (24, .ifCond .ne 7), (27, .iconst 1), (28, .goto 4), (31, .iconst 0), (32, .iadd), (33, .istore_n 1), (34, .iinc 2 1), (37, .goto (-33)), (40, .iload_n 1), (41, .ireturn)], ([(4, [true, true, true])], zp_9)))
def mc9_groups : zv_M := ((RX9, (⟨RX9, "groups", "()I"⟩, (prog_11_method_77_code, (3, (some .int))))), ([(0, .iconst 0), (1, .istore_n 1), (2, .aload_n 0), (3, .invokevirtual 199), (6, .istore_n 2), (7, .iload_n 2), (8, .ifCond .le 32), (11, .iload_n 1), (12, .aload_n 0), (13, .iload_n 2), (14, .bipush 6), (16, .invokevirtual 158), (19, .iload_n 2), (20, .if_icmp .ne 7), (23, .iconst 1), (24, .goto 4), (27, .iconst 0), (28, .iadd), (29, .istore_n 1), (30, .aload_n 0), (31, .iload_n 2), (32, .iconst 1), (33, .invokevirtual 158), (36, .istore_n 2), (37, .goto (-30)), (40, .iload_n 1), (41, .ireturn)], ([(7, [true, true, true]), (28, [true, false, true])], zp_9)))
def mc9_gone : zv_M := ((RX9, (⟨RX9, "gone", "()I"⟩, (prog_11_method_78_code, (3, (some .int))))), ([(0, .aload_n 0), (1, .aload_n 0), (2, .invokevirtual 199), (5, .invokevirtual 193), (8, .iconst 0), (9, .istore_n 1), (10, .iconst 1), (11, .istore_n 2), (12, .iload_n 2), (13, .aload_n 0), (14, .getfield 168), (17, .if_icmp .ge 44), (20, .iload_n 1), (21, .aload_n 0), (22, .aload_n 0), (23, .getfield 19), (26, .iload_n 2), (27, .iaload), (28, .invokevirtual 179), (31, .ifCond .eq 21), (34, .aload_n 0), (35, .getfield 28), (38, .aload_n 0), (39, .getfield 19), (42, .iload_n 2), (43, .iaload), (44, .baload), (45, .ifCond .ne 7), (48, .iconst 1), (49, .goto 4), (52, .iconst 0), (53, .iadd), (54, .istore_n 1), (55, .iinc 2 1), (58, .goto (-46)), (61, .iload_n 1), (62, .ireturn)], ([(12, [true, true, true])], zp_9)))
def mc9_many : zv_M := ((RX9, (⟨RX9, "many", "(I)I"⟩, (prog_11_method_79_code, (2, (some .int))))), ([(0, .aload_n 0), (1, .iload_n 1), (2, .iconst 0), (3, .bipush 9), (5, .invokestatic 154), (8, .ifCond .eq 7), (11, .iconst 0), (12, .goto 4), (15, .iconst 1), (16, .invokevirtual 423), (19, .ifCond .ne 5), (22, .iconst (-1)), (23, .ireturn), (24, .aload_n 0), (25, .aload_n 0), (26, .invokevirtual 199), (29, .invokevirtual 193), (32, .iload_n 1), (33, .tableswitch 100 0 8 #[51, 56, 61, 68, 73, 78, 85, 90, 95]), (84, .aload_n 0), (85, .invokevirtual 235), (88, .ireturn), (89, .aload_n 0), (90, .invokevirtual 199), (93, .ireturn), (94, .aload_n 0), (95, .getfield 7), (98, .iconst 1), (99, .iaload), (100, .ireturn), (101, .aload_n 0), (102, .getfield 190), (105, .ireturn), (106, .aload_n 0), (107, .getfield 162), (110, .ireturn), (111, .aload_n 0), (112, .getfield 7), (115, .iconst 3), (116, .iaload), (117, .ireturn), (118, .aload_n 0), (119, .invokevirtual 432), (122, .ireturn), (123, .aload_n 0), (124, .invokevirtual 435), (127, .ireturn), (128, .aload_n 0), (129, .invokevirtual 438), (132, .ireturn), (133, .aload_n 0), (134, .getfield 7), (137, .iconst 2), (138, .iaload), (139, .ireturn)], ([(16, [true, true])], zp_9)))
def mc9_letter : zv_M := ((RX9, (⟨RX9, "letter", "(II)I"⟩, (prog_11_method_80_code, (3, (some .int))))), ([(0, .aload_n 0), (1, .iload_n 2), (2, .ifCond .ge 7), (5, .iconst 1), (6, .goto 16), (9, .aload_n 0), (10, .iload_n 1), (11, .invokevirtual 203), (14, .ifCond .ne 7), (17, .iconst 2), (18, .goto 4), (21, .iconst 0), (22, .invokevirtual 423), (25, .ifCond .ne 5), (28, .iconst (-1)), (29, .ireturn), (30, .aload_n 0), (31, .iload_n 1), (32, .invokevirtual 193), (35, .iload_n 2), (36, .aload_n 0), (37, .getfield 190), (40, .if_icmp .ge 15), (43, .aload_n 0), (44, .aload_n 0), (45, .iload_n 2), (46, .invokevirtual 241), (49, .invokevirtual 196), (52, .goto 8), (55, .aload_n 0), (56, .iconst 5), (57, .invokevirtual 232), (60, .ireturn)], ([(22, [true, true, true])], zp_9)))
def mc9_namesOf : zv_M := ((RX9, (⟨RX9, "namesOf", "(I)I"⟩, (prog_11_method_81_code, (4, (some .int))))), ([(0, .iconst 0), (1, .istore_n 2), (2, .iconst 0), (3, .istore_n 3), (4, .iload_n 3), (5, .aload_n 0), (6, .getfield 7), (9, .iconst 3), (10, .iaload), (11, .if_icmp .ge 35), (14, .iload_n 2), (15, .aload_n 0), (16, .getfield 7), (19, .sipush 408), (22, .iconst 2), (23, .iload_n 3), (24, .imul), (25, .iadd), (26, .iconst 1), (27, .iadd), (28, .iaload), (29, .iload_n 1), (30, .if_icmp .ne 7), (33, .iconst 1), (34, .goto 4), (37, .iconst 0), (38, .iadd), (39, .istore_n 2), (40, .iinc 3 1), (43, .goto (-39)), (46, .iload_n 2), (47, .ireturn)], ([(4, [true, true, true, true])], zp_9)))
def mc9_state : zv_M := ((RX9, (⟨RX9, "state", "(II)I"⟩, (prog_11_method_82_code, (3, (some .int))))), ([(0, .aload_n 0), (1, .iload_n 2), (2, .iconst 0), (3, .bipush 9), (5, .invokestatic 154), (8, .ifCond .ne 7), (11, .iconst 1), (12, .goto 16), (15, .aload_n 0), (16, .iload_n 1), (17, .invokevirtual 203), (20, .ifCond .ne 7), (23, .iconst 2), (24, .goto 4), (27, .iconst 0), (28, .invokevirtual 423), (31, .ifCond .ne 5), (34, .iconst (-1)), (35, .ireturn), (36, .iload_n 2), (37, .bipush 6), (39, .if_icmp .ge 12), (42, .aload_n 0), (43, .iload_n 1), (44, .iconst 1), (45, .iload_n 2), (46, .iadd), (47, .invokevirtual 158), (50, .ireturn), (51, .iload_n 2), (52, .bipush 6), (54, .if_icmp .ne 11), (57, .aload_n 0), (58, .iload_n 1), (59, .invokevirtual 429), (62, .goto 36), (65, .iload_n 2), (66, .bipush 7), (68, .if_icmp .ne 11), (71, .aload_n 0), (72, .iload_n 1), (73, .invokevirtual 175), (76, .goto 22), (79, .iload_n 2), (80, .bipush 8), (82, .if_icmp .ne 11), (85, .aload_n 0), (86, .iload_n 1), (87, .invokevirtual 229), (90, .goto 8), (93, .aload_n 0), (94, .iload_n 1), (95, .invokevirtual 441), (98, .ireturn)], ([(28, [true, true, true])], zp_9)))
def mc9_child : zv_M := ((RX9, (⟨RX9, "child", "(II)I"⟩, (prog_11_method_83_code, (4, (some .int))))), ([(0, .aload_n 0), (1, .iload_n 2), (2, .ifCond .ge 7), (5, .iconst 1), (6, .goto 16), (9, .aload_n 0), (10, .iload_n 1), (11, .invokevirtual 203), (14, .ifCond .ne 7), (17, .iconst 2), (18, .goto 4), (21, .iconst 0), (22, .invokevirtual 423), (25, .ifCond .ne 5), (28, .iconst (-1)), (29, .ireturn), (30, .iload_n 2), (31, .bipush 48), (33, .if_icmp .ge 12), (36, .aload_n 0), (37, .iload_n 1), (38, .iload_n 2), (39, .invokevirtual 275), (42, .goto 4), (45, .iconst (-1)), (46, .istore_n 3), (47, .iload_n 3), (48, .ifCond .ge 11), (51, .aload_n 0), (52, .iconst 5), (53, .invokevirtual 232), (56, .goto 4), (59, .iload_n 3), (60, .ireturn)], ([(22, [true, true, true, false]), (46, [true, false, false, false])], zp_9)))
def mc9_force : zv_M := ((RX9, (⟨RX9, "force", "(II)I"⟩, (prog_11_method_84_code, (3, (some .int))))), ([(0, .aload_n 0), (1, .aload_n 0), (2, .iload_n 1), (3, .invokevirtual 203), (6, .ifCond .eq 11), (9, .aload_n 0), (10, .iload_n 2), (11, .invokevirtual 203), (14, .ifCond .ne 7), (17, .iconst 2), (18, .goto 25), (21, .aload_n 0), (22, .iload_n 1), (23, .invokevirtual 179), (26, .ifCond .eq 12), (29, .aload_n 0), (30, .iload_n 1), (31, .iload_n 2), (32, .invokevirtual 206), (35, .ifCond .ne 7), (38, .iconst 5), (39, .goto 4), (42, .iconst 0), (43, .invokevirtual 423), (46, .ifCond .ne 5), (49, .iconst (-1)), (50, .ireturn), (51, .aload_n 0), (52, .iload_n 2), (53, .invokevirtual 193), (56, .aload_n 0), (57, .getfield 28), (60, .iload_n 1), (61, .baload), (62, .ifCond .eq 7), (65, .iconst 1), (66, .goto 4), (69, .iconst 0), (70, .ireturn)], ([(17, [true, true, true]), (38, [true, true, true]), (43, [true, true, true])], zp_9)))
def mc9_blame : zv_M := ((RX9, (⟨RX9, "blame", "(II)I"⟩, (prog_11_method_85_code, (4, (some .int))))), ([(0, .aload_n 0), (1, .iload_n 1), (2, .ifCond .lt 16), (5, .iload_n 2), (6, .iconst 0), (7, .iconst 2), (8, .invokestatic 154), (11, .ifCond .eq 7), (14, .iconst 0), (15, .goto 4), (18, .iconst 1), (19, .invokevirtual 423), (22, .ifCond .ne 5), (25, .iconst (-1)), (26, .ireturn), (27, .aload_n 0), (28, .aload_n 0), (29, .invokevirtual 199), (32, .invokevirtual 193), (35, .iload_n 1), (36, .aload_n 0), (37, .getfield 190), (40, .if_icmp .lt 9), (43, .aload_n 0), (44, .iconst 5), (45, .invokevirtual 232), (48, .ireturn), (49, .aload_n 0), (50, .iload_n 1), (51, .invokevirtual 241), (54, .istore_n 3), (55, .iload_n 2), (56, .ifCond .ne 12), (59, .aload_n 0), (60, .getfield 22), (63, .iload_n 3), (64, .iaload), (65, .goto 18), (68, .iload_n 2), (69, .iconst 1), (70, .if_icmp .ne 12), (73, .aload_n 0), (74, .getfield 25), (77, .iload_n 3), (78, .iaload), (79, .goto 4), (82, .iload_n 3), (83, .ireturn)], ([(18, [true, true, true, false]), (19, [true, true, true, false])], zp_9)))
def mc9_cutsOf : zv_M := ((RX9, (⟨RX9, "cutsOf", "(IIZ)I"⟩, (prog_11_method_86_code, (8, (some .int))))), ([(0, .iload_n 3), (1, .ifCond .eq 7), (4, .iconst (-1)), (5, .goto 4), (8, .iconst 0), (9, .istore 4), (11, .iconst 1), (12, .istore 5), (14, .iload 5), (16, .aload_n 0), (17, .getfield 168), (20, .if_icmp .ge 122), (23, .aload_n 0), (24, .getfield 19), (27, .iload 5), (29, .iaload), (30, .istore 6), (32, .aload_n 0), (33, .iload 6), (35, .iconst 2), (36, .invokevirtual 158), (39, .iconst 1), (40, .if_icmp .eq 6), (43, .goto 93), (46, .iconst 0), (47, .istore 7), (49, .iload 7), (51, .aload_n 0), (52, .iload 6), (54, .iconst 5), (55, .invokevirtual 158), (58, .if_icmp .ge 78), (61, .aload_n 0), (62, .iload 6), (64, .bipush 52), (66, .iconst 2), (67, .iload 7), (69, .imul), (70, .iadd), (71, .invokevirtual 158), (74, .iload_n 1), (75, .if_icmp .ne 55), (78, .aload_n 0), (79, .iload 6), (81, .bipush 52), (83, .iconst 2), (84, .iload 7), (86, .imul), (87, .iadd), (88, .iconst 1), (89, .iadd), (90, .invokevirtual 158), (93, .iload_n 2), (94, .if_icmp .eq 6), (97, .goto 33), (100, .iload_n 3), (101, .ifCond .eq 8), (104, .iload 6), (106, .goto 22), (109, .aload_n 0), (110, .getfield 28), (113, .iload 6), (115, .baload), (116, .ifCond .eq 10), (119, .iload 4), (121, .iconst 1), (122, .iadd), (123, .goto 5), (126, .iload 4), (128, .istore 4), (130, .iinc 7 1), (133, .goto (-84)), (136, .iinc 5 1), (139, .goto (-125)), (142, .iload 4), (144, .ireturn)], ([(14, [true, true, true, true, true, true, false, false]), (49, [true, true, true, true, true, true, true, true])], zp_9)))
def mc9_row : zv_M := ((RX9, (⟨RX9, "row", "(II)I"⟩, (prog_11_method_87_code, (3, (some .int))))), ([(0, .aload_n 0), (1, .iload_n 1), (2, .ifCond .lt 16), (5, .iload_n 2), (6, .iconst 0), (7, .iconst 4), (8, .invokestatic 154), (11, .ifCond .eq 7), (14, .iconst 0), (15, .goto 4), (18, .iconst 1), (19, .invokevirtual 423), (22, .ifCond .ne 5), (25, .iconst (-1)), (26, .ireturn), (27, .aload_n 0), (28, .aload_n 0), (29, .invokevirtual 199), (32, .invokevirtual 193), (35, .iload_n 1), (36, .aload_n 0), (37, .getfield 162), (40, .if_icmp .lt 9), (43, .aload_n 0), (44, .iconst 5), (45, .invokevirtual 232), (48, .ireturn), (49, .iload_n 2), (50, .ifCond .ne 11), (53, .aload_n 0), (54, .iload_n 1), (55, .invokevirtual 196), (58, .goto 65), (61, .iload_n 2), (62, .iconst 1), (63, .if_icmp .ne 12), (66, .aload_n 0), (67, .getfield 22), (70, .iload_n 1), (71, .iaload), (72, .goto 51), (75, .iload_n 2), (76, .iconst 2), (77, .if_icmp .ne 20), (80, .aload_n 0), (81, .getfield 32), (84, .iload_n 1), (85, .baload), (86, .ifCond .eq 7), (89, .iconst 1), (90, .goto 33), (93, .iconst 0), (94, .goto 29), (97, .aload_n 0), (98, .aload_n 0), (99, .getfield 22), (102, .iload_n 1), (103, .iaload), (104, .aload_n 0), (105, .getfield 25), (108, .iload_n 1), (109, .iaload), (110, .iload_n 2), (111, .iconst 4), (112, .if_icmp .ne 7), (115, .iconst 1), (116, .goto 4), (119, .iconst 0), (120, .invokevirtual 444), (123, .ireturn)], ([(18, [true, true, true]), (19, [true, true, true]), (120, [false, false, false])], zp_9)))
def mc9_visit : zv_M := ((RX9, (⟨RX9, "visit", "(II)I"⟩, (prog_11_method_88_code, (3, (some .int))))), ([(0, .aload_n 0), (1, .iload_n 1), (2, .iconst 0), (3, .bipush 39), (5, .invokestatic 154), (8, .ifCond .eq 12), (11, .iload_n 2), (12, .iconst 0), (13, .iconst 1), (14, .invokestatic 154), (17, .ifCond .ne 7), (20, .iconst 1), (21, .goto 18), (24, .iload_n 1), (25, .aload_n 0), (26, .getfield 7), (29, .iconst 5), (30, .iaload), (31, .if_icmp .lt 7), (34, .iconst 5), (35, .goto 4), (38, .iconst 0), (39, .invokevirtual 423), (42, .ifCond .ne 5), (45, .iconst (-1)), (46, .ireturn), (47, .aload_n 0), (48, .getfield 7), (51, .sipush 4156), (54, .iconst 2), (55, .iload_n 1), (56, .imul), (57, .iadd), (58, .iload_n 2), (59, .iadd), (60, .iaload), (61, .ireturn)], ([(20, [true, true, true]), (39, [true, true, true])], zp_9)))
def mc9_named : zv_M := ((RX9, (⟨RX9, "named", "()I"⟩, (prog_11_method_89_code, (2, (some .int))))), ([(0, .aload_n 0), (1, .aload_n 0), (2, .getfield 223), (5, .iconst 1), (6, .bipush 6), (8, .invokestatic 154), (11, .ifCond .eq 7), (14, .iconst 0), (15, .goto 4), (18, .iconst 1), (19, .invokevirtual 423), (22, .ifCond .ne 5), (25, .iconst (-1)), (26, .ireturn), (27, .aload_n 0), (28, .aload_n 0), (29, .getfield 50), (32, .aload_n 0), (33, .getfield 223), (36, .invokestatic 284), (39, .invokevirtual 288), (42, .istore_n 1), (43, .iload_n 1), (44, .ifCond .ge 11), (47, .aload_n 0), (48, .iconst 5), (49, .invokevirtual 232), (52, .goto 17), (55, .aload_n 0), (56, .getfield 7), (59, .sipush 408), (62, .iconst 2), (63, .iload_n 1), (64, .imul), (65, .iadd), (66, .iconst 1), (67, .iadd), (68, .iaload), (69, .ireturn)], ([(19, [true, false])], zp_9)))
def mc9_leans : zv_M := ((RX9, (⟨RX9, "leans", "(II)I"⟩, (prog_11_method_90_code, (3, (some .int))))), ([(0, .aload_n 0), (1, .aload_n 0), (2, .iload_n 1), (3, .invokevirtual 203), (6, .ifCond .eq 11), (9, .aload_n 0), (10, .iload_n 2), (11, .invokevirtual 203), (14, .ifCond .ne 7), (17, .iconst 2), (18, .goto 29), (21, .iload_n 1), (22, .iload_n 2), (23, .if_icmp .eq 19), (26, .aload_n 0), (27, .iload_n 1), (28, .invokevirtual 179), (31, .ifCond .eq 11), (34, .aload_n 0), (35, .iload_n 2), (36, .invokevirtual 179), (39, .ifCond .ne 7), (42, .iconst 5), (43, .goto 4), (46, .iconst 0), (47, .invokevirtual 423), (50, .ifCond .ne 5), (53, .iconst (-1)), (54, .ireturn), (55, .aload_n 0), (56, .iload_n 1), (57, .iload_n 2), (58, .invokevirtual 206), (61, .ifCond .eq 18), (64, .aload_n 0), (65, .iload_n 2), (66, .iload_n 1), (67, .invokevirtual 291), (70, .ifCond .eq 7), (73, .iconst 1), (74, .goto 4), (77, .iconst 0), (78, .ireturn), (79, .aload_n 0), (80, .iload_n 2), (81, .iload_n 1), (82, .invokevirtual 206), (85, .ifCond .eq 20), (88, .aload_n 0), (89, .iload_n 1), (90, .iload_n 2), (91, .invokevirtual 291), (94, .ifCond .eq 7), (97, .iconst 1), (98, .goto 12), (101, .iconst 0), (102, .goto 8), (105, .aload_n 0), (106, .iconst 5), (107, .invokevirtual 232), (110, .ireturn)], ([(17, [true, true, true]), (42, [true, true, true]), (47, [true, true, true])], zp_9)))
def mc9_put : zv_M := ((RX9, (⟨RX9, "put", "(I)I"⟩, (prog_11_method_91_code, (2, (some .int))))), ([(0, .aload_n 0), (1, .iconst 0), (2, .invokevirtual 423), (5, .pop), (6, .aload_n 0), (7, .invokevirtual 448), (10, .aload_n 0), (11, .iload_n 1), (12, .invokevirtual 257), (15, .ireturn)], ([], zp_9)))
def mc9_cut : zv_M := ((RX9, (⟨RX9, "cut", "(II)I"⟩, (prog_11_method_92_code, (3, (some .int))))), ([(0, .aload_n 0), (1, .iconst 0), (2, .invokevirtual 423), (5, .pop), (6, .aload_n 0), (7, .iload_n 1), (8, .iload_n 2), (9, .invokevirtual 263), (12, .ireturn)], ([], zp_9)))
def mc9_wait : zv_M := ((RX9, (⟨RX9, "wait", "(I)I"⟩, (prog_11_method_93_code, (2, (some .int))))), ([(0, .aload_n 0), (1, .iload_n 1), (2, .iconst 0), (3, .sipush 999), (6, .invokestatic 154), (9, .ifCond .eq 7), (12, .iconst 0), (13, .goto 4), (16, .iconst 1), (17, .invokevirtual 423), (20, .ifCond .ne 5), (23, .iconst (-1)), (24, .ireturn), (25, .aload_n 0), (26, .getfield 7), (29, .iconst 1), (30, .dup2), (31, .iaload), (32, .iload_n 1), (33, .iadd), (34, .iastore), (35, .aload_n 0), (36, .getfield 7), (39, .iconst 1), (40, .iaload), (41, .ireturn)], ([(17, [true, true])], zp_9)))
def mc9_undo : zv_M := ((RX9, (⟨RX9, "undo", "()I"⟩, (prog_11_method_94_code, (1, (some .int))))), ([(0, .aload_n 0), (1, .iconst 0), (2, .invokevirtual 423), (5, .pop), (6, .aload_n 0), (7, .invokevirtual 399), (10, .ireturn)], ([], zp_9)))
def mc9_redo : zv_M := ((RX9, (⟨RX9, "redo", "()I"⟩, (prog_11_method_95_code, (1, (some .int))))), ([(0, .aload_n 0), (1, .iconst 0), (2, .invokevirtual 423), (5, .pop), (6, .aload_n 0), (7, .invokevirtual 402), (10, .ireturn)], ([], zp_9)))
def mc9_go : zv_M := ((RX9, (⟨RX9, "go", "(I)I"⟩, (prog_11_method_96_code, (2, (some .int))))), ([(0, .aload_n 0), (1, .iconst 0), (2, .invokevirtual 423), (5, .pop), (6, .aload_n 0), (7, .iload_n 1), (8, .invokevirtual 405), (11, .ireturn)], ([], zp_9)))
def mc9_name : zv_M := ((RX9, (⟨RX9, "name", "()I"⟩, (prog_11_method_97_code, (1, (some .int))))), ([(0, .aload_n 0), (1, .iconst 0), (2, .invokevirtual 423), (5, .pop), (6, .aload_n 0), (7, .invokevirtual 448), (10, .aload_n 0), (11, .invokevirtual 408), (14, .ireturn)], ([], zp_9)))
def mc9_unname : zv_M := ((RX9, (⟨RX9, "unname", "()I"⟩, (prog_11_method_98_code, (3, (some .int))))), ([(0, .aload_n 0), (1, .aload_n 0), (2, .getfield 223), (5, .iconst 1), (6, .bipush 6), (8, .invokestatic 154), (11, .ifCond .eq 7), (14, .iconst 0), (15, .goto 4), (18, .iconst 1), (19, .invokevirtual 423), (22, .ifCond .ne 5), (25, .iconst (-1)), (26, .ireturn), (27, .aload_n 0), (28, .aload_n 0), (29, .getfield 50), (32, .aload_n 0), (33, .getfield 223), (36, .invokestatic 284), (39, .invokevirtual 288), (42, .istore_n 1), (43, .iload_n 1), (44, .ifCond .ge 9), (47, .aload_n 0), (48, .iconst 5), (49, .invokevirtual 232), (52, .ireturn), (53, .aload_n 0), (54, .getfield 7), (57, .iconst 3), (58, .dup2), (59, .iaload), (60, .iconst 1), (61, .isub), (62, .iastore), (63, .iconst 2), (64, .iload_n 1), (65, .imul), (66, .istore_n 2), (67, .iload_n 2), (68, .iconst 2), (69, .aload_n 0), (70, .getfield 7), (73, .iconst 3), (74, .iaload), (75, .imul), (76, .if_icmp .ge 31), (79, .aload_n 0), (80, .getfield 7), (83, .sipush 408), (86, .iload_n 2), (87, .iadd), (88, .aload_n 0), (89, .getfield 7), (92, .sipush 408), (95, .iload_n 2), (96, .iadd), (97, .iconst 2), (98, .iadd), (99, .iaload), (100, .iastore), (101, .iinc 2 1), (104, .goto (-37)), (107, .aload_n 0), (108, .getfield 7), (111, .iconst 3), (112, .iaload), (113, .ireturn)], ([(19, [true, false, false]), (67, [true, false, true])], zp_9)))
def mc9_withdraw : zv_M := ((RX9, (⟨RX9, "withdraw", "(I)I"⟩, (prog_11_method_99_code, (2, (some .int))))), ([(0, .aload_n 0), (1, .iconst 0), (2, .invokevirtual 423), (5, .pop), (6, .aload_n 0), (7, .iload_n 1), (8, .iconst 2), (9, .invokevirtual 411), (12, .ireturn)], ([], zp_9)))
def mc9_restore : zv_M := ((RX9, (⟨RX9, "restore", "(I)I"⟩, (prog_11_method_100_code, (2, (some .int))))), ([(0, .aload_n 0), (1, .iconst 0), (2, .invokevirtual 423), (5, .pop), (6, .aload_n 0), (7, .iload_n 1), (8, .iconst 3), (9, .invokevirtual 411), (12, .ireturn)], ([], zp_9)))
def mc9_firstOut : zv_M := ((RX9, (⟨RX9, "firstOut", "()I"⟩, (prog_11_method_101_code, (3, (some .int))))), ([(0, .iconst (-1)), (1, .istore_n 1), (2, .iconst 1), (3, .istore_n 2), (4, .iload_n 2), (5, .bipush 48), (7, .if_icmp .ge 71), (10, .aload_n 0), (11, .iload_n 2), (12, .invokevirtual 203), (15, .ifCond .eq 57), (18, .iload_n 2), (19, .aload_n 0), (20, .invokevirtual 199), (23, .if_icmp .eq 49), (26, .aload_n 0), (27, .iload_n 2), (28, .invokevirtual 429), (31, .ifCond .gt 41), (34, .aload_n 0), (35, .iload_n 2), (36, .invokevirtual 441), (39, .ifCond .le 6), (42, .goto 30), (45, .iload_n 1), (46, .ifCond .lt 20), (49, .aload_n 0), (50, .iload_n 2), (51, .bipush 7), (53, .invokevirtual 158), (56, .aload_n 0), (57, .iload_n 1), (58, .bipush 7), (60, .invokevirtual 158), (63, .if_icmp .ge 7), (66, .iload_n 2), (67, .goto 4), (70, .iload_n 1), (71, .istore_n 1), (72, .iinc 2 1), (75, .goto (-71)), (78, .iload_n 1), (79, .ireturn)], ([(4, [true, true, true])], zp_9)))
def mc9_carry : zv_M := ((RX9, (⟨RX9, "carry", "(I)I"⟩, (prog_11_method_102_code, (2, (some .int))))), ([(0, .aload_n 0), (1, .iconst 0), (2, .invokevirtual 423), (5, .pop), (6, .aload_n 0), (7, .iload_n 1), (8, .invokevirtual 414), (11, .ireturn)], ([], zp_9)))
def mc9_merge : zv_M := ((RX9, (⟨RX9, "merge", "(I)I"⟩, (prog_11_method_103_code, (2, (some .int))))), ([(0, .aload_n 0), (1, .iconst 0), (2, .invokevirtual 423), (5, .pop), (6, .aload_n 0), (7, .iload_n 1), (8, .invokevirtual 417), (11, .ireturn)], ([], zp_9)))
def mc9_prune : zv_M := ((RX9, (⟨RX9, "prune", "(I)I"⟩, (prog_11_method_104_code, (2, (some .int))))), ([(0, .aload_n 0), (1, .iconst 0), (2, .invokevirtual 423), (5, .pop), (6, .aload_n 0), (7, .iload_n 1), (8, .invokevirtual 420), (11, .ireturn)], ([], zp_9)))
def mc9_pruneNow : zv_M := ((RX9, (⟨RX9, "pruneNow", "(I)I"⟩, (prog_11_method_105_code, (5, (some .int))))), ([(0, .iload_n 1), (1, .iconst 1), (2, .bipush 48), (4, .invokestatic 154), (7, .ifCond .ne 9), (10, .aload_n 0), (11, .iconst 1), (12, .invokevirtual 232), (15, .ireturn), (16, .iconst 0), (17, .istore_n 2), (18, .aload_n 0), (19, .invokevirtual 451), (22, .istore_n 3), (23, .iload_n 3), (24, .ifCond .lt 80), (27, .aload_n 0), (28, .invokevirtual 235), (31, .iload_n 1), (32, .if_icmp .le 72), (35, .aload_n 0), (36, .iload_n 3), (37, .iconst 0), (38, .iconst 0), (39, .invokevirtual 150), (42, .iconst 0), (43, .istore 4), (45, .iload 4), (47, .aload_n 0), (48, .getfield 7), (51, .iconst 5), (52, .iaload), (53, .if_icmp .ge 40), (56, .aload_n 0), (57, .getfield 7), (60, .sipush 4156), (63, .iconst 2), (64, .iload 4), (66, .imul), (67, .iadd), (68, .iaload), (69, .iload_n 3), (70, .if_icmp .ne 17), (73, .aload_n 0), (74, .getfield 7), (77, .sipush 4156), (80, .iconst 2), (81, .iload 4), (83, .imul), (84, .iadd), (85, .iconst (-1)), (86, .iastore), (87, .iinc 4 1), (90, .goto (-45)), (93, .iinc 2 1), (96, .aload_n 0), (97, .invokevirtual 451), (100, .istore_n 3), (101, .goto (-78)), (104, .iload_n 2), (105, .ireturn)], ([(23, [true, true, true, true, false]), (45, [true, true, true, true, true])], zp_9)))
def mc9_common : zv_M := ((RX9, (⟨RX9, "common", "(II)I"⟩, (prog_11_method_106_code, (3, (some .int))))), ([(0, .aload_n 0), (1, .aload_n 0), (2, .iload_n 1), (3, .invokevirtual 203), (6, .ifCond .eq 15), (9, .aload_n 0), (10, .iload_n 2), (11, .invokevirtual 203), (14, .ifCond .eq 7), (17, .iconst 0), (18, .goto 4), (21, .iconst 2), (22, .invokevirtual 423), (25, .ifCond .eq 12), (28, .aload_n 0), (29, .iload_n 1), (30, .iload_n 2), (31, .invokevirtual 278), (34, .goto 4), (37, .iconst (-1)), (38, .ireturn)], ([(21, [true, true, true]), (22, [true, true, true])], zp_9)))
def mc9_way : zv_M := ((RX9, (⟨RX9, "way", "(III)I"⟩, (prog_11_method_107_code, (8, (some .int))))), ([(0, .aload_n 0), (1, .iload_n 3), (2, .ifCond .ge 7), (5, .iconst 1), (6, .goto 24), (9, .aload_n 0), (10, .iload_n 1), (11, .invokevirtual 203), (14, .ifCond .eq 11), (17, .aload_n 0), (18, .iload_n 2), (19, .invokevirtual 203), (22, .ifCond .ne 7), (25, .iconst 2), (26, .goto 4), (29, .iconst 0), (30, .invokevirtual 423), (33, .ifCond .ne 5), (36, .iconst (-1)), (37, .ireturn), (38, .aload_n 0), (39, .iload_n 1), (40, .invokevirtual 175), (43, .aload_n 0), (44, .aload_n 0), (45, .iload_n 1), (46, .iload_n 2), (47, .invokevirtual 278), (50, .invokevirtual 175), (53, .isub), (54, .istore 4), (56, .aload_n 0), (57, .iload_n 1), (58, .iload_n 2), (59, .invokevirtual 281), (62, .istore 5), (64, .iload_n 3), (65, .iload 5), (67, .if_icmp .le 9), (70, .aload_n 0), (71, .iconst 5), (72, .invokevirtual 232), (75, .ireturn), (76, .iload_n 3), (77, .iload 4), (79, .if_icmp .gt 7), (82, .iload_n 1), (83, .goto 4), (86, .iload_n 2), (87, .istore 6), (89, .iload_n 3), (90, .iload 4), (92, .if_icmp .gt 7), (95, .iload_n 3), (96, .goto 7), (99, .iload 5), (101, .iload_n 3), (102, .isub), (103, .istore 7), (105, .iload 7), (107, .ifCond .le 18), (110, .aload_n 0), (111, .iload 6), (113, .iconst 1), (114, .invokevirtual 158), (117, .istore 6), (119, .iinc 7 (-1)), (122, .goto (-17)), (125, .iload 6), (127, .ireturn)], ([(25, [true, true, true, true, false, false, false, false]), (30, [true, true, true, true, false, false, false, false]), (87, [true, false, false, true, true, true, false, false]), (105, [true, false, false, false, false, false, true, true])], zp_9)))
def mc9_keysOf : zv_M := ((RX9, (⟨RX9, "keysOf", "(I)I"⟩, (prog_11_method_108_code, (4, (some .int))))), ([(0, .aload_n 0), (1, .iload_n 1), (2, .invokevirtual 193), (5, .iconst 0), (6, .istore_n 2), (7, .iconst 0), (8, .istore_n 3), (9, .iload_n 3), (10, .aload_n 0), (11, .getfield 162), (14, .if_icmp .ge 46), (17, .aload_n 0), (18, .getfield 32), (21, .iload_n 3), (22, .baload), (23, .ifCond .ne 6), (26, .goto 28), (29, .aload_n 0), (30, .getfield 132), (33, .iload_n 2), (34, .bipush 64), (36, .aload_n 0), (37, .getfield 22), (40, .iload_n 3), (41, .iaload), (42, .imul), (43, .aload_n 0), (44, .getfield 25), (47, .iload_n 3), (48, .iaload), (49, .iadd), (50, .iastore), (51, .iinc 2 1), (54, .iinc 3 1), (57, .goto (-48)), (60, .iload_n 2), (61, .ireturn)], ([(9, [true, false, true, true])], zp_9)))
def mc9_keptOf : zv_M := ((RX9, (⟨RX9, "keptOf", "(II)I"⟩, (prog_11_method_109_code, (7, (some .int))))), ([(0, .aload_n 0), (1, .iload_n 1), (2, .invokevirtual 454), (5, .istore_n 3), (6, .aload_n 0), (7, .iload_n 2), (8, .invokevirtual 193), (11, .iconst 0), (12, .istore 4), (14, .iconst 0), (15, .istore 5), (17, .iload 5), (19, .aload_n 0), (20, .getfield 162), (23, .if_icmp .ge 75), (26, .aload_n 0), (27, .getfield 32), (30, .iload 5), (32, .baload), (33, .ifCond .ne 6), (36, .goto 56), (39, .iconst 0), (40, .istore 6), (42, .iload 6), (44, .iload_n 3), (45, .if_icmp .ge 47), (48, .iload 4), (50, .aload_n 0), (51, .getfield 132), (54, .iload 6), (56, .iaload), (57, .bipush 64), (59, .aload_n 0), (60, .getfield 22), (63, .iload 5), (65, .iaload), (66, .imul), (67, .aload_n 0), (68, .getfield 25), (71, .iload 5), (73, .iaload), (74, .iadd), (75, .if_icmp .ne 7), (78, .iconst 1), (79, .goto 4), (82, .iconst 0), (83, .iadd), (84, .istore 4), (86, .iinc 6 1), (89, .goto (-47)), (92, .iinc 5 1), (95, .goto (-78)), (98, .iload 4), (100, .ireturn)], ([(17, [true, false, false, true, true, true, false]), (42, [true, false, false, true, true, true, true])], zp_9)))
def mc9_differ : zv_M := ((RX9, (⟨RX9, "differ", "(II)I"⟩, (prog_11_method_110_code, (6, (some .int))))), ([(0, .aload_n 0), (1, .iload_n 1), (2, .aload_n 0), (3, .getfield 35), (6, .invokevirtual 457), (9, .istore_n 3), (10, .aload_n 0), (11, .iload_n 2), (12, .aload_n 0), (13, .getfield 38), (16, .invokevirtual 457), (19, .istore 4), (21, .iconst 0), (22, .istore 5), (24, .iload 5), (26, .iload_n 3), (27, .if_icmp .ge 33), (30, .iload 5), (32, .iload 4), (34, .if_icmp .ge 26), (37, .aload_n 0), (38, .getfield 35), (41, .iload 5), (43, .iaload), (44, .aload_n 0), (45, .getfield 38), (48, .iload 5), (50, .iaload), (51, .if_icmp .ne 9), (54, .iinc 5 1), (57, .goto (-33)), (60, .iload 5), (62, .iload_n 3), (63, .if_icmp .ne 14), (66, .iload 5), (68, .iload 4), (70, .if_icmp .ne 7), (73, .iconst (-1)), (74, .goto 5), (77, .iload 5), (79, .ireturn)], ([(24, [true, false, false, true, true, true]), (60, [false, false, false, true, true, true])], zp_9)))
def mc9_between : zv_M := ((RX9, (⟨RX9, "between", "(III)I"⟩, (prog_11_method_111_code, (5, (some .int))))), ([(0, .aload_n 0), (1, .iload_n 3), (2, .iconst 0), (3, .iconst 3), (4, .invokestatic 154), (7, .ifCond .ne 7), (10, .iconst 1), (11, .goto 24), (14, .aload_n 0), (15, .iload_n 1), (16, .invokevirtual 203), (19, .ifCond .eq 11), (22, .aload_n 0), (23, .iload_n 2), (24, .invokevirtual 203), (27, .ifCond .ne 7), (30, .iconst 2), (31, .goto 4), (34, .iconst 0), (35, .invokevirtual 423), (38, .ifCond .ne 5), (41, .iconst (-1)), (42, .ireturn), (43, .iload_n 3), (44, .iconst 3), (45, .if_icmp .ne 10), (48, .aload_n 0), (49, .iload_n 1), (50, .iload_n 2), (51, .invokevirtual 461), (54, .ireturn), (55, .aload_n 0), (56, .iload_n 1), (57, .iload_n 2), (58, .invokevirtual 464), (61, .istore 4), (63, .iload_n 3), (64, .ifCond .ne 8), (67, .iload 4), (69, .goto 27), (72, .iload_n 3), (73, .iconst 1), (74, .if_icmp .ne 14), (77, .aload_n 0), (78, .iload_n 1), (79, .invokevirtual 229), (82, .iload 4), (84, .isub), (85, .goto 11), (88, .aload_n 0), (89, .iload_n 2), (90, .invokevirtual 229), (93, .iload 4), (95, .isub), (96, .ireturn)], ([(30, [true, true, true, true, false]), (35, [true, true, true, true, false])], zp_9)))
def mc9_least : zv_M := ((RX9, (⟨RX9, "least", "(II)I"⟩, (prog_11_method_112_code, (11, (some .int))))), ([(0, .aload_n 0), (1, .aload_n 0), (2, .iload_n 1), (3, .invokevirtual 203), (6, .ifCond .eq 15), (9, .aload_n 0), (10, .iload_n 2), (11, .invokevirtual 203), (14, .ifCond .eq 7), (17, .iconst 0), (18, .goto 4), (21, .iconst 2), (22, .invokevirtual 423), (25, .ifCond .ne 5), (28, .iconst (-1)), (29, .ireturn), (30, .aload_n 0), (31, .iload_n 1), (32, .aload_n 0), (33, .getfield 35), (36, .invokevirtual 457), (39, .istore_n 3), (40, .aload_n 0), (41, .iload_n 2), (42, .aload_n 0), (43, .getfield 38), (46, .invokevirtual 457), (49, .istore 4), (51, .bipush 121), (53, .istore 5), (55, .iconst 0), (56, .istore 6), (58, .iload 6), (60, .iload_n 3), (61, .if_icmp .gt 146), (64, .iconst 0), (65, .istore 7), (67, .iload 7), (69, .iload 4), (71, .if_icmp .gt 130), (74, .iconst 0), (75, .istore 8), (77, .iload 6), (79, .ifCond .le 101), (82, .iload 7), (84, .ifCond .le 96), (87, .aload_n 0), (88, .getfield 135), (91, .iload 5), (93, .iload 6), (95, .iconst 1), (96, .isub), (97, .imul), (98, .iload 7), (100, .iadd), (101, .iaload), (102, .istore 9), (104, .aload_n 0), (105, .getfield 135), (108, .iload 5), (110, .iload 6), (112, .imul), (113, .iload 7), (115, .iadd), (116, .iconst 1), (117, .isub), (118, .iaload), (119, .istore 10), (121, .aload_n 0), (122, .getfield 35), (125, .iload 6), (127, .iconst 1), (128, .isub), (129, .iaload), (130, .aload_n 0), (131, .getfield 38), (134, .iload 7), (136, .iconst 1), (137, .isub), (138, .iaload), (139, .if_icmp .ne 25), (142, .aload_n 0), (143, .getfield 135), (146, .iload 5), (148, .iload 6), (150, .iconst 1), (151, .isub), (152, .imul), (153, .iload 7), (155, .iadd), (156, .iconst 1), (157, .isub), (158, .iaload), (159, .iconst 1), (160, .iadd), (161, .goto 17), (164, .iload 9), (166, .iload 10), (168, .if_icmp .le 8), (171, .iload 9), (173, .goto 5), (176, .iload 10), (178, .istore 8), (180, .aload_n 0), (181, .getfield 135), (184, .iload 5), (186, .iload 6), (188, .imul), (189, .iload 7), (191, .iadd), (192, .iload 8), (194, .iastore), (195, .iinc 7 1), (198, .goto (-131)), (201, .iinc 6 1), (204, .goto (-146)), (207, .iload_n 3), (208, .iload 4), (210, .iadd), (211, .iconst 2), (212, .aload_n 0), (213, .getfield 135), (216, .iload 5), (218, .iload_n 3), (219, .imul), (220, .iload 4), (222, .iadd), (223, .iaload), (224, .imul), (225, .isub), (226, .ireturn)], ([(21, [true, true, true, false, false, false, false, false, false, false, false]), (22, [true, true, true, false, false, false, false, false, false, false, false]), (58, [true, false, false, true, true, true, true, false, false, false, false]), (67, [true, false, false, true, true, true, true, true, false, false, false])], zp_9)))
def mc9_merges : zv_M := ((RX9, (⟨RX9, "merges", "(II)I"⟩, (prog_11_method_113_code, (5, (some .int))))), ([(0, .aload_n 0), (1, .iload_n 2), (2, .iconst 0), (3, .iconst 2), (4, .invokestatic 154), (7, .ifCond .eq 7), (10, .iconst 0), (11, .goto 4), (14, .iconst 1), (15, .invokevirtual 423), (18, .ifCond .ne 5), (21, .iconst (-1)), (22, .ireturn), (23, .iconst 0), (24, .istore_n 3), (25, .iload_n 3), (26, .sipush 4236), (29, .if_icmp .ge 21), (32, .aload_n 0), (33, .getfield 16), (36, .iload_n 3), (37, .aload_n 0), (38, .getfield 7), (41, .iload_n 3), (42, .iaload), (43, .iastore), (44, .iinc 3 1), (47, .goto (-22)), (50, .aload_n 0), (51, .iload_n 1), (52, .invokevirtual 417), (55, .istore_n 3), (56, .iload_n 3), (57, .ifCond .ge 5), (60, .iconst (-1)), (61, .ireturn), (62, .iload_n 2), (63, .ifCond .ne 7), (66, .iload_n 3), (67, .goto 23), (70, .iload_n 2), (71, .iconst 1), (72, .if_icmp .ne 10), (75, .aload_n 0), (76, .getfield 272), (79, .goto 11), (82, .aload_n 0), (83, .aload_n 0), (84, .invokevirtual 199), (87, .invokevirtual 229), (90, .istore_n 3), (91, .iconst 0), (92, .istore 4), (94, .iload 4), (96, .sipush 4236), (99, .if_icmp .ge 23), (102, .aload_n 0), (103, .getfield 7), (106, .iload 4), (108, .aload_n 0), (109, .getfield 16), (112, .iload 4), (114, .iaload), (115, .iastore), (116, .iinc 4 1), (119, .goto (-25)), (122, .iload_n 3), (123, .ireturn)], ([(15, [true, true, true, false, false]), (25, [true, true, true, true, false]), (94, [true, false, false, true, true])], zp_9)))
def mc9_tells : zv_M := ((RX9, (⟨RX9, "tells", "(I)V"⟩, (prog_11_method_114_code, (2, none)))), ([(0, .aload_n 0), (1, .getfield 138), (4, .aload_n 0), (5, .getfield 467), (8, .iload_n 1), (9, .iastore), (10, .aload_n 0), (11, .dup), (12, .getfield 467), (15, .iconst 1), (16, .iadd), (17, .putfield 467), (20, .return_)], ([], zp_9)))
def mc9_tellsNumber : zv_M := ((RX9, (⟨RX9, "tellsNumber", "(I)V"⟩, (prog_11_method_115_code, (2, none)))), ([(0, .iload_n 1), (1, .bipush 9), (3, .if_icmp .le 14), (6, .aload_n 0), (7, .bipush 48), (9, .iload_n 1), (10, .bipush 10), (12, .idiv), (13, .iadd), (14, .invokevirtual 470), (17, .aload_n 0), (18, .bipush 48), (20, .iload_n 1), (21, .bipush 10), (23, .irem), (24, .iadd), (25, .invokevirtual 470), (28, .return_)], ([(17, [true, true])], zp_9)))
def mc9_tellsNames : zv_M := ((RX9, (⟨RX9, "tellsNames", "()V"⟩, (prog_11_method_116_code, (4, none)))), ([(0, .iconst 0), (1, .istore_n 1), (2, .iload_n 1), (3, .aload_n 0), (4, .getfield 7), (7, .iconst 3), (8, .iaload), (9, .if_icmp .ge 88), (12, .iload_n 1), (13, .ifCond .le 9), (16, .aload_n 0), (17, .bipush 32), (19, .invokevirtual 470), (22, .aload_n 0), (23, .getfield 7), (26, .sipush 408), (29, .iconst 2), (30, .iload_n 1), (31, .imul), (32, .iadd), (33, .iaload), (34, .istore_n 2), (35, .bipush 25), (37, .istore_n 3), (38, .iload_n 3), (39, .ifCond .lt 28), (42, .iload_n 2), (43, .iload_n 3), (44, .ishr), (45, .ifCond .le 16), (48, .aload_n 0), (49, .bipush 96), (51, .iload_n 2), (52, .iload_n 3), (53, .ishr), (54, .bipush 31), (56, .iand), (57, .iadd), (58, .invokevirtual 470), (61, .iinc 3 (-5)), (64, .goto (-26)), (67, .aload_n 0), (68, .bipush 61), (70, .invokevirtual 470), (73, .aload_n 0), (74, .aload_n 0), (75, .getfield 7), (78, .sipush 408), (81, .iconst 2), (82, .iload_n 1), (83, .imul), (84, .iadd), (85, .iconst 1), (86, .iadd), (87, .iaload), (88, .invokevirtual 473), (91, .iinc 1 1), (94, .goto (-92)), (97, .return_)], ([(2, [true, true, false, false]), (38, [true, true, true, true])], zp_9)))
def mc9_tell : zv_M := ((RX9, (⟨RX9, "tell", "(I)I"⟩, (prog_11_method_117_code, (3, (some .int))))), ([(0, .aload_n 0), (1, .iload_n 1), (2, .iconst 0), (3, .iconst 2), (4, .invokestatic 154), (7, .ifCond .eq 7), (10, .iconst 0), (11, .goto 4), (14, .iconst 1), (15, .invokevirtual 423), (18, .ifCond .ne 5), (21, .iconst (-1)), (22, .ireturn), (23, .aload_n 0), (24, .iconst 0), (25, .putfield 467), (28, .aload_n 0), (29, .aload_n 0), (30, .invokevirtual 199), (33, .invokevirtual 193), (36, .iconst 0), (37, .istore_n 2), (38, .iload_n 2), (39, .aload_n 0), (40, .getfield 162), (43, .if_icmp .ge 34), (46, .iload_n 1), (47, .ifCond .ne 30), (50, .aload_n 0), (51, .getfield 32), (54, .iload_n 2), (55, .baload), (56, .ifCond .eq 15), (59, .aload_n 0), (60, .bipush 97), (62, .aload_n 0), (63, .iload_n 2), (64, .invokevirtual 196), (67, .iadd), (68, .invokevirtual 470), (71, .iinc 2 1), (74, .goto (-36)), (77, .iconst 0), (78, .istore_n 2), (79, .iload_n 2), (80, .aload_n 0), (81, .getfield 168), (84, .if_icmp .ge 34), (87, .iload_n 1), (88, .iconst 1), (89, .if_icmp .ne 29), (92, .iload_n 2), (93, .ifCond .le 9), (96, .aload_n 0), (97, .bipush 60), (99, .invokevirtual 470), (102, .aload_n 0), (103, .aload_n 0), (104, .getfield 19), (107, .iload_n 2), (108, .iaload), (109, .invokevirtual 473), (112, .iinc 2 1), (115, .goto (-36)), (118, .iload_n 1), (119, .iconst 2), (120, .if_icmp .ne 7), (123, .aload_n 0), (124, .invokevirtual 476), (127, .aload_n 0), (128, .getfield 467), (131, .ireturn)], ([(15, [true, true, false]), (38, [true, true, true]), (79, [true, true, true]), (102, [true, true, true]), (118, [true, true, false])], zp_9)))
def mc9_out : zv_M := ((RX9, (⟨RX9, "out", "(I)I"⟩, (prog_11_method_118_code, (2, (some .int))))), ([(0, .aload_n 0), (1, .iload_n 1), (2, .ifCond .ge 7), (5, .iconst 1), (6, .goto 16), (9, .iload_n 1), (10, .aload_n 0), (11, .getfield 467), (14, .if_icmp .lt 7), (17, .iconst 5), (18, .goto 4), (21, .iconst 0), (22, .invokevirtual 423), (25, .ifCond .eq 12), (28, .aload_n 0), (29, .getfield 138), (32, .iload_n 1), (33, .iaload), (34, .goto 4), (37, .iconst (-1)), (38, .ireturn)], ([(22, [true, true])], zp_9)))
def mc9_leaning : zv_M := ((RX9, (⟨RX9, "leaning", "(II)I"⟩, (prog_11_method_119_code, (5, (some .int))))), ([(0, .aload_n 0), (1, .iload_n 2), (2, .iconst 0), (3, .iconst 3), (4, .invokestatic 154), (7, .ifCond .ne 7), (10, .iconst 1), (11, .goto 41), (14, .aload_n 0), (15, .iload_n 1), (16, .invokevirtual 203), (19, .ifCond .ne 7), (22, .iconst 2), (23, .goto 29), (26, .aload_n 0), (27, .iload_n 1), (28, .aload_n 0), (29, .invokevirtual 199), (32, .invokevirtual 206), (35, .ifCond .eq 11), (38, .aload_n 0), (39, .iload_n 1), (40, .invokevirtual 179), (43, .ifCond .ne 8), (46, .bipush 7), (48, .goto 4), (51, .iconst 0), (52, .invokevirtual 423), (55, .ifCond .ne 5), (58, .iconst (-1)), (59, .ireturn), (60, .aload_n 0), (61, .iload_n 1), (62, .iconst 0), (63, .invokevirtual 298), (66, .iload_n 2), (67, .iconst 3), (68, .if_icmp .ne 16), (71, .aload_n 0), (72, .iconst 2), (73, .invokevirtual 302), (76, .pop), (77, .aload_n 0), (78, .bipush 48), (80, .invokevirtual 229), (83, .ireturn), (84, .iconst 0), (85, .istore_n 3), (86, .iconst 1), (87, .istore 4), (89, .iload 4), (91, .aload_n 0), (92, .getfield 168), (95, .if_icmp .ge 56), (98, .iload_n 2), (99, .iconst 2), (100, .if_icmp .ge 51), (103, .iload_n 3), (104, .aload_n 0), (105, .getfield 62), (108, .aload_n 0), (109, .getfield 19), (112, .iload 4), (114, .iaload), (115, .baload), (116, .ifCond .eq 26), (119, .iload_n 2), (120, .ifCond .eq 18), (123, .aload_n 0), (124, .getfield 28), (127, .aload_n 0), (128, .getfield 19), (131, .iload 4), (133, .iaload), (134, .baload), (135, .ifCond .eq 7), (138, .iconst 1), (139, .goto 4), (142, .iconst 0), (143, .iadd), (144, .istore_n 3), (145, .iinc 4 1), (148, .goto (-59)), (151, .iconst 0), (152, .istore 4), (154, .iload 4), (156, .aload_n 0), (157, .getfield 162), (160, .if_icmp .ge 47), (163, .iload_n 2), (164, .iconst 2), (165, .if_icmp .ne 42), (168, .iload_n 3), (169, .aload_n 0), (170, .getfield 32), (173, .iload 4), (175, .baload), (176, .ifCond .eq 22), (179, .aload_n 0), (180, .getfield 62), (183, .aload_n 0), (184, .getfield 22), (187, .iload 4), (189, .iaload), (190, .baload), (191, .ifCond .eq 7), (194, .iconst 1), (195, .goto 4), (198, .iconst 0), (199, .iadd), (200, .istore_n 3), (201, .iinc 4 1), (204, .goto (-50)), (207, .iload_n 3), (208, .ireturn)], ([(46, [true, true, true, false, false]), (52, [true, true, true, false, false]), (89, [true, false, true, true, true]), (154, [true, false, true, true, true])], zp_9)))
def mc9_placeIn : zv_M := ((RX9, (⟨RX9, "placeIn", "(I)I"⟩, (prog_11_method_120_code, (6, (some .int))))), ([(0, .aload_n 0), (1, .iload_n 1), (2, .aload_n 0), (3, .getfield 35), (6, .invokevirtual 457), (9, .istore_n 2), (10, .iconst 0), (11, .istore_n 3), (12, .iload_n 3), (13, .aload_n 0), (14, .getfield 223), (17, .iadd), (18, .iload_n 2), (19, .if_icmp .gt 68), (22, .iconst 1), (23, .istore 4), (25, .iconst 0), (26, .istore 5), (28, .iload 5), (30, .aload_n 0), (31, .getfield 223), (34, .if_icmp .ge 40), (37, .iload 4), (39, .ifCond .eq 35), (42, .aload_n 0), (43, .getfield 35), (46, .iload_n 3), (47, .iload 5), (49, .iadd), (50, .iaload), (51, .aload_n 0), (52, .getfield 50), (55, .iload 5), (57, .iaload), (58, .if_icmp .ne 7), (61, .iconst 1), (62, .goto 4), (65, .iconst 0), (66, .istore 4), (68, .iinc 5 1), (71, .goto (-43)), (74, .iload 4), (76, .ifCond .eq 5), (79, .iload_n 3), (80, .ireturn), (81, .iinc 3 1), (84, .goto (-72)), (87, .iconst (-1)), (88, .ireturn)], ([(12, [true, false, true, true, false, false]), (28, [true, false, true, true, true, true]), (74, [true, false, true, true, true, false])], zp_9)))
def mc9_find : zv_M := ((RX9, (⟨RX9, "find", "(I)I"⟩, (prog_11_method_121_code, (5, (some .int))))), ([(0, .aload_n 0), (1, .iload_n 1), (2, .iconst 0), (3, .iconst 2), (4, .invokestatic 154), (7, .ifCond .eq 14), (10, .aload_n 0), (11, .getfield 223), (14, .ifCond .le 7), (17, .iconst 0), (18, .goto 4), (21, .iconst 1), (22, .invokevirtual 423), (25, .ifCond .ne 5), (28, .iconst (-1)), (29, .ireturn), (30, .iconst 0), (31, .istore_n 2), (32, .iconst (-1)), (33, .istore_n 3), (34, .bipush 47), (36, .istore 4), (38, .iload 4), (40, .ifCond .lt 41), (43, .iload_n 1), (44, .iconst 2), (45, .if_icmp .ge 36), (48, .aload_n 0), (49, .iload 4), (51, .invokevirtual 203), (54, .ifCond .eq 21), (57, .aload_n 0), (58, .iload 4), (60, .invokevirtual 479), (63, .ifCond .ge 6), (66, .goto 9), (69, .iinc 2 1), (72, .iload 4), (74, .istore_n 3), (75, .iinc 4 (-1)), (78, .goto (-40)), (81, .iload_n 1), (82, .iconst 2), (83, .if_icmp .ne 14), (86, .aload_n 0), (87, .aload_n 0), (88, .invokevirtual 199), (91, .invokevirtual 479), (94, .goto 13), (97, .iload_n 1), (98, .iconst 1), (99, .if_icmp .ne 7), (102, .iload_n 2), (103, .goto 4), (106, .iload_n 3), (107, .istore 4), (109, .iload 4), (111, .ifCond .ge 11), (114, .aload_n 0), (115, .iconst 5), (116, .invokevirtual 232), (119, .goto 5), (122, .iload 4), (124, .ireturn)], ([(21, [true, true, false, false, false]), (22, [true, true, false, false, false]), (38, [true, true, true, true, true]), (81, [true, true, true, true, false]), (107, [true, false, false, false, false])], zp_9)))
def mc9_first : zv_M := ((RX9, (⟨RX9, "first", "()I"⟩, (prog_11_method_122_code, (2, (some .int))))), ([(0, .aload_n 0), (1, .iconst 0), (2, .invokevirtual 423), (5, .pop), (6, .aload_n 0), (7, .invokevirtual 451), (10, .istore_n 1), (11, .iload_n 1), (12, .ifCond .ge 11), (15, .aload_n 0), (16, .iconst 5), (17, .invokevirtual 232), (20, .goto 4), (23, .iload_n 1), (24, .ireturn)], ([], zp_9)))
def mc9_twin : zv_M := ((RX9, (⟨RX9, "twin", "(I)I"⟩, (prog_11_method_123_code, (3, (some .int))))), ([(0, .aload_n 0), (1, .aload_n 0), (2, .iload_n 1), (3, .invokevirtual 203), (6, .ifCond .eq 7), (9, .iconst 0), (10, .goto 4), (13, .iconst 2), (14, .invokevirtual 423), (17, .ifCond .ne 5), (20, .iconst (-1)), (21, .ireturn), (22, .iconst 0), (23, .istore_n 2), (24, .iload_n 2), (25, .bipush 48), (27, .if_icmp .ge 33), (30, .aload_n 0), (31, .iload_n 2), (32, .invokevirtual 203), (35, .ifCond .eq 19), (38, .iload_n 2), (39, .iload_n 1), (40, .if_icmp .eq 14), (43, .aload_n 0), (44, .iload_n 2), (45, .iload_n 1), (46, .invokevirtual 461), (49, .ifCond .ge 5), (52, .iload_n 2), (53, .ireturn), (54, .iinc 2 1), (57, .goto (-33)), (60, .aload_n 0), (61, .iconst 5), (62, .invokevirtual 232), (65, .ireturn)], ([(14, [true, true, false]), (24, [true, true, true])], zp_9)))
def mc9_back : zv_M := ((RX9, (⟨RX9, "back", "(I)I"⟩, (prog_11_method_124_code, (4, (some .int))))), ([(0, .aload_n 0), (1, .iload_n 1), (2, .iconst 1), (3, .bipush 48), (5, .invokestatic 154), (8, .ifCond .eq 7), (11, .iconst 0), (12, .goto 4), (15, .iconst 1), (16, .invokevirtual 423), (19, .ifCond .ne 5), (22, .iconst (-1)), (23, .ireturn), (24, .aload_n 0), (25, .invokevirtual 199), (28, .istore_n 2), (29, .iconst 0), (30, .istore_n 3), (31, .iload_n 3), (32, .iload_n 1), (33, .if_icmp .ge 32), (36, .iload_n 2), (37, .ifCond .ne 9), (40, .aload_n 0), (41, .iconst 5), (42, .invokevirtual 232), (45, .ireturn), (46, .aload_n 0), (47, .aload_n 0), (48, .iload_n 2), (49, .bipush 6), (51, .invokevirtual 158), (54, .iconst 1), (55, .invokevirtual 158), (58, .istore_n 2), (59, .iinc 3 1), (62, .goto (-31)), (65, .iload_n 2), (66, .ireturn)], ([(16, [true, true, false, false]), (31, [true, true, true, true])], zp_9)))
def mc12_bitCount : zv_M := (("java/lang/Long", (⟨"java/lang/Long", "bitCount", "(J)I"⟩, (prog_13_method_50_code, (2, (some .int))))), ([(0, .lload_n 0), (1, .lload_n 0), (2, .iconst 1), (3, .lushr), (4, .ldc2_w 314), (7, .land), (8, .lsub), (9, .lstore_n 0), (10, .lload_n 0), (11, .ldc2_w 316), (14, .land), (15, .lload_n 0), (16, .iconst 2), (17, .lushr), (18, .ldc2_w 316), (21, .land), (22, .ladd), (23, .lstore_n 0), (24, .lload_n 0), (25, .lload_n 0), (26, .iconst 4), (27, .lushr), (28, .ladd), (29, .ldc2_w 318), (32, .land), (33, .lstore_n 0), (34, .lload_n 0), (35, .lload_n 0), (36, .bipush 8), (38, .lushr), (39, .ladd), (40, .lstore_n 0), (41, .lload_n 0), (42, .lload_n 0), (43, .bipush 16), (45, .lushr), (46, .ladd), (47, .lstore_n 0), (48, .lload_n 0), (49, .lload_n 0), (50, .bipush 32), (52, .lushr), (53, .ladd), (54, .lstore_n 0), (55, .lload_n 0), (56, .l2i), (57, .bipush 127), (59, .iand), (60, .ireturn)], ([], zp_12)))
def mc13_coder : zv_M := (("java/lang/String", (⟨"java/lang/String", "coder", "()B"⟩, (prog_15_method_152_code, (1, (some .byte))))), ([(0, .getstatic 38), (3, .ifCond .eq 10), (6, .aload_n 0), (7, .getfield 15), (10, .goto 4), (13, .iconst 1), (14, .ireturn)], ([], zp_13)))
def mc13_isLatin1 : zv_M := (("java/lang/String", (⟨"java/lang/String", "isLatin1", "()Z"⟩, (prog_15_method_154_code, (1, (some .boolean))))), ([(0, .getstatic 38), (3, .ifCond .eq 14), (6, .aload_n 0), (7, .getfield 15), (10, .ifCond .ne 7), (13, .iconst 1), (14, .goto 4), (17, .iconst 0), (18, .ireturn)], ([], zp_13)))
def mc13_length : zv_M := (("java/lang/String", (⟨"java/lang/String", "length", "()I"⟩, (prog_15_method_54_code, (1, (some .int))))), ([(0, .aload_n 0), (1, .getfield 9), (4, .arraylength), (5, .aload_n 0), (6, .invokevirtual 335), (9, .ishr), (10, .ireturn)], ([], zp_13)))
def mc14_charAt : zv_M := (("java/lang/StringLatin1", (⟨"java/lang/StringLatin1", "charAt", "([BI)C"⟩, (prog_16_method_2_code, (2, (some .char))))), ([(0, .iload_n 1), (1, .aload_n 0), (2, .arraylength), (3, .invokestatic 9), (6, .aload_n 0), (7, .iload_n 1), (8, .baload), (9, .sipush 255), (12, .iand), (13, .i2c), (14, .ireturn)], ([], zp_14)))
def mc13_charAt : zv_M := (("java/lang/String", (⟨"java/lang/String", "charAt", "(I)C"⟩, (prog_15_method_56_code, (2, (some .char))))), ([(0, .aload_n 0), (1, .invokevirtual 492), (4, .ifCond .eq 12), (7, .aload_n 0), (8, .getfield 9), (11, .iload_n 1), (12, .invokestatic 495), (15, .ireturn), (16, .aload_n 0), (17, .getfield 9), (20, .iload_n 1), (21, .invokestatic 498), (24, .ireturn)], ([], zp_13)))
def mc14_canEncode : zv_M := (("java/lang/StringLatin1", (⟨"java/lang/StringLatin1", "canEncode", "(I)Z"⟩, (prog_16_method_4_code, (1, (some .boolean))))), ([(0, .iload_n 0), (1, .ifCond .lt 14), (4, .iload_n 0), (5, .sipush 255), (8, .if_icmp .gt 7), (11, .iconst 1), (12, .goto 4), (15, .iconst 0), (16, .ireturn)], ([], zp_14)))
def mc14_indexOfChar : zv_M := (("java/lang/StringLatin1", (⟨"java/lang/StringLatin1", "indexOfChar", "([BIII)I"⟩, (prog_16_method_23_code, (6, (some .int))))), ([(0, .iload_n 1), (1, .i2b), (2, .istore 4), (4, .iload_n 2), (5, .istore 5), (7, .iload 5), (9, .iload_n 3), (10, .if_icmp .ge 21), (13, .aload_n 0), (14, .iload 5), (16, .baload), (17, .iload 4), (19, .if_icmp .ne 6), (22, .iload 5), (24, .ireturn), (25, .iinc 5 1), (28, .goto (-21)), (31, .iconst (-1)), (32, .ireturn)], ([(7, [true, false, false, true, true, true])], zp_14)))
def mc14_indexOf : zv_M := (("java/lang/StringLatin1", (⟨"java/lang/StringLatin1", "indexOf", "([BIII)I"⟩, (prog_16_method_22_code, (4, (some .int))))), ([(0, .iload_n 1), (1, .invokestatic 88), (4, .ifCond .ne 5), (7, .iconst (-1)), (8, .ireturn), (9, .iload_n 2), (10, .iconst 0), (11, .invokestatic 92), (14, .istore_n 2), (15, .iload_n 3), (16, .aload_n 0), (17, .arraylength), (18, .invokestatic 38), (21, .istore_n 3), (22, .iload_n 2), (23, .iload_n 3), (24, .if_icmp .lt 5), (27, .iconst (-1)), (28, .ireturn), (29, .aload_n 0), (30, .iload_n 1), (31, .iload_n 2), (32, .iload_n 3), (33, .invokestatic 95), (36, .ireturn)], ([], zp_14)))
def mc13_indexOf2 : zv_M := (("java/lang/String", (⟨"java/lang/String", "indexOf", "(II)I"⟩, (prog_15_method_80_code, (3, (some .int))))), ([(0, .aload_n 0), (1, .invokevirtual 492), (4, .ifCond .eq 19), (7, .aload_n 0), (8, .getfield 9), (11, .iload_n 1), (12, .iload_n 2), (13, .aload_n 0), (14, .invokevirtual 505), (17, .invokestatic 637), (20, .goto 16), (23, .aload_n 0), (24, .getfield 9), (27, .iload_n 1), (28, .iload_n 2), (29, .aload_n 0), (30, .invokevirtual 505), (33, .invokestatic 640), (36, .ireturn)], ([], zp_13)))
def mc13_indexOf : zv_M := (("java/lang/String", (⟨"java/lang/String", "indexOf", "(I)I"⟩, (prog_15_method_79_code, (2, (some .int))))), ([(0, .aload_n 0), (1, .iload_n 1), (2, .iconst 0), (3, .invokevirtual 633), (6, .ireturn)], ([], zp_13)))
def mcL_law : zv_M := ((R_law, (x, (code, (4, (some .boolean))))), ([(0, .new 7), (3, .dup), (4, .invokespecial 9), (7, .astore_n 1), (8, .new 10), (11, .dup), (12, .invokespecial 12), (15, .astore_n 2), (16, .iconst 0), (17, .istore_n 3), (18, .iload_n 3), (19, .aload_n 0), (20, .arraylength), (21, .bipush 6), (23, .isub), (24, .if_icmp .gt 1260), (27, .aload_n 0), (28, .iload_n 3), (29, .iaload), (30, .bipush 63), (32, .iand), (33, .tableswitch 1245 0 39 #[175, 188, 251, 274, 297, 330, 353, 386, 419, 452, 485, 518, 551, 584, 597, 630, 653, 686, 709, 722, 735, 758, 771, 784, 807, 830, 853, 876, 899, 932, 975, 1018, 1051, 1084, 1107, 1130, 1163, 1186, 1199, 1222]), (208, .aload_n 1), (209, .invokevirtual 13), (212, .pop), (213, .aload_n 2), (214, .invokevirtual 17), (217, .pop), (218, .goto 1060), (221, .aload_n 1), (222, .aload_n 0), (223, .iload_n 3), (224, .iconst 1), (225, .iadd), (226, .iaload), (227, .aload_n 0), (228, .iload_n 3), (229, .iconst 2), (230, .iadd), (231, .iaload), (232, .aload_n 0), (233, .iload_n 3), (234, .iconst 3), (235, .iadd), (236, .iaload), (237, .aload_n 0), (238, .iload_n 3), (239, .iconst 4), (240, .iadd), (241, .iaload), (242, .aload_n 0), (243, .iload_n 3), (244, .iconst 5), (245, .iadd), (246, .iaload), (247, .invokevirtual 18), (250, .aload_n 2), (251, .aload_n 0), (252, .iload_n 3), (253, .iconst 1), (254, .iadd), (255, .iaload), (256, .aload_n 0), (257, .iload_n 3), (258, .iconst 2), (259, .iadd), (260, .iaload), (261, .aload_n 0), (262, .iload_n 3), (263, .iconst 3), (264, .iadd), (265, .iaload), (266, .aload_n 0), (267, .iload_n 3), (268, .iconst 4), (269, .iadd), (270, .iaload), (271, .aload_n 0), (272, .iload_n 3), (273, .iconst 5), (274, .iadd), (275, .iaload), (276, .invokevirtual 22), (279, .if_icmp .eq 999), (282, .iconst 0), (283, .ireturn), (284, .aload_n 1), (285, .aload_n 0), (286, .iload_n 3), (287, .iconst 1), (288, .iadd), (289, .iaload), (290, .invokevirtual 23), (293, .pop), (294, .aload_n 2), (295, .aload_n 0), (296, .iload_n 3), (297, .iconst 1), (298, .iadd), (299, .iaload), (300, .invokevirtual 27), (303, .pop), (304, .goto 974), (307, .aload_n 1), (308, .aload_n 0), (309, .iload_n 3), (310, .iconst 1), (311, .iadd), (312, .iaload), (313, .invokevirtual 28), (316, .pop), (317, .aload_n 2), (318, .aload_n 0), (319, .iload_n 3), (320, .iconst 1), (321, .iadd), (322, .iaload), (323, .invokevirtual 31), (326, .pop), (327, .goto 951), (330, .aload_n 1), (331, .aload_n 0), (332, .iload_n 3), (333, .iconst 1), (334, .iadd), (335, .iaload), (336, .aload_n 0), (337, .iload_n 3), (338, .iconst 2), (339, .iadd), (340, .iaload), (341, .invokevirtual 32), (344, .pop), (345, .aload_n 2), (346, .aload_n 0), (347, .iload_n 3), (348, .iconst 1), (349, .iadd), (350, .iaload), (351, .aload_n 0), (352, .iload_n 3), (353, .iconst 2), (354, .iadd), (355, .iaload), (356, .invokevirtual 36), (359, .pop), (360, .goto 918), (363, .aload_n 1), (364, .aload_n 0), (365, .iload_n 3), (366, .iconst 1), (367, .iadd), (368, .iaload), (369, .invokevirtual 37), (372, .pop), (373, .aload_n 2), (374, .aload_n 0), (375, .iload_n 3), (376, .iconst 1), (377, .iadd), (378, .iaload), (379, .invokevirtual 40), (382, .pop), (383, .goto 895), (386, .aload_n 1), (387, .aload_n 0), (388, .iload_n 3), (389, .iconst 1), (390, .iadd), (391, .iaload), (392, .aload_n 0), (393, .iload_n 3), (394, .iconst 2), (395, .iadd), (396, .iaload), (397, .invokevirtual 41), (400, .pop), (401, .aload_n 2), (402, .aload_n 0), (403, .iload_n 3), (404, .iconst 1), (405, .iadd), (406, .iaload), (407, .aload_n 0), (408, .iload_n 3), (409, .iconst 2), (410, .iadd), (411, .iaload), (412, .invokevirtual 44), (415, .pop), (416, .goto 862), (419, .aload_n 1), (420, .aload_n 0), (421, .iload_n 3), (422, .iconst 1), (423, .iadd), (424, .iaload), (425, .aload_n 0), (426, .iload_n 3), (427, .iconst 2), (428, .iadd), (429, .iaload), (430, .invokevirtual 45), (433, .pop), (434, .aload_n 2), (435, .aload_n 0), (436, .iload_n 3), (437, .iconst 1), (438, .iadd), (439, .iaload), (440, .aload_n 0), (441, .iload_n 3), (442, .iconst 2), (443, .iadd), (444, .iaload), (445, .invokevirtual 48), (448, .pop), (449, .goto 829), (452, .aload_n 1), (453, .aload_n 0), (454, .iload_n 3), (455, .iconst 1), (456, .iadd), (457, .iaload), (458, .aload_n 0), (459, .iload_n 3), (460, .iconst 2), (461, .iadd), (462, .iaload), (463, .invokevirtual 49), (466, .pop), (467, .aload_n 2), (468, .aload_n 0), (469, .iload_n 3), (470, .iconst 1), (471, .iadd), (472, .iaload), (473, .aload_n 0), (474, .iload_n 3), (475, .iconst 2), (476, .iadd), (477, .iaload), (478, .invokevirtual 52), (481, .pop), (482, .goto 796), (485, .aload_n 1), (486, .aload_n 0), (487, .iload_n 3), (488, .iconst 1), (489, .iadd), (490, .iaload), (491, .aload_n 0), (492, .iload_n 3), (493, .iconst 2), (494, .iadd), (495, .iaload), (496, .invokevirtual 53), (499, .pop), (500, .aload_n 2), (501, .aload_n 0), (502, .iload_n 3), (503, .iconst 1), (504, .iadd), (505, .iaload), (506, .aload_n 0), (507, .iload_n 3), (508, .iconst 2), (509, .iadd), (510, .iaload), (511, .invokevirtual 56), (514, .pop), (515, .goto 763), (518, .aload_n 1), (519, .aload_n 0), (520, .iload_n 3), (521, .iconst 1), (522, .iadd), (523, .iaload), (524, .aload_n 0), (525, .iload_n 3), (526, .iconst 2), (527, .iadd), (528, .iaload), (529, .invokevirtual 57), (532, .pop), (533, .aload_n 2), (534, .aload_n 0), (535, .iload_n 3), (536, .iconst 1), (537, .iadd), (538, .iaload), (539, .aload_n 0), (540, .iload_n 3), (541, .iconst 2), (542, .iadd), (543, .iaload), (544, .invokevirtual 60), (547, .pop), (548, .goto 730), (551, .aload_n 1), (552, .aload_n 0), (553, .iload_n 3), (554, .iconst 1), (555, .iadd), (556, .iaload), (557, .aload_n 0), (558, .iload_n 3), (559, .iconst 2), (560, .iadd), (561, .iaload), (562, .invokevirtual 61), (565, .pop), (566, .aload_n 2), (567, .aload_n 0), (568, .iload_n 3), (569, .iconst 1), (570, .iadd), (571, .iaload), (572, .aload_n 0), (573, .iload_n 3), (574, .iconst 2), (575, .iadd), (576, .iaload), (577, .invokevirtual 64), (580, .pop), (581, .goto 697), (584, .aload_n 1), (585, .aload_n 0), (586, .iload_n 3), (587, .iconst 1), (588, .iadd), (589, .iaload), (590, .aload_n 0), (591, .iload_n 3), (592, .iconst 2), (593, .iadd), (594, .iaload), (595, .invokevirtual 65), (598, .pop), (599, .aload_n 2), (600, .aload_n 0), (601, .iload_n 3), (602, .iconst 1), (603, .iadd), (604, .iaload), (605, .aload_n 0), (606, .iload_n 3), (607, .iconst 2), (608, .iadd), (609, .iaload), (610, .invokevirtual 68), (613, .pop), (614, .goto 664), (617, .aload_n 1), (618, .invokevirtual 69), (621, .pop), (622, .aload_n 2), (623, .invokevirtual 72), (626, .pop), (627, .goto 651), (630, .aload_n 1), (631, .aload_n 0), (632, .iload_n 3), (633, .iconst 1), (634, .iadd), (635, .iaload), (636, .aload_n 0), (637, .iload_n 3), (638, .iconst 2), (639, .iadd), (640, .iaload), (641, .invokevirtual 73), (644, .pop), (645, .aload_n 2), (646, .aload_n 0), (647, .iload_n 3), (648, .iconst 1), (649, .iadd), (650, .iaload), (651, .aload_n 0), (652, .iload_n 3), (653, .iconst 2), (654, .iadd), (655, .iaload), (656, .invokevirtual 76), (659, .pop), (660, .goto 618), (663, .aload_n 1), (664, .aload_n 0), (665, .iload_n 3), (666, .iconst 1), (667, .iadd), (668, .iaload), (669, .invokevirtual 77), (672, .pop), (673, .aload_n 2), (674, .aload_n 0), (675, .iload_n 3), (676, .iconst 1), (677, .iadd), (678, .iaload), (679, .invokevirtual 80), (682, .pop), (683, .goto 595), (686, .aload_n 1), (687, .aload_n 0), (688, .iload_n 3), (689, .iconst 1), (690, .iadd), (691, .iaload), (692, .aload_n 0), (693, .iload_n 3), (694, .iconst 2), (695, .iadd), (696, .iaload), (697, .invokevirtual 81), (700, .pop), (701, .aload_n 2), (702, .aload_n 0), (703, .iload_n 3), (704, .iconst 1), (705, .iadd), (706, .iaload), (707, .aload_n 0), (708, .iload_n 3), (709, .iconst 2), (710, .iadd), (711, .iaload), (712, .invokevirtual 84), (715, .pop), (716, .goto 562), (719, .aload_n 1), (720, .aload_n 0), (721, .iload_n 3), (722, .iconst 1), (723, .iadd), (724, .iaload), (725, .invokevirtual 85), (728, .pop), (729, .aload_n 2), (730, .aload_n 0), (731, .iload_n 3), (732, .iconst 1), (733, .iadd), (734, .iaload), (735, .invokevirtual 88), (738, .pop), (739, .goto 539), (742, .aload_n 1), (743, .invokevirtual 89), (746, .pop), (747, .aload_n 2), (748, .invokevirtual 92), (751, .pop), (752, .goto 526), (755, .aload_n 1), (756, .invokevirtual 93), (759, .pop), (760, .aload_n 2), (761, .invokevirtual 96), (764, .pop), (765, .goto 513), (768, .aload_n 1), (769, .aload_n 0), (770, .iload_n 3), (771, .iconst 1), (772, .iadd), (773, .iaload), (774, .invokevirtual 97), (777, .pop), (778, .aload_n 2), (779, .aload_n 0), (780, .iload_n 3), (781, .iconst 1), (782, .iadd), (783, .iaload), (784, .invokevirtual 100), (787, .pop), (788, .goto 490), (791, .aload_n 1), (792, .invokevirtual 101), (795, .pop), (796, .aload_n 2), (797, .invokevirtual 104), (800, .pop), (801, .goto 477), (804, .aload_n 1), (805, .invokevirtual 105), (808, .pop), (809, .aload_n 2), (810, .invokevirtual 108), (813, .pop), (814, .goto 464), (817, .aload_n 1), (818, .aload_n 0), (819, .iload_n 3), (820, .iconst 1), (821, .iadd), (822, .iaload), (823, .invokevirtual 109), (826, .pop), (827, .aload_n 2), (828, .aload_n 0), (829, .iload_n 3), (830, .iconst 1), (831, .iadd), (832, .iaload), (833, .invokevirtual 112), (836, .pop), (837, .goto 441), (840, .aload_n 1), (841, .aload_n 0), (842, .iload_n 3), (843, .iconst 1), (844, .iadd), (845, .iaload), (846, .invokevirtual 113), (849, .pop), (850, .aload_n 2), (851, .aload_n 0), (852, .iload_n 3), (853, .iconst 1), (854, .iadd), (855, .iaload), (856, .invokevirtual 116), (859, .pop), (860, .goto 418), (863, .aload_n 1), (864, .aload_n 0), (865, .iload_n 3), (866, .iconst 1), (867, .iadd), (868, .iaload), (869, .invokevirtual 117), (872, .pop), (873, .aload_n 2), (874, .aload_n 0), (875, .iload_n 3), (876, .iconst 1), (877, .iadd), (878, .iaload), (879, .invokevirtual 120), (882, .pop), (883, .goto 395), (886, .aload_n 1), (887, .aload_n 0), (888, .iload_n 3), (889, .iconst 1), (890, .iadd), (891, .iaload), (892, .invokevirtual 121), (895, .pop), (896, .aload_n 2), (897, .aload_n 0), (898, .iload_n 3), (899, .iconst 1), (900, .iadd), (901, .iaload), (902, .invokevirtual 124), (905, .pop), (906, .goto 372), (909, .aload_n 1), (910, .aload_n 0), (911, .iload_n 3), (912, .iconst 1), (913, .iadd), (914, .iaload), (915, .invokevirtual 125), (918, .pop), (919, .aload_n 2), (920, .aload_n 0), (921, .iload_n 3), (922, .iconst 1), (923, .iadd), (924, .iaload), (925, .invokevirtual 128), (928, .pop), (929, .goto 349), (932, .aload_n 1), (933, .aload_n 0), (934, .iload_n 3), (935, .iconst 1), (936, .iadd), (937, .iaload), (938, .aload_n 0), (939, .iload_n 3), (940, .iconst 2), (941, .iadd), (942, .iaload), (943, .invokevirtual 129), (946, .pop), (947, .aload_n 2), (948, .aload_n 0), (949, .iload_n 3), (950, .iconst 1), (951, .iadd), (952, .iaload), (953, .aload_n 0), (954, .iload_n 3), (955, .iconst 2), (956, .iadd), (957, .iaload), (958, .invokevirtual 132), (961, .pop), (962, .goto 316), (965, .aload_n 1), (966, .aload_n 0), (967, .iload_n 3), (968, .iconst 1), (969, .iadd), (970, .iaload), (971, .aload_n 0), (972, .iload_n 3), (973, .iconst 2), (974, .iadd), (975, .iaload), (976, .aload_n 0), (977, .iload_n 3), (978, .iconst 3), (979, .iadd), (980, .iaload), (981, .invokevirtual 133), (984, .pop), (985, .aload_n 2), (986, .aload_n 0), (987, .iload_n 3), (988, .iconst 1), (989, .iadd), (990, .iaload), (991, .aload_n 0), (992, .iload_n 3), (993, .iconst 2), (994, .iadd), (995, .iaload), (996, .aload_n 0), (997, .iload_n 3), (998, .iconst 3), (999, .iadd), (1000, .iaload), (1001, .invokevirtual 137), (1004, .pop), (1005, .goto 273), (1008, .aload_n 1), (1009, .aload_n 0), (1010, .iload_n 3), (1011, .iconst 1), (1012, .iadd), (1013, .iaload), (1014, .aload_n 0), (1015, .iload_n 3), (1016, .iconst 2), (1017, .iadd), (1018, .iaload), (1019, .aload_n 0), (1020, .iload_n 3), (1021, .iconst 3), (1022, .iadd), (1023, .iaload), (1024, .invokevirtual 138), (1027, .pop), (1028, .aload_n 2), (1029, .aload_n 0), (1030, .iload_n 3), (1031, .iconst 1), (1032, .iadd), (1033, .iaload), (1034, .aload_n 0), (1035, .iload_n 3), (1036, .iconst 2), (1037, .iadd), (1038, .iaload), (1039, .aload_n 0), (1040, .iload_n 3), (1041, .iconst 3), (1042, .iadd), (1043, .iaload), (1044, .invokevirtual 141), (1047, .pop), (1048, .goto 230), (1051, .aload_n 1), (1052, .aload_n 0), (1053, .iload_n 3), (1054, .iconst 1), (1055, .iadd), (1056, .iaload), (1057, .aload_n 0), (1058, .iload_n 3), (1059, .iconst 2), (1060, .iadd), (1061, .iaload), (1062, .invokevirtual 142), (1065, .pop), (1066, .aload_n 2), (1067, .aload_n 0), (1068, .iload_n 3), (1069, .iconst 1), (1070, .iadd), (1071, .iaload), (1072, .aload_n 0), (1073, .iload_n 3), (1074, .iconst 2), (1075, .iadd), (1076, .iaload), (1077, .invokevirtual 145), (1080, .pop), (1081, .goto 197), (1084, .aload_n 1), (1085, .aload_n 0), (1086, .iload_n 3), (1087, .iconst 1), (1088, .iadd), (1089, .iaload), (1090, .aload_n 0), (1091, .iload_n 3), (1092, .iconst 2), (1093, .iadd), (1094, .iaload), (1095, .invokevirtual 146), (1098, .pop), (1099, .aload_n 2), (1100, .aload_n 0), (1101, .iload_n 3), (1102, .iconst 1), (1103, .iadd), (1104, .iaload), (1105, .aload_n 0), (1106, .iload_n 3), (1107, .iconst 2), (1108, .iadd), (1109, .iaload), (1110, .invokevirtual 149), (1113, .pop), (1114, .goto 164), (1117, .aload_n 1), (1118, .aload_n 0), (1119, .iload_n 3), (1120, .iconst 1), (1121, .iadd), (1122, .iaload), (1123, .invokevirtual 150), (1126, .pop), (1127, .aload_n 2), (1128, .aload_n 0), (1129, .iload_n 3), (1130, .iconst 1), (1131, .iadd), (1132, .iaload), (1133, .invokevirtual 153), (1136, .pop), (1137, .goto 141), (1140, .aload_n 1), (1141, .aload_n 0), (1142, .iload_n 3), (1143, .iconst 1), (1144, .iadd), (1145, .iaload), (1146, .invokevirtual 154), (1149, .pop), (1150, .aload_n 2), (1151, .aload_n 0), (1152, .iload_n 3), (1153, .iconst 1), (1154, .iadd), (1155, .iaload), (1156, .invokevirtual 157), (1159, .pop), (1160, .goto 118), (1163, .aload_n 1), (1164, .aload_n 0), (1165, .iload_n 3), (1166, .iconst 1), (1167, .iadd), (1168, .iaload), (1169, .aload_n 0), (1170, .iload_n 3), (1171, .iconst 2), (1172, .iadd), (1173, .iaload), (1174, .invokevirtual 158), (1177, .pop), (1178, .aload_n 2), (1179, .aload_n 0), (1180, .iload_n 3), (1181, .iconst 1), (1182, .iadd), (1183, .iaload), (1184, .aload_n 0), (1185, .iload_n 3), (1186, .iconst 2), (1187, .iadd), (1188, .iaload), (1189, .invokevirtual 161), (1192, .pop), (1193, .goto 85), (1196, .aload_n 1), (1197, .aload_n 0), (1198, .iload_n 3), (1199, .iconst 1), (1200, .iadd), (1201, .iaload), (1202, .invokevirtual 162), (1205, .pop), (1206, .aload_n 2), (1207, .aload_n 0), (1208, .iload_n 3), (1209, .iconst 1), (1210, .iadd), (1211, .iaload), (1212, .invokevirtual 165), (1215, .pop), (1216, .goto 62), (1219, .aload_n 1), (1220, .invokevirtual 166), (1223, .pop), (1224, .aload_n 2), (1225, .invokevirtual 169), (1228, .pop), (1229, .goto 49), (1232, .aload_n 1), (1233, .aload_n 0), (1234, .iload_n 3), (1235, .iconst 1), (1236, .iadd), (1237, .iaload), (1238, .invokevirtual 170), (1241, .pop), (1242, .aload_n 2), (1243, .aload_n 0), (1244, .iload_n 3), (1245, .iconst 1), (1246, .iadd), (1247, .iaload), (1248, .invokevirtual 173), (1251, .pop), (1252, .goto 26), (1255, .aload_n 1), (1256, .aload_n 0), (1257, .iload_n 3), (1258, .iconst 1), (1259, .iadd), (1260, .iaload), (1261, .invokevirtual 174), (1264, .pop), (1265, .aload_n 2), (1266, .aload_n 0), (1267, .iload_n 3), (1268, .iconst 1), (1269, .iadd), (1270, .iaload), (1271, .invokevirtual 177), (1274, .pop), (1275, .goto 3), (1278, .iinc 3 6), (1281, .goto (-1263)), (1284, .iconst 1), (1285, .ireturn)], ([(18, [true, true, true, true])], zp_10)))
def zp_c0 : List (Option Nat × zv_M) := [(some 0, mc0_init), (some 0, mc0_begin), (some 0, mc0_startWith), (some 0, mc0_at), (some 0, mc0_glyph), (some 0, mc0_setGlyph), (some 0, mc0_letterAt), (some 0, mc0_rowOfHere), (some 0, mc0_leaves), (some 0, mc0_groups), (some 0, mc0_childOf), (some 0, mc0_findNewest), (some 0, mc0_newestChild), (none, mc0_onLine), (none, mc0_above), (some 0, mc0_lettersOfHereBy)]
def zp_c1 : List (Option Nat × zv_M) := [(some 0, mc0_moveTo), (some 0, mc0_grow), (some 0, mc0_putWord), (some 0, mc0_cutOut), (none, mc0_baseOf), (some 0, mc0_joinGroup), (none, mc0_isNear), (some 0, mc0_passTime), (some 0, mc0_behind), (some 0, mc0_stepBack), (some 0, mc0_stepOn), (some 0, mc0_goTo), (some 0, mc0_nameHere), (some 0, mc0_dropName), (some 0, mc0_takeBack), (some 0, mc0_giveBack)]
def zp_c2 : List (Option Nat × zv_M) := [(some 0, mc0_turn), (some 0, mc0_carryOver), (some 0, mc0_standForThemselves), (some 0, mc0_standOf), (some 0, mc0_carryOne), (some 0, mc0_firstTaken), (some 0, mc0_takenFrom), (some 0, mc0_takes), (some 0, mc0_mergeIn), (some 0, mc0_mergeOnPaper), (some 0, mc0_remove), (some 0, mc0_nextToGo), (some 0, mc0_pruneTo), (none, mc0_nearest), (none, mc0_wayLength), (none, mc0_onWay)]
def zp_c3 : List (Option Nat × zv_M) := [(some 0, mc0_keptOf), (some 0, mc0_firstDifference), (some 0, mc0_longestCommon), (some 0, mc0_placeIn), (some 0, mc0_leastWith), (some 0, mc0_statesWith), (some 0, mc0_twinOf), (some 1, mc1_init), (some 1, mc1_clear), (some 1, mc1_usual), (some 1, mc1_compare), (some 1, mc1_add), (some 1, mc1_set), (some 1, mc1_holds), (some 2, mc2_init), (some 2, mc2_indexOf)]
def zp_c4 : List (Option Nat × zv_M) := [(some 2, mc2_keyAt), (some 2, mc2_ownerAt), (some 2, mc2_countOf), (some 2, mc2_own), (some 2, mc2_drop), (some 3, mc3_init), (some 3, mc3_addByte), (some 3, mc3_byteAt), (some 3, mc3_fail), (some 3, mc3_more), (some 3, mc3_begin), (some 3, mc3_next), (none, mc3_isSmall), (none, mc3_isDigit), (some 3, mc3_is), (some 3, mc3_isSign)]
def zp_c5 : List (Option Nat × zv_M) := [(some 3, mc3_head), (some 3, mc3_closed), (some 3, mc3_spelled), (some 3, mc3_test), (some 3, mc3_side), (some 3, mc3_fact), (some 3, mc3_comparison), (some 3, mc3_asked), (some 3, mc3_line), (some 3, mc3_verbHere), (some 4, mc4_init), (none, mc4_id), (none, mc4_putter), (none, mc4_order), (none, mc4_isId), (some 4, mc4_lay)]
def zp_c6 : List (Option Nat × zv_M) := [(some 4, mc4_walk), (some 4, mc4_link), (some 4, mc4_look), (some 4, mc4_numberAt), (some 4, mc4_idAt), (some 4, mc4_seesAt), (some 4, mc4_placeOf), (some 4, mc4_seenUpTo), (some 4, mc4_outOfForce), (some 4, mc4_cutsInForce), (some 4, mc4_lastCut), (some 4, mc4_leaningOn), (some 4, mc4_groundOf), (some 5, mc5_init), (some 5, mc5_open), (some 5, mc5_bit)]
def zp_c7 : List (Option Nat × zv_M) := [(some 5, mc5_edits), (some 5, mc5_brings), (some 5, mc5_idAt), (some 5, mc5_addId), (some 5, mc5_tookAt), (some 5, mc5_tookIt), (some 6, mc6_init), (some 6, mc6_add), (some 6, mc6_slot), (some 6, mc6_stateAt), (some 6, mc6_timeAt), (some 6, mc6_forget), (some 6, mc6_keep), (some 6, mc6_giveBack), (some 7, mc7_init), (some 7, mc7_clear)]
def zp_c8 : List (Option Nat × zv_M) := [(some 7, mc7_add), (some 7, mc7_at), (some 7, mc7_key), (some 8, mc8_init), (some 8, mc8_refused), (some 8, mc8_given), (some 8, mc8_answered), (none, mc8_within), (some 8, mc8_status), (some 8, mc8_feed), (some 8, mc8_feedInt), (some 8, mc8_fault), (some 8, mc8_type), (none, mc8_typedLetter), (some 8, mc8_load), (some 8, mc8_done)]
def zp_c9 : List (Option Nat × zv_M) := [(some 8, mc8_many), (some 8, mc8_letter), (some 8, mc8_state), (some 8, mc8_child), (some 8, mc8_force), (some 8, mc8_blame), (some 8, mc8_row), (some 8, mc8_visit), (some 8, mc8_named), (some 8, mc8_leans), (some 8, mc8_put), (some 8, mc8_cut), (some 8, mc8_wait), (some 8, mc8_undo), (some 8, mc8_redo), (some 8, mc8_go)]
def zp_c10 : List (Option Nat × zv_M) := [(some 8, mc8_name), (some 8, mc8_unname), (some 8, mc8_withdraw), (some 8, mc8_restore), (some 8, mc8_carry), (some 8, mc8_merge), (some 8, mc8_prune), (some 8, mc8_common), (some 8, mc8_way), (some 8, mc8_between), (some 8, mc8_least), (some 8, mc8_merges), (some 8, mc8_tell), (some 8, mc8_tellDocument), (some 8, mc8_tellLine), (some 8, mc8_tellNames)]
def zp_c11 : List (Option Nat × zv_M) := [(some 8, mc8_tellNumber), (some 8, mc8_tellByte), (some 8, mc8_out), (some 8, mc8_leaning), (some 8, mc8_find), (some 8, mc8_first), (some 8, mc8_twin), (some 8, mc8_back), (some 9, mc9_init), (some 9, mc9_status), (some 9, mc9_refuse), (some 9, mc9_is), (none, mc9_isIn), (some 9, mc9_clears), (some 9, mc9_of), (some 9, mc9_sets)]
def zp_c12 : List (Option Nat × zv_M) := [(some 9, mc9_isState), (some 9, mc9_isEdit), (some 9, mc9_here), (some 9, mc9_states), (some 9, mc9_names), (some 9, mc9_namesToo), (some 9, mc9_isOfLine), (some 9, mc9_depthOf), (some 9, mc9_rowOf), (some 9, mc9_letsIn), (some 9, mc9_turns), (some 9, mc9_sees), (some 9, mc9_rowPlace), (some 9, mc9_letterIn), (some 9, mc9_lettersOf), (some 9, mc9_copies)]
def zp_c13 : List (Option Nat × zv_M) := [(some 9, mc9_visits), (some 9, mc9_latestIn), (some 9, mc9_childOf), (some 9, mc9_childrenOf), (some 9, mc9_freeState), (some 9, mc9_isNear), (none, mc9_compares), (some 9, mc9_holds), (some 9, mc9_joins), (some 9, mc9_begins), (none, mc9_packed), (some 9, mc9_nameAt), (some 9, mc9_type), (some 9, mc9_hand), (some 9, mc9_putNow), (some 9, mc9_cutNow)]
def zp_c14 : List (Option Nat × zv_M) := [(some 9, mc9_plain), (some 9, mc9_carries), (some 9, mc9_isTaken), (some 9, mc9_carriesCut), (some 9, mc9_carryNow), (some 9, mc9_mergeNow), (some 9, mc9_undoNow), (some 9, mc9_redoNow), (some 9, mc9_commonOf), (some 9, mc9_wayMany), (some 9, mc9_goNow), (some 9, mc9_nameNow), (some 9, mc9_leansOn), (some 9, mc9_marks), (some 9, mc9_triesNames), (some 9, mc9_turnNow)]
def zp_c15 : List (Option Nat × zv_M) := [(some 9, mc9_lays), (some 9, mc9_feed), (some 9, mc9_isOf), (some 9, mc9_reads), (some 9, mc9_must), (some 9, mc9_which), (some 9, mc9_isSign), (some 9, mc9_takes), (some 9, mc9_takesNumber), (some 9, mc9_takesWord), (some 9, mc9_emits), (some 9, mc9_test), (some 9, mc9_side), (some 9, mc9_fact), (some 9, mc9_readsLine), (some 9, mc9_does)]
def zp_c16 : List (Option Nat × zv_M) := [(some 9, mc9_load), (some 9, mc9_fault), (some 9, mc9_leaves), (some 9, mc9_groups), (some 9, mc9_gone), (some 9, mc9_many), (some 9, mc9_letter), (some 9, mc9_namesOf), (some 9, mc9_state), (some 9, mc9_child), (some 9, mc9_force), (some 9, mc9_blame), (some 9, mc9_cutsOf), (some 9, mc9_row), (some 9, mc9_visit), (some 9, mc9_named)]
def zp_c17 : List (Option Nat × zv_M) := [(some 9, mc9_leans), (some 9, mc9_put), (some 9, mc9_cut), (some 9, mc9_wait), (some 9, mc9_undo), (some 9, mc9_redo), (some 9, mc9_go), (some 9, mc9_name), (some 9, mc9_unname), (some 9, mc9_withdraw), (some 9, mc9_restore), (some 9, mc9_firstOut), (some 9, mc9_carry), (some 9, mc9_merge), (some 9, mc9_prune), (some 9, mc9_pruneNow)]
def zp_c18 : List (Option Nat × zv_M) := [(some 9, mc9_common), (some 9, mc9_way), (some 9, mc9_keysOf), (some 9, mc9_keptOf), (some 9, mc9_differ), (some 9, mc9_between), (some 9, mc9_least), (some 9, mc9_merges), (some 9, mc9_tells), (some 9, mc9_tellsNumber), (some 9, mc9_tellsNames), (some 9, mc9_tell), (some 9, mc9_out), (some 9, mc9_leaning), (some 9, mc9_placeIn), (some 9, mc9_find)]
def zp_c19 : List (Option Nat × zv_M) := [(some 9, mc9_first), (some 9, mc9_twin), (some 9, mc9_back), (none, mc12_bitCount), (some 10, mc13_coder), (some 10, mc13_isLatin1), (some 10, mc13_length), (none, mc14_charAt), (some 10, mc13_charAt), (none, mc14_canEncode), (none, mc14_indexOfChar), (none, mc14_indexOf), (some 10, mc13_indexOf2), (some 10, mc13_indexOf)]
def zp_ch (k : Nat) : List (Option Nat × zv_M) := match k with
  | 0 => zp_c0
  | 1 => zp_c1
  | 2 => zp_c2
  | 3 => zp_c3
  | 4 => zp_c4
  | 5 => zp_c5
  | 6 => zp_c6
  | 7 => zp_c7
  | 8 => zp_c8
  | 9 => zp_c9
  | 10 => zp_c10
  | 11 => zp_c11
  | 12 => zp_c12
  | 13 => zp_c13
  | 14 => zp_c14
  | 15 => zp_c15
  | 16 => zp_c16
  | 17 => zp_c17
  | 18 => zp_c18
  | 19 => zp_c19
  | _ => []
def zv_prog (id : Nat) : Option (Option Nat × zv_M) := (zp_ch (id / 16))[id % 16]?
def zv_jinf (id : Nat) : Option (MethodName × (ByteArray × (Nat × Option FieldType))) := match id with
  | 906 => some (⟨"java/lang/String", "checkIndex", "(II)V"⟩, (prog_15_method_155_code, (2, none)))
  | _ => none
end
section
/-! numbers of the small machine against the machine's -/
theorem zv_rg_toInt (x : Int32) : zv_rg x.toInt := ⟨by have := x.le_toInt; omega, by have := x.toInt_lt; omega⟩
theorem zv_rg_w (x : Int) : zv_rg (zv_w x) := by unfold zv_rg zv_w; omega
theorem zv_w_eq (x : Int) : zv_w x = (Int32.ofInt x).toInt := by
  rw [Int32.toInt_ofInt]
  unfold zv_w
  rw [show (Int32.size : Nat) = 4294967296 from rfl, Int.bmod_def]
  split <;> omega
theorem zv_of_w (x : Int) : Int32.ofInt (zv_w x) = Int32.ofInt x := by rw [zv_w_eq, Int32.ofInt_toInt]
theorem zv_toInt {x : Int} (h : zv_rg x) : (Int32.ofInt x).toInt = x := Int32.toInt_ofInt_of_le (by have := h.1; omega) (by have := h.2; omega)
theorem zv_w_id {x : Int} (h : zv_rg x) : zv_w x = x := by unfold zv_rg at h; unfold zv_w; omega
theorem zv_inj {x y : Int} (hx : zv_rg x) (hy : zv_rg y) : Int32.ofInt x = Int32.ofInt y ↔ x = y := by
  rw [← Int32.toInt_inj, zv_toInt hx, zv_toInt hy]
theorem zv_lt {x y : Int} (hx : zv_rg x) (hy : zv_rg y) : Int32.ofInt x < Int32.ofInt y ↔ x < y := by
  rw [Int32.lt_iff_toInt_lt, zv_toInt hx, zv_toInt hy]
theorem zv_le {x y : Int} (hx : zv_rg x) (hy : zv_rg y) : Int32.ofInt x ≤ Int32.ofInt y ↔ x ≤ y := by
  rw [Int32.le_iff_toInt_le, zv_toInt hx, zv_toInt hy]
theorem zv_rg0 : zv_rg 0 := by unfold zv_rg; omega
theorem zv_eq0 {x : Int} (hx : zv_rg x) : Int32.ofInt x = 0 ↔ x = 0 := by
  rw [show (0 : Int32) = Int32.ofInt 0 from rfl]; exact zv_inj hx zv_rg0
theorem zv_lt0 {x : Int} (hx : zv_rg x) : Int32.ofInt x < 0 ↔ x < 0 := by
  rw [show (0 : Int32) = Int32.ofInt 0 from rfl]; exact zv_lt hx zv_rg0
theorem zv_le0 {x : Int} (hx : zv_rg x) : Int32.ofInt x ≤ 0 ↔ x ≤ 0 := by
  rw [show (0 : Int32) = Int32.ofInt 0 from rfl]; exact zv_le hx zv_rg0
theorem zv_ge0 {x : Int} (hx : zv_rg x) : 0 ≤ Int32.ofInt x ↔ 0 ≤ x := by
  rw [show (0 : Int32) = Int32.ofInt 0 from rfl]; exact zv_le zv_rg0 hx
theorem zv_gt0 {x : Int} (hx : zv_rg x) : 0 < Int32.ofInt x ↔ 0 < x := by
  rw [show (0 : Int32) = Int32.ofInt 0 from rfl]; exact zv_lt zv_rg0 hx
theorem zv_add (x y : Int) : Int32.ofInt x + Int32.ofInt y = Int32.ofInt (zv_w (x + y)) := by rw [zv_of_w, Int32.ofInt_add]
theorem zv_sub (x y : Int) : Int32.ofInt x - Int32.ofInt y = Int32.ofInt (zv_w (x - y)) := by rw [zv_of_w, Int32.ofInt_sub]
theorem zv_mul (x y : Int) : Int32.ofInt x * Int32.ofInt y = Int32.ofInt (zv_w (x * y)) := by rw [zv_of_w, Int32.ofInt_mul]
theorem zv_neg (x : Int) : -Int32.ofInt x = Int32.ofInt (zv_w (-x)) := by rw [zv_of_w, Int32.ofInt_neg]
theorem zv_div {x y : Int} (hx : zv_rg x) (hy : zv_rg y) : Int32.ofInt x / Int32.ofInt y = Int32.ofInt (zv_w (x.tdiv y)) := by
  rw [zv_of_w]
  apply Int32.toInt_inj.mp
  rw [Int32.toInt_div, zv_toInt hx, zv_toInt hy, Int32.toInt_ofInt]
theorem zv_tmod_le {x : Int} (h : 0 ≤ x) (y : Int) : x.tmod y ≤ x := by
  obtain ⟨n, rfl⟩ := Int.eq_ofNat_of_zero_le h
  rw [Int.tmod_eq_emod_of_nonneg h]
  rcases Int.natAbs_eq y with e | e
  · rw [e]
    exact Int.ofNat_le.mpr (Nat.mod_le n y.natAbs)
  · rw [e, Int.emod_neg]
    exact Int.ofNat_le.mpr (Nat.mod_le n y.natAbs)
theorem zv_rg_tmod {x y : Int} (hx : zv_rg x) : zv_rg (x.tmod y) := by
  unfold zv_rg at *
  rcases Int.le_total 0 x with h | h
  · have h1 := Int.tmod_nonneg y h
    have h2 := zv_tmod_le h y
    omega
  · have h1 := zv_tmod_le (show 0 ≤ -x by omega) y
    have h2 := Int.tmod_nonneg y (show 0 ≤ -x by omega)
    rw [Int.neg_tmod] at h1 h2
    omega
theorem zv_rem {x y : Int} (hx : zv_rg x) (hy : zv_rg y) : Int32.ofInt x - Int32.ofInt x / Int32.ofInt y * Int32.ofInt y = Int32.ofInt (x.tmod y) := by
  apply Int32.toInt_inj.mp
  rw [rem_toInt, zv_toInt hx, zv_toInt hy, zv_toInt (zv_rg_tmod hx)]
theorem zv_byte {n : Int} (h1 : -128 ≤ n) (h2 : n ≤ 127) : (Int8.ofInt n).toInt32 = Int32.ofInt n := Int8.toInt32_ofInt h1 h2
theorem zv_short {n : Int} (h1 : -32768 ≤ n) (h2 : n ≤ 32767) : (Int16.ofInt n).toInt32 = Int32.ofInt n := Int16.toInt32_ofInt h1 h2
theorem zv_ofto (x : Int32) : Int32.ofInt x.toInt = x := Int32.ofInt_toInt x
theorem zv_lcmp_eq (x y : Int64) : lg_cmp x y = Int32.ofInt (zv_lcmp x y) := by
  unfold lg_cmp zv_lcmp
  by_cases h : x = y
  · subst h
    rw [if_neg (fun q => Int64.lt_irrefl q), if_pos rfl, if_pos rfl]
    rfl
  · rw [if_neg h, if_neg h]
    by_cases h2 : y < x
    · rw [if_pos h2, if_pos h2]; rfl
    · rw [if_neg h2, if_neg h2]; rfl
theorem zv_rg_lcmp (x y : Int64) : zv_rg (zv_lcmp x y) := by
  unfold zv_lcmp zv_rg
  split
  · omega
  · split <;> omega
theorem zv_clamp {x : Int} (hx : zv_rg x) (h : 0 ≤ x) : (Int32.ofInt x).toNatClampNeg = x.toNat := by
  show (Int32.ofInt x).toInt.toNat = _
  rw [zv_toInt hx]
theorem zv_in {x : Int} {n : Nat} (hx : zv_rg x) (h0 : 0 ≤ x) (hn : x < n) : vp_in (Int32.ofInt x) n := by
  unfold vp_in
  rw [zv_lt0 hx, zv_clamp hx h0]
  omega
theorem zv_rg_i2b (x : Int) : zv_rg (zv_i2b x) := zv_rg_toInt _
theorem zv_rg_nz (x : Int) : zv_rg (zv_nz x) := by unfold zv_rg zv_nz; omega
theorem zv_nar_b (x : Int) : vp_nar .byte (Int32.ofInt x) = Int32.ofInt (zv_i2b x) := by
  unfold zv_i2b
  rw [zv_ofto, vp_nar_byte]
end
section
/-! how the small machine's values, locals and cells stand for the machine's -/
def zv_ad (ba : Nat) (ak : Nat → Nat) (r : Nat) : Option Nat := if r = 0 then none else some (if r < 1000000 then ba + r else ak r)
def zv_cv (ba : Nat) (ak : Nat → Nat) (v : zv_V) : Value := match v with
  | Sum.inl x => .int (Int32.ofInt x)
  | Sum.inr (Sum.inl x) => .long x
  | Sum.inr (Sum.inr r) => va_rf (zv_ad ba ak r)
def zv_vg (v : zv_V) : Prop := match v with
  | Sum.inl x => zv_rg x
  | _ => True
def zv_RL (ba : Nat) (ak : Nat → Nat) (lsR : Array Slot) (ls : zv_Ls) : Prop := lsR.size = ls.length ∧ lv_wf lsR ∧ ∀ i v, zv_ld ls i = some v → lsR[i]? = some (.val (zv_cv ba ak v)) ∧ zv_vg v
theorem zv_st_len : ∀ (l : zv_Ls) (n : Nat) (v : Option zv_V), (zv_st l n v).length = l.length
  | [], _, _ => rfl
  | _ :: _, 0, _ => rfl
  | _ :: l, n + 1, v => congrArg (· + 1) (zv_st_len l n v)
theorem zv_ld_st : ∀ (l : zv_Ls) (n : Nat) (v : Option zv_V) (k : Nat), zv_ld (zv_st l n v) k = if k = n ∧ n < l.length then v else zv_ld l k
  | [], n, v, k => by simp [zv_st, zv_ld]
  | a :: l, 0, v, 0 => by simp [zv_st, zv_ld]
  | a :: l, 0, v, k + 1 => by simp [zv_st, zv_ld]
  | a :: l, n + 1, v, 0 => by simp [zv_st, zv_ld]
  | a :: l, n + 1, v, k + 1 => by
    rw [zv_st, zv_ld, zv_ld_st l n v k, zv_ld]
    simp
theorem zv_ld_lt : ∀ (l : zv_Ls) (n : Nat) (v : zv_V), zv_ld l n = some v → n < l.length
  | [], n, v, h => by simp [zv_ld] at h
  | a :: l, 0, v, h => by simp
  | a :: l, n + 1, v, h => by
    have := zv_ld_lt l n v h
    simp
    omega
theorem zv_cr_len (l : zv_Ls) (n : Nat) : (zv_cr l n).length = l.length := by
  unfold zv_cr
  cases n with
  | zero => rfl
  | succ k =>
    dsimp only
    split
    · exact zv_st_len _ _ _
    · rfl
theorem zv_ld_cr {l : zv_Ls} {n k : Nat} {w : zv_V} (h : zv_ld (zv_cr l n) k = some w) : zv_ld l k = some w ∧ ¬ (k + 1 = n ∧ zv_two (some w) = true) := by
  unfold zv_cr at h
  cases n with
  | zero => exact ⟨h, by omega⟩
  | succ n =>
    dsimp only at h
    split at h
    · rename_i ht
      rw [zv_ld_st] at h
      split at h
      · cases h
      · rename_i hn
        refine ⟨h, fun q => ?_⟩
        have hkn : k = n := by omega
        subst hkn
        exact hn ⟨rfl, zv_ld_lt _ _ _ h⟩
    · rename_i ht
      refine ⟨h, fun q => ?_⟩
      have hkn : k = n := by omega
      subst hkn
      rw [h] at ht
      exact ht q.2
theorem zv_s1_len (l : zv_Ls) (n : Nat) (v : zv_V) : (zv_s1 l n v).length = l.length := by
  unfold zv_s1
  rw [zv_st_len, zv_cr_len]
theorem zv_s2_len (l : zv_Ls) (n : Nat) (v : Int64) : (zv_s2 l n v).length = l.length := by
  unfold zv_s2
  rw [zv_st_len, zv_st_len, zv_cr_len]
theorem zv_ld_s1 {l : zv_Ls} {n k : Nat} {v w : zv_V} (h : zv_ld (zv_s1 l n v) k = some w) : (k = n ∧ w = v) ∨ (¬ k = n ∧ zv_ld l k = some w ∧ ¬ (k + 1 = n ∧ zv_two (some w) = true)) := by
  have hl := zv_ld_lt _ _ _ h
  rw [zv_s1_len] at hl
  unfold zv_s1 at h
  rw [zv_ld_st, zv_cr_len] at h
  split at h
  · rename_i q
    exact Or.inl ⟨q.1, (Option.some.inj h).symm⟩
  · rename_i q
    have hkn : ¬ k = n := fun e => q ⟨e, by omega⟩
    exact Or.inr ⟨hkn, zv_ld_cr h⟩
theorem zv_ld_s2 {l : zv_Ls} {n k : Nat} {v : Int64} {w : zv_V} (h : zv_ld (zv_s2 l n v) k = some w) : (k = n ∧ w = zv_j v) ∨ (¬ k = n ∧ ¬ k = n + 1 ∧ zv_ld l k = some w ∧ ¬ (k + 1 = n ∧ zv_two (some w) = true)) := by
  have hl := zv_ld_lt _ _ _ h
  rw [zv_s2_len] at hl
  unfold zv_s2 at h
  rw [zv_ld_st, zv_st_len, zv_cr_len] at h
  split at h
  · cases h
  · rename_i q0
    have hk1 : ¬ k = n + 1 := fun e => q0 ⟨e, by omega⟩
    rw [zv_ld_st, zv_cr_len] at h
    split at h
    · rename_i q
      exact Or.inl ⟨q.1, (Option.some.inj h).symm⟩
    · rename_i q
      have hkn : ¬ k = n := fun e => q ⟨e, by omega⟩
      exact Or.inr ⟨hkn, hk1, zv_ld_cr h⟩
/-- the locals as a list of places and values -/
def zv_lst (ba : Nat) (ak : Nat → Nat) : Nat → zv_Ls → List (Nat × Value)
  | _, [] => []
  | k, none :: t => zv_lst ba ak (k + 1) t
  | k, some v :: t => (k, zv_cv ba ak v) :: zv_lst ba ak (k + 1) t
theorem zv_lst_of (ba : Nat) (ak : Nat → Nat) : ∀ (ls : zv_Ls) (k i : Nat) (v : zv_V), zv_ld ls i = some v → (k + i, zv_cv ba ak v) ∈ zv_lst ba ak k ls
  | [], k, i, v, h => by simp [zv_ld] at h
  | none :: t, k, 0, v, h => by simp [zv_ld] at h
  | some w :: t, k, 0, v, h => by
    simp only [zv_ld, Option.some.injEq] at h
    subst h
    exact List.mem_cons_self
  | none :: t, k, i + 1, v, h => by
    have := zv_lst_of ba ak t (k + 1) i v h
    rw [show k + (i + 1) = k + 1 + i by omega]
    exact this
  | some w :: t, k, i + 1, v, h => by
    have := zv_lst_of ba ak t (k + 1) i v h
    rw [show k + (i + 1) = k + 1 + i by omega]
    exact List.mem_cons_of_mem _ this
theorem zv_lst_to (ba : Nat) (ak : Nat → Nat) : ∀ (ls : zv_Ls) (k : Nat) (q : Nat × Value), q ∈ zv_lst ba ak k ls → ∃ i v, q = (k + i, zv_cv ba ak v) ∧ zv_ld ls i = some v
  | [], k, q, h => by cases h
  | none :: t, k, q, h => by
    obtain ⟨i, v, h1, h2⟩ := zv_lst_to ba ak t (k + 1) q h
    exact ⟨i + 1, v, by rw [h1]; congr 1; omega, h2⟩
  | some w :: t, k, q, h => by
    rcases List.mem_cons.mp h with h | h
    · exact ⟨0, w, h, rfl⟩
    · obtain ⟨i, v, h1, h2⟩ := zv_lst_to ba ak t (k + 1) q h
      exact ⟨i + 1, v, by rw [h1]; congr 1; omega, h2⟩
theorem zv_RL.has {ba : Nat} {ak : Nat → Nat} {lsR : Array Slot} {ls : zv_Ls} (h : zv_RL ba ak lsR ls) : lv_has lsR ls.length (zv_lst ba ak 0 ls) := by
  refine ⟨h.1, h.2.1, fun q hq => ?_⟩
  obtain ⟨i, v, rfl, h2⟩ := zv_lst_to ba ak ls 0 q hq
  rw [Nat.zero_add]
  exact (h.2.2 i v h2).1
theorem zv_cat (ba : Nat) (ak : Nat → Nat) (w : zv_V) : (zv_cv ba ak w).category = 2 ↔ zv_two (some w) = true := by
  rcases w with x | x | r
  · simp [zv_cv, zv_two, Value.category]
  · simp [zv_cv, zv_two, Value.category]
  · simp only [zv_cv, zv_two]
    unfold va_rf
    split <;> simp [Value.category]
theorem zv_RL.s1 {ba : Nat} {ak : Nat → Nat} {lsR lsR' : Array Slot} {ls : zv_Ls} {i : Nat} {v : zv_V} (h : zv_RL ba ak lsR ls) (hv : zv_vg v) (h' : lv_has lsR' ls.length ((i, zv_cv ba ak v) :: (zv_lst ba ak 0 ls).filter (fun q => !(q.1 == i) && !(q.1 + 1 == i && q.2.category == 2)))) : zv_RL ba ak lsR' (zv_s1 ls i v) := by
  refine ⟨by rw [h'.1, zv_s1_len], h'.2.1, fun k w hk => ?_⟩
  rcases zv_ld_s1 hk with ⟨rfl, rfl⟩ | ⟨h1, h2, h3⟩
  · exact ⟨h'.2.2 (k, _) List.mem_cons_self, hv⟩
  · refine ⟨h'.2.2 (k, zv_cv ba ak w) (List.mem_cons_of_mem _ (List.mem_filter.mpr ⟨?_, ?_⟩)), (h.2.2 k w h2).2⟩
    · have := zv_lst_of ba ak ls 0 k w h2
      rwa [Nat.zero_add] at this
    · have h4 : ¬ (k + 1 = i ∧ (zv_cv ba ak w).category = 2) := fun q => h3 ⟨q.1, (zv_cat ba ak w).mp q.2⟩
      simp only [Bool.and_eq_true, Bool.not_eq_true', beq_eq_false_iff_ne, ne_eq, Bool.and_eq_false_iff]
      refine ⟨h1, ?_⟩
      by_cases q : k + 1 = i
      · exact Or.inr fun z => h4 ⟨q, z⟩
      · exact Or.inl q
theorem zv_RL.s2 {ba : Nat} {ak : Nat → Nat} {lsR lsR' : Array Slot} {ls : zv_Ls} {i : Nat} {v : Int64} (h : zv_RL ba ak lsR ls) (h' : lv_has lsR' ls.length ((i, Value.long v) :: (zv_lst ba ak 0 ls).filter (fun q => !(q.1 == i) && (!(q.1 == i + 1) && !(q.1 + 1 == i && q.2.category == 2))))) : zv_RL ba ak lsR' (zv_s2 ls i v) := by
  refine ⟨by rw [h'.1, zv_s2_len], h'.2.1, fun k w hk => ?_⟩
  rcases zv_ld_s2 hk with ⟨rfl, rfl⟩ | ⟨h1, h0, h2, h3⟩
  · exact ⟨h'.2.2 (k, _) List.mem_cons_self, trivial⟩
  · refine ⟨h'.2.2 (k, zv_cv ba ak w) (List.mem_cons_of_mem _ (List.mem_filter.mpr ⟨?_, ?_⟩)), (h.2.2 k w h2).2⟩
    · have := zv_lst_of ba ak ls 0 k w h2
      rwa [Nat.zero_add] at this
    · have h4 : ¬ (k + 1 = i ∧ (zv_cv ba ak w).category = 2) := fun q => h3 ⟨q.1, (zv_cat ba ak w).mp q.2⟩
      simp only [Bool.and_eq_true, Bool.not_eq_true', beq_eq_false_iff_ne, ne_eq, Bool.and_eq_false_iff]
      refine ⟨h1, h0, ?_⟩
      by_cases q : k + 1 = i
      · exact Or.inr fun z => h4 ⟨q, z⟩
      · exact Or.inl q
theorem zv_msk_ld : ∀ (b : List Bool) (l : zv_Ls) (k : Nat) (w : zv_V), zv_ld (zv_msk b l) k = some w → zv_ld l k = some w
  | [], l, k, w, h => by
    cases l <;> exact h
  | true :: b, [], k, w, h => h
  | false :: b, [], k, w, h => h
  | true :: b, a :: l, 0, w, h => h
  | false :: b, a :: l, 0, w, h => by simp [zv_msk, zv_ld] at h
  | true :: b, a :: l, k + 1, w, h => zv_msk_ld b l k w h
  | false :: b, a :: l, k + 1, w, h => zv_msk_ld b l k w h
theorem zv_msk_len : ∀ (b : List Bool) (l : zv_Ls), (zv_msk b l).length = l.length
  | [], l => by cases l <;> rfl
  | true :: b, [] => rfl
  | false :: b, [] => rfl
  | true :: b, a :: l => congrArg (· + 1) (zv_msk_len b l)
  | false :: b, a :: l => congrArg (· + 1) (zv_msk_len b l)
theorem zv_RL.msk {ba : Nat} {ak : Nat → Nat} {lsR : Array Slot} {ls : zv_Ls} (h : zv_RL ba ak lsR ls) (b : List Bool) : zv_RL ba ak lsR (zv_msk b ls) :=
  ⟨by rw [h.1, zv_msk_len], h.2.1, fun k w hk => h.2.2 k w (zv_msk_ld b ls k w hk)⟩
end
section
/-! the instructions on locals and stack alone -/
section ZOP
variable {p : Program} {l : Launch} {e : Env} {R : Room} {s : State} {m : MethodId} {args : Array Value} {below : List Frame} {meth : Method} {c : Code} {H : Heap} {locs : List Loc} {cells slots : Nat} {Q : State → Prop}
variable {cc : ByteArray} {pc : Nat} {ba : Nat} {ak : Nat → Nat}
theorem zv_ad_cases (ba : Nat) (ak : Nat → Nat) (r : Nat) : (r = 0 ∧ va_rf (zv_ad ba ak r) = .null) ∨ ∃ a, va_rf (zv_ad ba ak r) = .ref a := by
  unfold zv_ad
  by_cases h : r = 0
  · exact Or.inl ⟨h, by rw [if_pos h]; rfl⟩
  · exact Or.inr ⟨_, by rw [if_neg h]; rfl⟩
theorem zv_cat1 (ba : Nat) (ak : Nat → Nat) (r : Nat) : (va_rf (zv_ad ba ak r)).category = 1 := by
  rcases zv_ad_cases ba ak r with ⟨-, h⟩ | ⟨a, h⟩ <;> rw [h] <;> rfl
/-- loading a reference -/
theorem zv_aload_n (hx : p.tables.exec = Jvm.exec) (hb : c.code = cc) {k : Fin 4} {r : Nat} {ls : Array Slot} {rest : List Value} (hdg : decode cc pc = .ok (.aload_n k, 1)) (hl : ls[k.val]? = some (.val (va_rf (zv_ad ba ak r))))
    (kk : W p l e R s m args below meth c H locs cells slots Q (F0 m (pc + 1) ls (va_rf (zv_ad ba ak r) :: rest))) : W p l e R s m args below meth c H locs cells slots Q (F0 m pc ls rest) := by
  rcases zv_ad_cases ba ak r with ⟨-, h⟩ | ⟨a, h⟩
  · rw [h] at hl kk
    exact lv_aload_nN hx hb hdg rfl hl kk
  · rw [h] at hl kk
    exact lv_aload_n hx hb hdg rfl hl kk
theorem zv_aload (hx : p.tables.exec = Jvm.exec) (hb : c.code = cc) {k : Nat} {r : Nat} {ls : Array Slot} {rest : List Value} (hdg : decode cc pc = .ok (.aload k, 2)) (hl : ls[k]? = some (.val (va_rf (zv_ad ba ak r))))
    (kk : W p l e R s m args below meth c H locs cells slots Q (F0 m (pc + 2) ls (va_rf (zv_ad ba ak r) :: rest))) : W p l e R s m args below meth c H locs cells slots Q (F0 m pc ls rest) := by
  rcases zv_ad_cases ba ak r with ⟨-, h⟩ | ⟨a, h⟩
  · rw [h] at hl kk
    exact lv_aloadN hx hb hdg hl kk
  · rw [h] at hl kk
    exact lv_aload hx hb hdg hl kk
theorem zv_astore_n (hx : p.tables.exec = Jvm.exec) (hb : c.code = cc) {k : Fin 4} {nL r : Nat} {lv : List (Nat × Value)} {ls : Array Slot} {rest : List Value} (hdg : decode cc pc = .ok (.astore_n k, 1)) (h : lv_has ls nL lv) (hn : k.val < nL)
    (kk : ∀ ls' : Array Slot, lv_has ls' nL ((k.val, va_rf (zv_ad ba ak r)) :: lv.filter (fun q => !(q.1 == k.val) && !(q.1 + 1 == k.val && q.2.category == 2))) → W p l e R s m args below meth c H locs cells slots Q (F0 m (pc + 1) ls' rest)) : W p l e R s m args below meth c H locs cells slots Q (F0 m pc ls (va_rf (zv_ad ba ak r) :: rest)) := by
  rcases zv_ad_cases ba ak r with ⟨-, q⟩ | ⟨a, q⟩
  · rw [q] at kk ⊢
    exact lv_astore_nN hx hb hdg rfl h hn rfl kk
  · rw [q] at kk ⊢
    exact lv_astore_n hx hb hdg rfl h hn rfl kk
theorem zv_astore (hx : p.tables.exec = Jvm.exec) (hb : c.code = cc) {k : Nat} {nL r : Nat} {lv : List (Nat × Value)} {ls : Array Slot} {rest : List Value} (hdg : decode cc pc = .ok (.astore k, 2)) (h : lv_has ls nL lv) (hn : k < nL)
    (kk : ∀ ls' : Array Slot, lv_has ls' nL ((k, va_rf (zv_ad ba ak r)) :: lv.filter (fun q => !(q.1 == k) && !(q.1 + 1 == k && q.2.category == 2))) → W p l e R s m args below meth c H locs cells slots Q (F0 m (pc + 2) ls' rest)) : W p l e R s m args below meth c H locs cells slots Q (F0 m pc ls (va_rf (zv_ad ba ak r) :: rest)) := by
  rcases zv_ad_cases ba ak r with ⟨-, q⟩ | ⟨a, q⟩
  · rw [q] at kk ⊢
    exact lv_astoreN hx hb hdg h hn rfl kk
  · rw [q] at kk ⊢
    exact lv_astore hx hb hdg h hn rfl kk
/-- what lies behind: any locals that stand for the new ones -/
def zv_WK (p : Program) (l : Launch) (e : Env) (R : Room) (s : State) (m : MethodId) (args : Array Value) (below : List Frame) (meth : Method) (c : Code) (H : Heap) (locs : List Loc) (cells slots : Nat) (Q : State → Prop) (ba : Nat) (ak : Nat → Nat) (pc : Nat) (ls : zv_Ls) (st : List zv_V) : Prop :=
  ∀ lsR, zv_RL ba ak lsR ls → (∀ v ∈ st, zv_vg v) → W p l e R s m args below meth c H locs cells slots Q (F0 m pc lsR (st.map (zv_cv ba ak)))
theorem zv_fa {P : zv_V → Prop} {a : zv_V} {t : List zv_V} (h : ∀ v ∈ a :: t, P v) : P a ∧ ∀ v ∈ t, P v := ⟨h a List.mem_cons_self, fun v hv => h v (List.mem_cons_of_mem _ hv)⟩
theorem zv_fc {P : zv_V → Prop} {a : zv_V} {t : List zv_V} (h1 : P a) (h : ∀ v ∈ t, P v) : ∀ v ∈ a :: t, P v := fun v hv => by
  rcases List.mem_cons.mp hv with q | q
  · rw [q]; exact h1
  · exact h v q
set_option maxHeartbeats 4000000 in
theorem zv_op_ok (hx : p.tables.exec = Jvm.exec) (hb : c.code = cc) {i : Instr} {ls ls' : zv_Ls} {st st' : List zv_V} (hop : zv_op i ls st = some (ls', st')) (hdg : decode cc pc = .ok (i, zv_len i))
    (kk : zv_WK p l e R s m args below meth c H locs cells slots Q ba ak (pc + zv_len i) ls' st') : zv_WK p l e R s m args below meth c H locs cells slots Q ba ak pc ls st := by
  intro lsR hL hg
  unfold zv_op at hop
  split at hop
  all_goals try (cases hop; done)
  · split at hop <;> cases hop
    rename_i n _ _
    exact lv_iconst hx hb hdg rfl (kk lsR hL (zv_fc (by unfold zv_vg zv_rg; dsimp only; omega) hg))
  · split at hop <;> cases hop
    rename_i n _ q
    exact lv_bipush hx hb hdg (zv_byte q.1 q.2) (kk lsR hL (zv_fc (by unfold zv_vg zv_rg; dsimp only; omega) hg))
  · split at hop <;> cases hop
    rename_i n _ q
    exact lv_sipush hx hb hdg (zv_short q.1 q.2) (kk lsR hL (zv_fc (by unfold zv_vg zv_rg; dsimp only; omega) hg))
  · cases hop
    exact lv_lconst hx hb hdg rfl (kk lsR hL (zv_fc trivial hg))
  · cases hop
    exact lv_null hx hb hdg (kk lsR hL (zv_fc trivial hg))
  · split at hop <;> cases hop
    rename_i q
    exact lv_iload_n hx hb hdg rfl (hL.2.2 _ _ q).1 (kk lsR hL (zv_fc (hL.2.2 _ _ q).2 hg))
  · split at hop <;> cases hop
    rename_i q
    exact lv_iload hx hb hdg (hL.2.2 _ _ q).1 (kk lsR hL (zv_fc (hL.2.2 _ _ q).2 hg))
  · split at hop <;> cases hop
    rename_i q
    exact lv_lload_n hx hb hdg rfl (hL.2.2 _ _ q).1 (kk lsR hL (zv_fc (hL.2.2 _ _ q).2 hg))
  · split at hop <;> cases hop
    rename_i q
    exact lv_lload hx hb hdg (hL.2.2 _ _ q).1 (kk lsR hL (zv_fc (hL.2.2 _ _ q).2 hg))
  · split at hop <;> cases hop
    rename_i q
    exact zv_aload_n hx hb hdg (hL.2.2 _ _ q).1 (kk lsR hL (zv_fc (hL.2.2 _ _ q).2 hg))
  · split at hop <;> cases hop
    rename_i q
    exact zv_aload hx hb hdg (hL.2.2 _ _ q).1 (kk lsR hL (zv_fc (hL.2.2 _ _ q).2 hg))
  · split at hop <;> cases hop
    rename_i q
    exact lv_istore_n hx hb hdg rfl hL.has q rfl (fun ls' h' => kk ls' (hL.s1 (zv_fa hg).1 h') (zv_fa hg).2)
  · split at hop <;> cases hop
    rename_i q
    exact lv_istore hx hb hdg hL.has q rfl (fun ls' h' => kk ls' (hL.s1 (zv_fa hg).1 h') (zv_fa hg).2)
  · split at hop <;> cases hop
    rename_i q
    exact lv_lstore_n hx hb hdg rfl hL.has q rfl (fun ls' h' => kk ls' (hL.s2 h') (zv_fa hg).2)
  · split at hop <;> cases hop
    rename_i q
    exact lv_lstore hx hb hdg hL.has q rfl (fun ls' h' => kk ls' (hL.s2 h') (zv_fa hg).2)
  · split at hop <;> cases hop
    rename_i q
    exact zv_astore_n hx hb hdg hL.has q (fun ls' h' => kk ls' (hL.s1 (zv_fa hg).1 h') (zv_fa hg).2)
  · split at hop <;> cases hop
    rename_i q
    exact zv_astore hx hb hdg hL.has q (fun ls' h' => kk ls' (hL.s1 (zv_fa hg).1 h') (zv_fa hg).2)
  · split at hop
    · rename_i q
      split at hop <;> cases hop
      rename_i q2
      have hm := zv_lst_of ba ak ls 0 _ _ q
      rw [Nat.zero_add] at hm
      obtain ⟨k, hk⟩ := List.getElem?_of_mem hm
      exact lv_iinc hx hb hdg hL.has (k := k) hk (by rw [zv_of_w, Int32.ofInt_add]) q2 rfl (fun ls' h' => kk ls' (hL.s1 (v := zv_i _) (zv_rg_w _) h') hg)
    · cases hop
  · cases hop
    exact lv_iadd hx hb hdg (by rw [zv_add]; exact kk lsR hL (zv_fc (zv_rg_w _) (zv_fa (zv_fa hg).2).2))
  · cases hop
    exact lv_isub hx hb hdg (by rw [zv_sub]; exact kk lsR hL (zv_fc (zv_rg_w _) (zv_fa (zv_fa hg).2).2))
  · cases hop
    exact lv_imul hx hb hdg (by rw [zv_mul]; exact kk lsR hL (zv_fc (zv_rg_w _) (zv_fa (zv_fa hg).2).2))
  · cases hop
    exact lv_ineg hx hb hdg (by rw [zv_neg]; exact kk lsR hL (zv_fc (zv_rg_w _) (zv_fa hg).2))
  · split at hop <;> cases hop
    rename_i q
    have hy := (zv_fa hg).1
    have hx1 := (zv_fa (zv_fa hg).2).1
    exact lv_idiv hx hb hdg (fun z => q ((zv_eq0 hy).mp z)) (by rw [zv_div hx1 hy]; exact kk lsR hL (zv_fc (zv_rg_w _) (zv_fa (zv_fa hg).2).2))
  · split at hop <;> cases hop
    rename_i q
    have hy := (zv_fa hg).1
    have hx1 := (zv_fa (zv_fa hg).2).1
    exact lv_irem hx hb hdg (fun z => q ((zv_eq0 hy).mp z)) (by rw [zv_rem hx1 hy]; exact kk lsR hL (zv_fc (zv_rg_tmod hx1) (zv_fa (zv_fa hg).2).2))
  · cases hop
    exact lv_iand hx hb hdg (by have := kk lsR hL (zv_fc (zv_rg_toInt _) (zv_fa (zv_fa hg).2).2); simpa only [List.map_cons, zv_cv, zv_and, zv_ofto, zv_len] using this)
  · cases hop
    exact lv_ior hx hb hdg (by have := kk lsR hL (zv_fc (zv_rg_toInt _) (zv_fa (zv_fa hg).2).2); simpa only [List.map_cons, zv_cv, zv_or, zv_ofto, zv_len] using this)
  · cases hop
    exact lv_ishl hx hb hdg (by have := kk lsR hL (zv_fc (zv_rg_toInt _) (zv_fa (zv_fa hg).2).2); simpa only [List.map_cons, zv_cv, zv_shl, zv_ofto, zv_len] using this)
  · cases hop
    exact lv_ishr hx hb hdg (by have := kk lsR hL (zv_fc (zv_rg_toInt _) (zv_fa (zv_fa hg).2).2); simpa only [List.map_cons, zv_cv, zv_shr, zv_ofto, zv_len] using this)
  · cases hop
    exact lv_iushr hx hb hdg (zv_ofto _).symm (kk lsR hL (zv_fc (zv_rg_toInt _) (zv_fa (zv_fa hg).2).2))
  · cases hop
    exact lv_i2b hx hb hdg (zv_ofto _).symm (kk lsR hL (zv_fc (zv_rg_toInt _) (zv_fa hg).2))
  · cases hop
    exact lv_i2c hx hb hdg (zv_ofto _).symm (kk lsR hL (zv_fc (zv_rg_toInt _) (zv_fa hg).2))
  · cases hop
    exact lv_i2l hx hb hdg rfl (kk lsR hL (zv_fc trivial (zv_fa hg).2))
  · cases hop
    exact lv_l2i hx hb hdg (zv_ofto _).symm (kk lsR hL (zv_fc (zv_rg_toInt _) (zv_fa hg).2))
  · cases hop
    exact lv_ladd hx hb hdg (kk lsR hL (zv_fc trivial (zv_fa (zv_fa hg).2).2))
  · cases hop
    exact lv_lsub hx hb hdg (kk lsR hL (zv_fc trivial (zv_fa (zv_fa hg).2).2))
  · cases hop
    exact lv_lmul hx hb hdg (kk lsR hL (zv_fc trivial (zv_fa (zv_fa hg).2).2))
  · cases hop
    exact lv_land hx hb hdg (kk lsR hL (zv_fc trivial (zv_fa (zv_fa hg).2).2))
  · cases hop
    exact lv_lor hx hb hdg (kk lsR hL (zv_fc trivial (zv_fa (zv_fa hg).2).2))
  · cases hop
    exact lv_lxor hx hb hdg (kk lsR hL (zv_fc trivial (zv_fa (zv_fa hg).2).2))
  · cases hop
    exact lv_lshl hx hb hdg rfl (kk lsR hL (zv_fc trivial (zv_fa (zv_fa hg).2).2))
  · cases hop
    exact lv_lushr hx hb hdg rfl (kk lsR hL (zv_fc trivial (zv_fa (zv_fa hg).2).2))
  · cases hop
    exact W.lcmp hx hb hdg (by rw [zv_lcmp_eq]; exact kk lsR hL (zv_fc (zv_rg_lcmp _ _) (zv_fa (zv_fa hg).2).2))
  · cases hop
    exact lv_dup hx hb hdg rfl (kk lsR hL (zv_fc (zv_fa hg).1 hg))
  · cases hop
    refine lv_dup hx hb hdg ?_ (kk lsR hL (zv_fc (zv_fa hg).1 hg))
    exact zv_cat1 ba ak _
  · cases hop
    refine lv_dup2_11 hx hb hdg rfl ?_ (kk lsR hL (zv_fc (zv_fa hg).1 (zv_fc (zv_fa (zv_fa hg).2).1 hg)))
    exact zv_cat1 ba ak _
  · cases hop
    exact lv_pop hx hb hdg rfl (kk lsR hL (zv_fa hg).2)
  · cases hop
    refine lv_pop hx hb hdg ?_ (kk lsR hL (zv_fa hg).2)
    exact zv_cat1 ba ak _
end ZOP
end
section
/-! the cells -/
def zv_fv (ba : Nat) (ak : Nat → Nat) (h : zv_H) (r ci k : Nat) : Value := match zv_ft ci k with
  | 0 => .int (Int32.ofInt (zv_I h r k))
  | 1 => .int (Int32.ofInt (zv_I h r k))
  | 2 => .long (zv_J h r k)
  | _ => va_rf (zv_ad ba ak (zv_R h r k))
def zv_fs (ba : Nat) (ak : Nat → Nat) (h : zv_H) (r ci : Nat) : List Value := (List.range (zv_nf ci)).map (zv_fv ba ak h r ci)
def zv_el (g : Nat → ClassId) (ba : Nat) (ak : Nat → Nat) (h : zv_H) (r : Nat) : va_E := match (zv_lay r).1 with
  | 1 => .inr ((zv_lay r).2, zv_fs ba ak h r (zv_lay r).2)
  | 2 => .inl (g 2, (zv_lay r).2, .inl fun j => Int32.ofInt (zv_I h r j))
  | 3 => .inl (g 3, (zv_lay r).2, .inl fun j => Int32.ofInt (zv_I h r j))
  | 4 => .inl (g 4, (zv_lay r).2, .inl fun j => Int32.ofInt (zv_I h r j))
  | 5 => .inl (g 5, (zv_lay r).2, .inr (.inl fun j => zv_J h r j))
  | _ => .inl (g 6, (zv_lay r).2, .inr (.inr (.inr (.inr fun j => zv_ad ba ak (zv_R h r j)))))
def zv_ws (g : Nat → ClassId) (ba : Nat) (ak : Nat → Nat) (h : zv_H) : va_W := (List.range (zv_n h)).map fun q => (ba + (q + 1), zv_el g ba ak h (q + 1))
def zv_Ac (ba : Nat) : Nat → Prop := fun q => ba < q
def zv_tys (g : Nat → ClassId) : List (ClassId × FieldType) := [(g 2, .int), (g 3, .boolean), (g 4, .byte), (g 5, .long), (g 6, .object "BranchedText$State")]
def zv_hg (h : zv_H) : Prop := ∀ r k, zv_rg (zv_I h r k)
def zv_RH (D : va_G) (g : Nat → ClassId) (ba : Nat) (ak : Nat → Nat) (h : zv_H) (H : Heap) : Prop := H.size = ba + zv_n h + 1 ∧ va_P D vwCl (zv_ws g ba ak h) H ∧ zv_hg h ∧ zv_n h < 1000000
theorem zv_lay0 : zv_lay 0 = (0, 0) := by decide +kernel
theorem zv_layL_len : zv_layL.length = 373 := by decide +kernel
theorem zv_lay_lt {r : Nat} (h : ¬ (zv_lay r).1 = 0) : r < 373 := by
  rcases Nat.lt_or_ge r 373 with q | q
  · exact q
  · refine absurd ?_ h
    unfold zv_lay
    rw [List.getD_eq_getElem?_getD, List.getElem?_eq_none (by rw [zv_layL_len]; exact q)]
    rfl
theorem zv_lay_pos {r k v : Nat} (h : zv_lay r = (k + 1, v)) : 1 ≤ r := by
  rcases Nat.eq_zero_or_pos r with q | q
  · subst q
    rw [zv_lay0] at h
    cases h
  · exact q
theorem zv_lay_pos' {r : Nat} (h : ¬ (zv_lay r).1 = 0) : 1 ≤ r := by
  rcases Nat.eq_zero_or_pos r with q | q
  · subst q
    rw [zv_lay0] at h
    exact absurd rfl h
  · exact q
theorem zv_ws_at {g : Nat → ClassId} {ba : Nat} {ak : Nat → Nat} {h : zv_H} {r : Nat} (h1 : 1 ≤ r) (h2 : r ≤ zv_n h) : (zv_ws g ba ak h)[r - 1]? = some (ba + r, zv_el g ba ak h r) := by
  unfold zv_ws
  rw [List.getElem?_map, List.getElem?_range (by omega)]
  simp only [Option.map_some]
  rw [show r - 1 + 1 = r by omega]
theorem zv_ws_in {g : Nat → ClassId} {ba : Nat} {ak : Nat → Nat} {h : zv_H} {k : Nat} {q : Nat × va_E} (hk : (zv_ws g ba ak h)[k]? = some q) : k < zv_n h ∧ q = (ba + (k + 1), zv_el g ba ak h (k + 1)) := by
  unfold zv_ws at hk
  rw [List.getElem?_map] at hk
  rcases Nat.lt_or_ge k (zv_n h) with z | z
  · rw [List.getElem?_range z] at hk
    exact ⟨z, (Option.some.inj hk).symm⟩
  · rw [List.getElem?_eq_none (by rw [List.length_range]; exact z)] at hk
    cases hk
theorem zv_ws_D (g : Nat → ClassId) (ba : Nat) (ak : Nat → Nat) (h : zv_H) : va_D (zv_Ac ba) (zv_ws g ba ak h) := by
  refine ⟨fun i j p q hi hj e => ?_, fun k q hk => ?_⟩
  · obtain ⟨-, rfl⟩ := zv_ws_in hi
    obtain ⟨-, rfl⟩ := zv_ws_in hj
    dsimp only at e
    omega
  · obtain ⟨-, rfl⟩ := zv_ws_in hk
    show ba < ba + (k + 1)
    omega
/-- one cell changes -/
theorem zv_ws_set {g : Nat → ClassId} {ba : Nat} {ak : Nat → Nat} {h h' : zv_H} {r : Nat} (h1 : 1 ≤ r) (hn : zv_n h' = zv_n h) (hne : ∀ q, ¬ q = r → zv_el g ba ak h' q = zv_el g ba ak h q) : (zv_ws g ba ak h).set (r - 1) (ba + r, zv_el g ba ak h' r) = zv_ws g ba ak h' := by
  apply List.ext_getElem?
  intro k
  by_cases hk : k = r - 1
  · subst hk
    by_cases hl : r - 1 < zv_n h
    · rw [List.getElem?_set_self (by unfold zv_ws; simp; exact hl), zv_ws_at h1 (by omega)]
    · rw [List.getElem?_eq_none (by unfold zv_ws; simp; omega), List.getElem?_eq_none (by unfold zv_ws; simp; omega)]
  · rw [List.getElem?_set_ne (Ne.symm hk)]
    unfold zv_ws
    rw [List.getElem?_map, List.getElem?_map, hn]
    rcases Nat.lt_or_ge k (zv_n h) with z | z
    · rw [List.getElem?_range z]
      simp only [Option.map_some]
      rw [hne (k + 1) (by omega)]
    · rw [List.getElem?_eq_none (by rw [List.length_range]; exact z)]
      rfl
theorem zv_ws_push {g : Nat → ClassId} {ba : Nat} {ak : Nat → Nat} {h h' : zv_H} (hn : zv_n h' = zv_n h + 1) (hne : ∀ q, q ≤ zv_n h → zv_el g ba ak h' q = zv_el g ba ak h q) : zv_ws g ba ak h' = zv_ws g ba ak h ++ [(ba + (zv_n h + 1), zv_el g ba ak h' (zv_n h + 1))] := by
  unfold zv_ws
  rw [hn, List.range_succ, List.map_append]
  congr 1
  apply List.map_congr_left
  intro q hq
  rw [hne (q + 1) (by have := List.mem_range.mp hq; omega)]
theorem zv_el_obj {g : Nat → ClassId} {ba : Nat} {ak : Nat → Nat} {h : zv_H} {r ci : Nat} (hl : zv_lay r = (1, ci)) : zv_el g ba ak h r = .inr (ci, zv_fs ba ak h r ci) := by
  unfold zv_el
  rw [hl]; try rfl
theorem zv_fs_at {ba : Nat} {ak : Nat → Nat} {h : zv_H} {r ci k : Nat} (hk : k < zv_nf ci) : (zv_fs ba ak h r ci)[k]? = some (zv_fv ba ak h r ci k) := by
  unfold zv_fs
  rw [List.getElem?_map, List.getElem?_range hk]
  rfl
theorem zv_fs_len (ba : Nat) (ak : Nat → Nat) (h : zv_H) (r ci : Nat) : (zv_fs ba ak h r ci).length = zv_nf ci := by
  unfold zv_fs
  simp
theorem zv_fs_set {ba : Nat} {ak : Nat → Nat} {h h' : zv_H} {r ci k : Nat} {v : Value} (hv : zv_fv ba ak h' r ci k = v) (hne : ∀ j, ¬ j = k → zv_fv ba ak h' r ci j = zv_fv ba ak h r ci j) : (zv_fs ba ak h r ci).set k v = zv_fs ba ak h' r ci := by
  apply List.ext_getElem?
  intro j
  by_cases hj : j = k
  · subst hj
    by_cases hl : j < zv_nf ci
    · rw [List.getElem?_set_self (by rw [zv_fs_len]; exact hl), zv_fs_at hl, hv]
    · rw [List.getElem?_eq_none (by simp [zv_fs_len]; omega), List.getElem?_eq_none (by rw [zv_fs_len]; omega)]
  · rw [List.getElem?_set_ne (Ne.symm hj)]
    by_cases hl : j < zv_nf ci
    · rw [zv_fs_at hl, zv_fs_at hl, hne j hj]
    · rw [List.getElem?_eq_none (by rw [zv_fs_len]; omega), List.getElem?_eq_none (by rw [zv_fs_len]; omega)]
theorem zv_el_congr {g : Nat → ClassId} {ba : Nat} {ak : Nat → Nat} {h h' : zv_H} {r : Nat} (hI : ∀ k, zv_I h' r k = zv_I h r k) (hJ : ∀ k, zv_J h' r k = zv_J h r k) (hR : ∀ k, zv_R h' r k = zv_R h r k) : zv_el g ba ak h' r = zv_el g ba ak h r := by
  unfold zv_el zv_fs zv_fv
  simp only [hI, hJ, hR]
section UPD
variable (h : zv_H) (r k : Nat)
theorem zv_n_sI (v : Int) : zv_n (zv_sI h r k v) = zv_n h := rfl
theorem zv_n_sJ (v : Int64) : zv_n (zv_sJ h r k v) = zv_n h := rfl
theorem zv_n_sR (v : Nat) : zv_n (zv_sR h r k v) = zv_n h := rfl
theorem zv_s_sI (v : Int) : zv_s (zv_sI h r k v) = zv_s h := rfl
theorem zv_s_sJ (v : Int64) : zv_s (zv_sJ h r k v) = zv_s h := rfl
theorem zv_s_sR (v : Nat) : zv_s (zv_sR h r k v) = zv_s h := rfl
theorem zv_I_sI (v : Int) (a b : Nat) : zv_I (zv_sI h r k v) a b = if a = r ∧ b = k then v else zv_I h a b := rfl
theorem zv_I_sJ (v : Int64) (a b : Nat) : zv_I (zv_sJ h r k v) a b = zv_I h a b := rfl
theorem zv_I_sR (v : Nat) (a b : Nat) : zv_I (zv_sR h r k v) a b = zv_I h a b := rfl
theorem zv_J_sI (v : Int) (a b : Nat) : zv_J (zv_sI h r k v) a b = zv_J h a b := rfl
theorem zv_J_sJ (v : Int64) (a b : Nat) : zv_J (zv_sJ h r k v) a b = if a = r ∧ b = k then v else zv_J h a b := rfl
theorem zv_J_sR (v : Nat) (a b : Nat) : zv_J (zv_sR h r k v) a b = zv_J h a b := rfl
theorem zv_R_sI (v : Int) (a b : Nat) : zv_R (zv_sI h r k v) a b = zv_R h a b := rfl
theorem zv_R_sJ (v : Int64) (a b : Nat) : zv_R (zv_sJ h r k v) a b = zv_R h a b := rfl
theorem zv_R_sR (v : Nat) (a b : Nat) : zv_R (zv_sR h r k v) a b = if a = r ∧ b = k then v else zv_R h a b := rfl
end UPD
theorem zv_el_sI {g : Nat → ClassId} {ba : Nat} {ak : Nat → Nat} {h : zv_H} {r k q : Nat} {v : Int} (hq : ¬ q = r) : zv_el g ba ak (zv_sI h r k v) q = zv_el g ba ak h q :=
  zv_el_congr (fun j => by rw [zv_I_sI, if_neg (fun z => hq z.1)]) (fun _ => rfl) (fun _ => rfl)
theorem zv_el_sJ {g : Nat → ClassId} {ba : Nat} {ak : Nat → Nat} {h : zv_H} {r k q : Nat} {v : Int64} (hq : ¬ q = r) : zv_el g ba ak (zv_sJ h r k v) q = zv_el g ba ak h q :=
  zv_el_congr (fun _ => rfl) (fun j => by rw [zv_J_sJ, if_neg (fun z => hq z.1)]) (fun _ => rfl)
theorem zv_el_sR {g : Nat → ClassId} {ba : Nat} {ak : Nat → Nat} {h : zv_H} {r k q : Nat} {v : Nat} (hq : ¬ q = r) : zv_el g ba ak (zv_sR h r k v) q = zv_el g ba ak h q :=
  zv_el_congr (fun _ => rfl) (fun _ => rfl) (fun j => by rw [zv_R_sR, if_neg (fun z => hq z.1)])
theorem zv_hg_sI {h : zv_H} {r k : Nat} {v : Int} (hh : zv_hg h) (hv : zv_rg v) : zv_hg (zv_sI h r k v) := by
  intro a b
  rw [zv_I_sI]
  split
  · exact hv
  · exact hh a b
end
section
/-! the instructions on cells -/
def zv_tb : List Cond := lw_tbl.filter goodWord
def zv_tyk (n : Nat) (t : FieldType) : Prop := match n with
  | 0 => t = .int
  | 1 => t = .boolean
  | 2 => t = .long
  | 3 => (∃ x, t = .object x) ∨ ∃ x, t = .array x
  | _ => False
/-- a class of the world -/
def zv_CF (ci : Nat) (C : String) (T : u_T) (N : Nat) (ty : Nat → FieldType) : Prop :=
  vwCl[ci]? = some (C, T, N) ∧ N = zv_nf ci ∧ (∀ w ∈ u_ws C T N, w ∈ zv_tb) ∧ (∀ k, k < N → parseFieldDescriptor (T k).2.2.1 = some (ty k)) ∧ (∀ a, a < N → ∀ b, b < N → a ≠ b → (T a).2.1 ≠ (T b).2.1) ∧ (∀ k, k < N → (T k).1 = C) ∧ ∀ k, k < N → zv_tyk (zv_ft ci k) (ty k)
def zv_lkf (own : String) (ix : Nat) (C n d : String) : Prop := Cond.fieldLink own ix C n d ∈ zv_tb ∨ ∃ host, Cond.fieldLinkNest own ix C n d host ∈ tables_1
def zv_NF (s : State) : Prop := ∀ own ix C n d host, Cond.fieldLinkNest own ix C n d host ∈ tables_1 → va_Nw (.fieldLinkNest own ix C n d host) s
def zv_NM (s : State) : Prop := ∀ own ix y host, Cond.methodLinkNest own ix y host ∈ tables_1 → va_Nw (.methodLinkNest own ix y host) s
section ZCEL
variable {p : Program} {l : Launch} {e : Env} {R : Room} {s : State} {m : MethodId} {args : Array Value} {below : List Frame} {meth : Method} {c : Code} {H : Heap} {locs : List Loc} {cells slots : Nat} {Q : State → Prop}
variable {cc : ByteArray} {pc : Nat} {ba : Nat} {ak : Nat → Nat} {D : va_G} {g : Nat → ClassId} {lsR : Array Slot} {rest : List Value} {own : String}
theorem zv_ad_in {r n : Nat} (h1 : 1 ≤ r) (h2 : r ≤ n) (hn : n < 1000000) : va_rf (zv_ad ba ak r) = .ref (ba + r) := by
  unfold zv_ad
  rw [if_neg (by omega), if_pos (by omega)]
  rfl
theorem zv_Wsz {g : JFrame} (kk : H.size ≤ s.heap.size + cells → W p l e R s m args below meth c H locs cells slots Q g) : W p l e R s m args below meth c H locs cells slots Q g := by
  intro T hT X
  have hz := X.same.2.2.1
  refine kk ?_ T hT X
  rw [← hT]
  exact hz
theorem zv_Srf {A : Nat → Prop} {H0 : Heap} (hS : va_S A H0 H locs) : va_S A H H locs := ⟨Nat.le_refl _, fun _ _ _ => rfl, hS.2.2⟩
theorem zv_Str {A : Nat → Prop} {H0 H1 : Heap} {locs1 : List Loc} (hS : va_S A H0 H locs) (h1 : va_S A H H1 locs1) : va_S A H0 H1 locs1 :=
  ⟨Nat.le_trans hS.1 h1.1, fun q a b => (h1.2.1 q (Nat.lt_of_lt_of_le a hS.1) b).trans (hS.2.1 q a b), h1.2.2⟩
/-- behind a write: the size is what it was -/
theorem zv_back {g : JFrame} {h h' : zv_H} {D : va_G} {gg : Nat → ClassId} {ba : Nat} {ak : Nat → Nat} {H1 : Heap} {locs1 : List Loc} (hR : zv_RH D gg ba ak h H) (hS : va_S (zv_Ac ba) s.heap H locs) (hsc : s.heap.size + cells = ba + zv_n h + 1) (hn' : zv_n h' = zv_n h) (hg' : zv_hg h')
    (kk : zv_RH D gg ba ak h' H1 → va_S (zv_Ac ba) s.heap H1 locs1 → W p l e R s m args below meth c H1 locs1 cells slots Q g) (q1 : va_P D vwCl (zv_ws gg ba ak h') H1) (q3 : va_S (zv_Ac ba) H H1 locs1) : W p l e R s m args below meth c H1 locs1 cells slots Q g := by
  refine zv_Wsz fun hz => ?_
  have h1 := q3.1
  have h2 := hR.1
  exact kk ⟨by rw [hn']; omega, q1, hg', by rw [hn']; exact hR.2.2.2⟩ (zv_Str hS q3)
theorem zv_get_ok (hx : p.tables.exec = Jvm.exec) (hb : c.code = cc) (hts : ∀ w ∈ zv_tb, w.before args s = true) (hNF : zv_NF s) (hown : s.vm.findClass own = some m.cls) (hK : va_K D vwCl (zv_tys g) s) {h : zv_H} (hR : zv_RH D g ba ak h H)
    {r ci k ix : Nat} {C : String} {T : u_T} {N : Nat} {ty : Nat → FieldType} (hCF : zv_CF ci C T N ty) (hk : k < N) (hl : zv_lkf own ix C (T k).2.1 (T k).2.2.1) (ho : r ≤ zv_n h ∧ zv_lay r = (1, ci)) (hdg : decode cc pc = .ok (.getfield ix, 3))
    (kk : W p l e R s m args below meth c H locs cells slots Q (F0 m (pc + 3) lsR (zv_fv ba ak h r ci k :: rest))) : W p l e R s m args below meth c H locs cells slots Q (F0 m pc lsR (va_rf (zv_ad ba ak r) :: rest)) := by
  obtain ⟨h1, h2, h3, h4, h5, h6, h7⟩ := hCF
  have hp := zv_lay_pos ho.2
  rw [zv_ad_in hp ho.1 hR.2.2.2]
  have he : (zv_ws g ba ak h)[r - 1]? = some (ba + r, .inr (ci, zv_fs ba ak h r ci)) := by rw [zv_ws_at hp ho.1, zv_el_obj ho.2]
  have hsame : ∀ x, s.fieldFound? (T k).1 (T k).2.1 (T k).2.2.1 = some x → s.fieldFound? C (T k).2.1 (T k).2.2.1 = some x := fun x hx => by rw [← h6 k hk]; exact hx
  rcases hl with hl | ⟨host, hl⟩
  · exact va_get hx hb hts h3 hown hK hR.2.1 (r - 1) he h1 k hk (hts _ hl) hsame (zv_fs_at (h2 ▸ hk)) hdg kk
  · exact va_getN hx hb hts h3 hown hK hR.2.1 (r - 1) he h1 k hk ((hNF _ _ _ _ _ _ hl).use rfl) hsame (zv_fs_at (h2 ▸ hk)) hdg kk
/-- a field is written: the cells behind it -/
theorem zv_put_ok (hx : p.tables.exec = Jvm.exec) (hb : c.code = cc) (hts : ∀ w ∈ zv_tb, w.before args s = true) (hNF : zv_NF s) (hown : s.vm.findClass own = some m.cls) (hK : va_K D vwCl (zv_tys g) s) {h h' : zv_H} (hR : zv_RH D g ba ak h H) (hS : va_S (zv_Ac ba) s.heap H locs) (hsc : s.heap.size + cells = ba + zv_n h + 1)
    {r ci k ix : Nat} {C : String} {T : u_T} {N : Nat} {ty : Nat → FieldType} (hCF : zv_CF ci C T N ty) (hk : k < N) (hl : zv_lkf own ix C (T k).2.1 (T k).2.2.1) (hfin : (T k).2.2.2 = true → Cond.fieldLink own ix C (T k).2.1 (T k).2.2.1 ∈ zv_tb ∧ meth.name = "<init>" ∧ C = own) (ho : r ≤ zv_n h ∧ zv_lay r = (1, ci))
    {v : Value} (hn : narrow (ty k) v = v) (hf : fits (ty k) v = true) (hv : zv_fv ba ak h' r ci k = v) (hne : ∀ j, ¬ j = k → zv_fv ba ak h' r ci j = zv_fv ba ak h r ci j) (hne2 : ∀ q, ¬ q = r → zv_el g ba ak h' q = zv_el g ba ak h q) (hn' : zv_n h' = zv_n h) (hg' : zv_hg h') (hdg : decode cc pc = .ok (.putfield ix, 3))
    (kk : ∀ H1 locs1, zv_RH D g ba ak h' H1 → va_S (zv_Ac ba) s.heap H1 locs1 → W p l e R s m args below meth c H1 locs1 cells slots Q (F0 m (pc + 3) lsR rest)) : W p l e R s m args below meth c H locs cells slots Q (F0 m pc lsR (v :: va_rf (zv_ad ba ak r) :: rest)) := by
  obtain ⟨h1, h2, h3, h4, h5, h6, h7⟩ := hCF
  have hp := zv_lay_pos ho.2
  rw [zv_ad_in hp ho.1 hR.2.2.2]
  have he : (zv_ws g ba ak h)[r - 1]? = some (ba + r, .inr (ci, zv_fs ba ak h r ci)) := by rw [zv_ws_at hp ho.1, zv_el_obj ho.2]
  have hsame : ∀ x, s.fieldFound? (T k).1 (T k).2.1 (T k).2.2.1 = some x → s.fieldFound? C (T k).2.1 (T k).2.2.1 = some x := fun x hx => by rw [← h6 k hk]; exact hx
  have hset : (zv_ws g ba ak h).set (r - 1) (ba + r, .inr (ci, (zv_fs ba ak h r ci).set k v)) = zv_ws g ba ak h' := by
    rw [zv_fs_set hv hne, ← zv_el_obj (g := g) ho.2]
    exact zv_ws_set hp hn' hne2
  have kk2 : ∀ (H1 : Heap) (locs1 : List Loc), va_P D vwCl ((zv_ws g ba ak h).set (r - 1) (ba + r, .inr (ci, (zv_fs ba ak h r ci).set k v))) H1 → va_D (zv_Ac ba) ((zv_ws g ba ak h).set (r - 1) (ba + r, .inr (ci, (zv_fs ba ak h r ci).set k v))) → va_S (zv_Ac ba) H H1 locs1 → W p l e R s m args below meth c H1 locs1 cells slots Q (F0 m (pc + 3) lsR rest) := by
    intro H1 locs1 q1 q2 q3
    rw [hset] at q1
    exact zv_back hR hS hsc hn' hg' (kk H1 locs1) q1 q3
  have hD := zv_ws_D g ba ak h
  have hk2 : k < (zv_fs ba ak h r ci).length := by rw [zv_fs_len]; omega
  rcases hfb : (T k).2.2.2 with _ | _
  · rcases hl with hl | ⟨host, hl⟩
    · exact va_put hx hb hts h3 ty h4 h5 hown hK hR.2.1 hD (zv_Srf hS) (r - 1) he h1 k hk (hts _ hl) hsame hfb (h4 k hk) hn hf hk2 hdg kk2
    · exact va_putN hx hb hts h3 ty h4 h5 hown hK hR.2.1 hD (zv_Srf hS) (r - 1) he h1 k hk ((hNF _ _ _ _ _ _ hl).use rfl) hsame hfb (h4 k hk) hn hf hk2 hdg kk2
  · obtain ⟨f1, f2, f3⟩ := hfin hfb
    exact va_putF hx hb hts h3 ty h4 h5 hown hK hR.2.1 hD (zv_Srf hS) (r - 1) he h1 k hk (hts _ f1) hsame hfb f2 ((h6 k hk).trans f3) (h4 k hk) hn hf hk2 hdg kk2
end ZCEL
end
section
theorem zv_tb_of {w : Cond} (i : Nat) (h : tables_1[i]? = some w) (hg : goodWord w = true) : w ∈ zv_tb := List.mem_filter.mpr ⟨List.mem_append_right _ (List.mem_of_getElem? h), hg⟩
theorem zv_tb_sel {w : Cond} (h : w ∈ k2_sels lw_privs) (hg : goodWord w = true) : w ∈ zv_tb := List.mem_filter.mpr ⟨List.mem_append_left _ h, hg⟩
theorem zv_tb_good {ws : List Cond} (h : ∀ w ∈ ws, w ∈ zv_tb) : GoodIn zv_tb ws := fun w hw => ⟨h w hw, good_of_word (List.mem_filter.mp (h w hw)).2⟩
theorem zv_tb_lw {w : Cond} (h : w ∈ zv_tb) : w ∈ lw_tbl := (List.mem_filter.mp h).1
theorem zv_t1_1 {w : Cond} (i : Nat) (h : tables_1_1[i]? = some w) : w ∈ tables_1 := (List.mem_append_left _ (List.mem_of_getElem? h))
theorem zv_tbk_1 {w : Cond} (i : Nat) (h : tables_1_1[i]? = some w) (hg : goodWord w = true) : w ∈ zv_tb := List.mem_filter.mpr ⟨List.mem_append_right _ (zv_t1_1 i h), hg⟩
theorem zv_t1_2 {w : Cond} (i : Nat) (h : tables_1_2[i]? = some w) : w ∈ tables_1 := (List.mem_append_right _ (List.mem_append_left _ (List.mem_of_getElem? h)))
theorem zv_tbk_2 {w : Cond} (i : Nat) (h : tables_1_2[i]? = some w) (hg : goodWord w = true) : w ∈ zv_tb := List.mem_filter.mpr ⟨List.mem_append_right _ (zv_t1_2 i h), hg⟩
theorem zv_t1_3 {w : Cond} (i : Nat) (h : tables_1_3[i]? = some w) : w ∈ tables_1 := (List.mem_append_right _ (List.mem_append_right _ (List.mem_append_left _ (List.mem_of_getElem? h))))
theorem zv_tbk_3 {w : Cond} (i : Nat) (h : tables_1_3[i]? = some w) (hg : goodWord w = true) : w ∈ zv_tb := List.mem_filter.mpr ⟨List.mem_append_right _ (zv_t1_3 i h), hg⟩
theorem zv_t1_4 {w : Cond} (i : Nat) (h : tables_1_4[i]? = some w) : w ∈ tables_1 := (List.mem_append_right _ (List.mem_append_right _ (List.mem_append_right _ (List.mem_append_left _ (List.mem_of_getElem? h)))))
theorem zv_tbk_4 {w : Cond} (i : Nat) (h : tables_1_4[i]? = some w) (hg : goodWord w = true) : w ∈ zv_tb := List.mem_filter.mpr ⟨List.mem_append_right _ (zv_t1_4 i h), hg⟩
theorem zv_t1_5 {w : Cond} (i : Nat) (h : tables_1_5[i]? = some w) : w ∈ tables_1 := (List.mem_append_right _ (List.mem_append_right _ (List.mem_append_right _ (List.mem_append_right _ (List.mem_append_left _ (List.mem_of_getElem? h))))))
theorem zv_tbk_5 {w : Cond} (i : Nat) (h : tables_1_5[i]? = some w) (hg : goodWord w = true) : w ∈ zv_tb := List.mem_filter.mpr ⟨List.mem_append_right _ (zv_t1_5 i h), hg⟩
theorem zv_t1_6 {w : Cond} (i : Nat) (h : tables_1_6[i]? = some w) : w ∈ tables_1 := (List.mem_append_right _ (List.mem_append_right _ (List.mem_append_right _ (List.mem_append_right _ (List.mem_append_right _ (List.mem_append_left _ (List.mem_of_getElem? h)))))))
theorem zv_tbk_6 {w : Cond} (i : Nat) (h : tables_1_6[i]? = some w) (hg : goodWord w = true) : w ∈ zv_tb := List.mem_filter.mpr ⟨List.mem_append_right _ (zv_t1_6 i h), hg⟩
theorem zv_t1_7 {w : Cond} (i : Nat) (h : tables_1_7[i]? = some w) : w ∈ tables_1 := (List.mem_append_right _ (List.mem_append_right _ (List.mem_append_right _ (List.mem_append_right _ (List.mem_append_right _ (List.mem_append_right _ (List.mem_append_left _ (List.mem_of_getElem? h))))))))
theorem zv_tbk_7 {w : Cond} (i : Nat) (h : tables_1_7[i]? = some w) (hg : goodWord w = true) : w ∈ zv_tb := List.mem_filter.mpr ⟨List.mem_append_right _ (zv_t1_7 i h), hg⟩
theorem zv_t1_8 {w : Cond} (i : Nat) (h : tables_1_8[i]? = some w) : w ∈ tables_1 := (List.mem_append_right _ (List.mem_append_right _ (List.mem_append_right _ (List.mem_append_right _ (List.mem_append_right _ (List.mem_append_right _ (List.mem_append_right _ (List.mem_append_left _ (List.mem_of_getElem? h)))))))))
theorem zv_tbk_8 {w : Cond} (i : Nat) (h : tables_1_8[i]? = some w) (hg : goodWord w = true) : w ∈ zv_tb := List.mem_filter.mpr ⟨List.mem_append_right _ (zv_t1_8 i h), hg⟩
theorem zv_t1_9 {w : Cond} (i : Nat) (h : tables_1_9[i]? = some w) : w ∈ tables_1 := (List.mem_append_right _ (List.mem_append_right _ (List.mem_append_right _ (List.mem_append_right _ (List.mem_append_right _ (List.mem_append_right _ (List.mem_append_right _ (List.mem_append_right _ (List.mem_of_getElem? h)))))))))
theorem zv_tbk_9 {w : Cond} (i : Nat) (h : tables_1_9[i]? = some w) (hg : goodWord w = true) : w ∈ zv_tb := List.mem_filter.mpr ⟨List.mem_append_right _ (zv_t1_9 i h), hg⟩
theorem zv_wA_int : Cond.arrayClass .int ∈ zv_tb := zv_tb_of 42 (by decide +kernel) (by decide +kernel)
theorem zv_wA_boolean : Cond.arrayClass .boolean ∈ zv_tb := zv_tb_of 251 (by decide +kernel) (by decide +kernel)
theorem zv_wA_byte : Cond.arrayClass .byte ∈ zv_tb := zv_tb_of 920 (by decide +kernel) (by decide +kernel)
theorem zv_wA_long : Cond.arrayClass .long ∈ zv_tb := zv_tb_of 1406 (by decide +kernel) (by decide +kernel)
theorem zv_wMx : Cond.static Lib.Math.max.name ∈ zv_tb ∧ Cond.initialized "java/lang/Math" ∈ zv_tb ∧ Cond.code Lib.Math.max.name Lib.Math.max.code 2 (some .int) ∈ zv_tb := ⟨(zv_tbk_4 0 (by decide +kernel) (by decide +kernel)), (zv_tbk_1 11 (by decide +kernel) (by decide +kernel)), (zv_tbk_4 1 (by decide +kernel) (by decide +kernel))⟩
theorem zv_wMn : Cond.static Lib.Math.min.name ∈ zv_tb ∧ Cond.initialized "java/lang/Math" ∈ zv_tb ∧ Cond.code Lib.Math.min.name Lib.Math.min.code 2 (some .int) ∈ zv_tb := ⟨(zv_tbk_2 229 (by decide +kernel) (by decide +kernel)), (zv_tbk_1 11 (by decide +kernel) (by decide +kernel)), (zv_tbk_2 230 (by decide +kernel) (by decide +kernel))⟩
end
section
/-! arrays, new cells -/
theorem zv_and1 (x : Int) : Int32.ofInt x &&& 1 = Int32.ofInt (zv_nz x) := by
  apply Int32.toInt_inj.mp
  have h1 : zv_rg (zv_nz x) := zv_rg_nz x
  rw [zv_toInt h1]
  have e1 : (Int32.ofInt x &&& 1).toBitVec.toNat = (Int32.ofInt x).toBitVec.toNat % 2 := by
    rw [Int32.toBitVec_and, BitVec.toNat_and]
    exact Nat.and_one_is_mod _
  have e2 : (Int32.ofInt x).toBitVec.toNat = (x % 4294967296).toNat := by
    rw [Int32.toBitVec_ofInt, BitVec.toNat_ofInt]
    rfl
  have e3 : (Int32.ofInt x &&& 1).toInt = ((Int32.ofInt x &&& 1).toBitVec.toNat : Int) := by
    show (Int32.ofInt x &&& 1).toBitVec.toInt = _
    rw [BitVec.toInt_eq_toNat_of_lt]
    rw [e1]
    have := Nat.mod_lt ((Int32.ofInt x).toBitVec.toNat) (show 0 < 2 by omega)
    omega
  rw [e3, e1, e2]
  unfold zv_nz
  omega
theorem zv_nar_z (x : Int) : vp_nar .boolean (Int32.ofInt x) = Int32.ofInt (zv_nz x) := by
  rw [← zv_and1]
  rfl
theorem zv_el_2 {g : Nat → ClassId} {ba : Nat} {ak : Nat → Nat} {h : zv_H} {r : Nat} (hl : (zv_lay r).1 = 2) : zv_el g ba ak h r = .inl (g 2, (zv_lay r).2, .inl fun j => Int32.ofInt (zv_I h r j)) := by
  unfold zv_el
  rw [hl]
  rfl
theorem zv_el_3 {g : Nat → ClassId} {ba : Nat} {ak : Nat → Nat} {h : zv_H} {r : Nat} (hl : (zv_lay r).1 = 3) : zv_el g ba ak h r = .inl (g 3, (zv_lay r).2, .inl fun j => Int32.ofInt (zv_I h r j)) := by
  unfold zv_el
  rw [hl]
  rfl
theorem zv_el_4 {g : Nat → ClassId} {ba : Nat} {ak : Nat → Nat} {h : zv_H} {r : Nat} (hl : (zv_lay r).1 = 4) : zv_el g ba ak h r = .inl (g 4, (zv_lay r).2, .inl fun j => Int32.ofInt (zv_I h r j)) := by
  unfold zv_el
  rw [hl]
  rfl
theorem zv_el_5 {g : Nat → ClassId} {ba : Nat} {ak : Nat → Nat} {h : zv_H} {r : Nat} (hl : (zv_lay r).1 = 5) : zv_el g ba ak h r = .inl (g 5, (zv_lay r).2, .inr (.inl fun j => zv_J h r j)) := by
  unfold zv_el
  rw [hl]
  rfl
theorem zv_el_6 {g : Nat → ClassId} {ba : Nat} {ak : Nat → Nat} {h : zv_H} {r : Nat} (hl : (zv_lay r).1 = 6) : zv_el g ba ak h r = .inl (g 6, (zv_lay r).2, .inr (.inr (.inr (.inr fun j => zv_ad ba ak (zv_R h r j))))) := by
  unfold zv_el
  rw [hl]
  rfl
section ZARR
variable {p : Program} {l : Launch} {e : Env} {R : Room} {s : State} {m : MethodId} {args : Array Value} {below : List Frame} {meth : Method} {c : Code} {H : Heap} {locs : List Loc} {cells slots : Nat} {Q : State → Prop}
variable {cc : ByteArray} {pc : Nat} {ba : Nat} {ak : Nat → Nat} {D : va_G} {g : Nat → ClassId} {lsR : Array Slot} {rest : List Value} {own : String}
theorem zv_iald_ok (hx : p.tables.exec = Jvm.exec) (hb : c.code = cc) (hK : va_K D vwCl (zv_tys g) s) {h : zv_H} (hR : zv_RH D g ba ak h H) {r : Nat} {j : Int} (hj : zv_rg j) (ho : r ≤ zv_n h ∧ (zv_lay r).1 = 2 ∧ 0 ≤ j ∧ j < (zv_lay r).2) (hdg : decode cc pc = .ok (.iaload, 1))
    (kk : W p l e R s m args below meth c H locs cells slots Q (F0 m (pc + 1) lsR (.int (Int32.ofInt (zv_I h r j.toNat)) :: rest))) : W p l e R s m args below meth c H locs cells slots Q (F0 m pc lsR (.int (Int32.ofInt j) :: va_rf (zv_ad ba ak r) :: rest)) := by
  obtain ⟨h1, h2, h3, h4⟩ := ho
  have hp := zv_lay_pos' (r := r) (by omega)
  rw [zv_ad_in hp h1 hR.2.2.2]
  exact va_iald hx hb hK hR.2.1 (r - 1) 0 (by rw [zv_ws_at hp h1, zv_el_2 h2]) rfl (zv_in hj h3 h4) hdg (by rw [zv_clamp hj h3]; exact kk)
theorem zv_bald_ok (hx : p.tables.exec = Jvm.exec) (hb : c.code = cc) (hK : va_K D vwCl (zv_tys g) s) {h : zv_H} (hR : zv_RH D g ba ak h H) {r : Nat} {j : Int} (hj : zv_rg j) (ho : r ≤ zv_n h ∧ ((zv_lay r).1 = 3 ∨ (zv_lay r).1 = 4) ∧ 0 ≤ j ∧ j < (zv_lay r).2) (hdg : decode cc pc = .ok (.baload, 1))
    (kk : W p l e R s m args below meth c H locs cells slots Q (F0 m (pc + 1) lsR (.int (Int32.ofInt (zv_I h r j.toNat)) :: rest))) : W p l e R s m args below meth c H locs cells slots Q (F0 m pc lsR (.int (Int32.ofInt j) :: va_rf (zv_ad ba ak r) :: rest)) := by
  obtain ⟨h1, h2, h3, h4⟩ := ho
  have hp := zv_lay_pos' (r := r) (by omega)
  rw [zv_ad_in hp h1 hR.2.2.2]
  rcases h2 with h2 | h2
  · exact va_zald hx hb hK hR.2.1 (r - 1) 1 (by rw [zv_ws_at hp h1, zv_el_3 h2]) rfl (zv_in hj h3 h4) hdg (by rw [zv_clamp hj h3]; exact kk)
  · exact va_bald hx hb hK hR.2.1 (r - 1) 2 (by rw [zv_ws_at hp h1, zv_el_4 h2]) rfl (zv_in hj h3 h4) hdg (by rw [zv_clamp hj h3]; exact kk)
theorem zv_lald_ok (hx : p.tables.exec = Jvm.exec) (hb : c.code = cc) (hK : va_K D vwCl (zv_tys g) s) {h : zv_H} (hR : zv_RH D g ba ak h H) {r : Nat} {j : Int} (hj : zv_rg j) (ho : r ≤ zv_n h ∧ (zv_lay r).1 = 5 ∧ 0 ≤ j ∧ j < (zv_lay r).2) (hdg : decode cc pc = .ok (.laload, 1))
    (kk : W p l e R s m args below meth c H locs cells slots Q (F0 m (pc + 1) lsR (.long (zv_J h r j.toNat) :: rest))) : W p l e R s m args below meth c H locs cells slots Q (F0 m pc lsR (.int (Int32.ofInt j) :: va_rf (zv_ad ba ak r) :: rest)) := by
  obtain ⟨h1, h2, h3, h4⟩ := ho
  have hp := zv_lay_pos' (r := r) (by omega)
  rw [zv_ad_in hp h1 hR.2.2.2]
  exact va_lald hx hb hK hR.2.1 (r - 1) 3 (by rw [zv_ws_at hp h1, zv_el_5 h2]) rfl (zv_in hj h3 h4) hdg (by rw [zv_clamp hj h3]; exact kk)
theorem zv_aald_ok (hx : p.tables.exec = Jvm.exec) (hb : c.code = cc) (hK : va_K D vwCl (zv_tys g) s) {h : zv_H} (hR : zv_RH D g ba ak h H) {r : Nat} {j : Int} (hj : zv_rg j) (ho : r ≤ zv_n h ∧ (zv_lay r).1 = 6 ∧ 0 ≤ j ∧ j < (zv_lay r).2) (hdg : decode cc pc = .ok (.aaload, 1))
    (kk : W p l e R s m args below meth c H locs cells slots Q (F0 m (pc + 1) lsR (va_rf (zv_ad ba ak (zv_R h r j.toNat)) :: rest))) : W p l e R s m args below meth c H locs cells slots Q (F0 m pc lsR (.int (Int32.ofInt j) :: va_rf (zv_ad ba ak r) :: rest)) := by
  obtain ⟨h1, h2, h3, h4⟩ := ho
  have hp := zv_lay_pos' (r := r) (by omega)
  rw [zv_ad_in hp h1 hR.2.2.2]
  exact va_aldq hx hb hK hR.2.1 (r - 1) 4 (C := "BranchedText$State") (by rw [zv_ws_at hp h1, zv_el_6 h2]) rfl (zv_in hj h3 h4) hdg (by rw [zv_clamp hj h3]; exact kk)
/-- an array's place is written -/
theorem zv_ast_back {h h' : zv_H} {r : Nat} {x : vp_A} {cA : ClassId} (hR : zv_RH D g ba ak h H) (hS : va_S (zv_Ac ba) s.heap H locs) (hsc : s.heap.size + cells = ba + zv_n h + 1) (hp : 1 ≤ r) (hn' : zv_n h' = zv_n h) (hg' : zv_hg h') (hel : zv_el g ba ak h' r = .inl (cA, x)) (hne : ∀ q, ¬ q = r → zv_el g ba ak h' q = zv_el g ba ak h q)
    (kk : ∀ H1 locs1, zv_RH D g ba ak h' H1 → va_S (zv_Ac ba) s.heap H1 locs1 → W p l e R s m args below meth c H1 locs1 cells slots Q (F0 m (pc + 1) lsR rest)) :
    ∀ (H1 : Heap) (locs1 : List Loc), va_P D vwCl ((zv_ws g ba ak h).set (r - 1) (ba + r, .inl (cA, x))) H1 → va_D (zv_Ac ba) ((zv_ws g ba ak h).set (r - 1) (ba + r, .inl (cA, x))) → va_S (zv_Ac ba) H H1 locs1 → W p l e R s m args below meth c H1 locs1 cells slots Q (F0 m (pc + 1) lsR rest) := by
  intro H1 locs1 q1 q2 q3
  rw [← hel, zv_ws_set hp hn' hne] at q1
  exact zv_back hR hS hsc hn' hg' (kk H1 locs1) q1 q3
theorem zv_iast_ok (hx : p.tables.exec = Jvm.exec) (hb : c.code = cc) (hK : va_K D vwCl (zv_tys g) s) {h : zv_H} (hR : zv_RH D g ba ak h H) (hS : va_S (zv_Ac ba) s.heap H locs) (hsc : s.heap.size + cells = ba + zv_n h + 1) {r : Nat} {j v : Int} (hj : zv_rg j) (hv : zv_rg v) (ho : r ≤ zv_n h ∧ (zv_lay r).1 = 2 ∧ 0 ≤ j ∧ j < (zv_lay r).2) (hdg : decode cc pc = .ok (.iastore, 1))
    (kk : ∀ H1 locs1, zv_RH D g ba ak (zv_sI h r j.toNat v) H1 → va_S (zv_Ac ba) s.heap H1 locs1 → W p l e R s m args below meth c H1 locs1 cells slots Q (F0 m (pc + 1) lsR rest)) : W p l e R s m args below meth c H locs cells slots Q (F0 m pc lsR (.int (Int32.ofInt v) :: .int (Int32.ofInt j) :: va_rf (zv_ad ba ak r) :: rest)) := by
  obtain ⟨h1, h2, h3, h4⟩ := ho
  have hp := zv_lay_pos' (r := r) (by omega)
  rw [zv_ad_in hp h1 hR.2.2.2]
  refine va_iast hx hb hK hR.2.1 (zv_ws_D g ba ak h) (zv_Srf hS) (r - 1) 0 (by rw [zv_ws_at hp h1, zv_el_2 h2]) rfl (zv_in hj h3 h4) hdg ?_
  refine zv_ast_back (h' := zv_sI h r j.toNat v) hR hS hsc hp rfl (zv_hg_sI hR.2.2.1 hv) ?_ (fun q hq => zv_el_sI hq) kk
  rw [zv_el_2 h2, zv_clamp hj h3]
  congr 3
  congr 1
  funext k
  unfold upd
  rw [zv_I_sI]
  by_cases hk : k = j.toNat
  · rw [if_pos hk, if_pos ⟨rfl, hk⟩]
  · rw [if_neg hk, if_neg (fun z => hk z.2)]
theorem zv_bast_ok (hx : p.tables.exec = Jvm.exec) (hb : c.code = cc) (hK : va_K D vwCl (zv_tys g) s) {h : zv_H} (hR : zv_RH D g ba ak h H) (hS : va_S (zv_Ac ba) s.heap H locs) (hsc : s.heap.size + cells = ba + zv_n h + 1) {r : Nat} {j v : Int} (hj : zv_rg j) (ho : r ≤ zv_n h ∧ ((zv_lay r).1 = 3 ∨ (zv_lay r).1 = 4) ∧ 0 ≤ j ∧ j < (zv_lay r).2) (hdg : decode cc pc = .ok (.bastore, 1))
    (kk : ∀ H1 locs1, zv_RH D g ba ak (zv_sI h r j.toNat (if (zv_lay r).1 = 3 then zv_nz v else zv_i2b v)) H1 → va_S (zv_Ac ba) s.heap H1 locs1 → W p l e R s m args below meth c H1 locs1 cells slots Q (F0 m (pc + 1) lsR rest)) : W p l e R s m args below meth c H locs cells slots Q (F0 m pc lsR (.int (Int32.ofInt v) :: .int (Int32.ofInt j) :: va_rf (zv_ad ba ak r) :: rest)) := by
  obtain ⟨h1, h2, h3, h4⟩ := ho
  have hp := zv_lay_pos' (r := r) (by omega)
  rw [zv_ad_in hp h1 hR.2.2.2]
  rcases h2 with h2 | h2
  · rw [if_pos h2] at kk
    refine va_zast hx hb hK hR.2.1 (zv_ws_D g ba ak h) (zv_Srf hS) (r - 1) 1 (by rw [zv_ws_at hp h1, zv_el_3 h2]) rfl (zv_in hj h3 h4) hdg ?_
    refine zv_ast_back (h' := zv_sI h r j.toNat (zv_nz v)) hR hS hsc hp rfl (zv_hg_sI hR.2.2.1 (zv_rg_nz v)) ?_ (fun q hq => zv_el_sI hq) kk
    rw [zv_el_3 h2, zv_clamp hj h3, zv_nar_z]
    congr 3
    congr 1
    funext k
    unfold upd
    rw [zv_I_sI]
    by_cases hk : k = j.toNat
    · rw [if_pos hk, if_pos ⟨rfl, hk⟩]
    · rw [if_neg hk, if_neg (fun z => hk z.2)]
  · rw [if_neg (by omega)] at kk
    refine va_bast hx hb hK hR.2.1 (zv_ws_D g ba ak h) (zv_Srf hS) (r - 1) 2 (by rw [zv_ws_at hp h1, zv_el_4 h2]) rfl (zv_in hj h3 h4) hdg ?_
    refine zv_ast_back (h' := zv_sI h r j.toNat (zv_i2b v)) hR hS hsc hp rfl (zv_hg_sI hR.2.2.1 (zv_rg_i2b v)) ?_ (fun q hq => zv_el_sI hq) kk
    rw [zv_el_4 h2, zv_clamp hj h3, zv_nar_b]
    congr 3
    congr 1
    funext k
    unfold upd
    rw [zv_I_sI]
    by_cases hk : k = j.toNat
    · rw [if_pos hk, if_pos ⟨rfl, hk⟩]
    · rw [if_neg hk, if_neg (fun z => hk z.2)]
theorem zv_last_ok (hx : p.tables.exec = Jvm.exec) (hb : c.code = cc) (hK : va_K D vwCl (zv_tys g) s) {h : zv_H} (hR : zv_RH D g ba ak h H) (hS : va_S (zv_Ac ba) s.heap H locs) (hsc : s.heap.size + cells = ba + zv_n h + 1) {r : Nat} {j : Int} {v : Int64} (hj : zv_rg j) (ho : r ≤ zv_n h ∧ (zv_lay r).1 = 5 ∧ 0 ≤ j ∧ j < (zv_lay r).2) (hdg : decode cc pc = .ok (.lastore, 1))
    (kk : ∀ H1 locs1, zv_RH D g ba ak (zv_sJ h r j.toNat v) H1 → va_S (zv_Ac ba) s.heap H1 locs1 → W p l e R s m args below meth c H1 locs1 cells slots Q (F0 m (pc + 1) lsR rest)) : W p l e R s m args below meth c H locs cells slots Q (F0 m pc lsR (.long v :: .int (Int32.ofInt j) :: va_rf (zv_ad ba ak r) :: rest)) := by
  obtain ⟨h1, h2, h3, h4⟩ := ho
  have hp := zv_lay_pos' (r := r) (by omega)
  rw [zv_ad_in hp h1 hR.2.2.2]
  refine va_last hx hb hK hR.2.1 (zv_ws_D g ba ak h) (zv_Srf hS) (r - 1) 3 (by rw [zv_ws_at hp h1, zv_el_5 h2]) rfl (zv_in hj h3 h4) hdg ?_
  refine zv_ast_back (h' := zv_sJ h r j.toNat v) hR hS hsc hp rfl hR.2.2.1 ?_ (fun q hq => zv_el_sJ hq) kk
  rw [zv_el_5 h2, zv_clamp hj h3]
  congr 4
  congr 1
  funext k
  unfold vp_updL
  rw [zv_J_sJ]
  by_cases hk : k = j.toNat
  · rw [if_pos hk, if_pos ⟨rfl, hk⟩]
  · rw [if_neg hk, if_neg (fun z => hk z.2)]
theorem zv_aast_ok (hx : p.tables.exec = Jvm.exec) (hb : c.code = cc) (hK : va_K D vwCl (zv_tys g) s) {h : zv_H} (hR : zv_RH D g ba ak h H) (hS : va_S (zv_Ac ba) s.heap H locs) (hsc : s.heap.size + cells = ba + zv_n h + 1) {r : Nat} {j : Int} {v : Nat} (hj : zv_rg j) (ho : (r ≤ zv_n h ∧ (zv_lay r).1 = 6 ∧ 0 ≤ j ∧ j < (zv_lay r).2) ∧ (v = 0 ∨ v ≤ zv_n h ∧ zv_lay v = (1, 5))) (hdg : decode cc pc = .ok (.aastore, 1))
    (kk : ∀ H1 locs1, zv_RH D g ba ak (zv_sR h r j.toNat v) H1 → va_S (zv_Ac ba) s.heap H1 locs1 → W p l e R s m args below meth c H1 locs1 cells slots Q (F0 m (pc + 1) lsR rest)) : W p l e R s m args below meth c H locs cells slots Q (F0 m pc lsR (va_rf (zv_ad ba ak v) :: .int (Int32.ofInt j) :: va_rf (zv_ad ba ak r) :: rest)) := by
  obtain ⟨⟨h1, h2, h3, h4⟩, hv⟩ := ho
  have hp := zv_lay_pos' (r := r) (by omega)
  rw [zv_ad_in hp h1 hR.2.2.2]
  have key : ∀ o, zv_ad ba ak v = o → zv_el g ba ak (zv_sR h r j.toNat v) r = .inl (g 6, (zv_lay r).2, .inr (.inr (.inr (.inr (va_up (fun k => zv_ad ba ak (zv_R h r k)) j.toNat o))))) := by
    intro o e
    rw [zv_el_6 h2]
    congr 5
    congr 2
    funext k
    unfold va_up
    rw [zv_R_sR]
    by_cases hk : k = j.toNat
    · rw [if_pos hk, if_pos ⟨rfl, hk⟩, e]
    · rw [if_neg hk, if_neg (fun z => hk z.2)]
  rcases hv with hv | ⟨hv1, hv2⟩
  · have e0 : zv_ad ba ak v = none := by
      unfold zv_ad
      rw [if_pos hv]
    rw [e0]
    refine va_astqN hx hb hK hR.2.1 (zv_ws_D g ba ak h) (zv_Srf hS) (r - 1) 4 (C := "BranchedText$State") (by rw [zv_ws_at hp h1, zv_el_6 h2]) rfl (zv_in hj h3 h4) hdg ?_
    rw [zv_clamp hj h3]
    exact zv_ast_back (h' := zv_sR h r j.toNat v) hR hS hsc hp rfl hR.2.2.1 (key none e0) (fun q hq => zv_el_sR hq) kk
  · have hq := zv_lay_pos hv2
    have e0 : zv_ad ba ak v = some (ba + v) := by
      unfold zv_ad
      have := hR.2.2.2
      rw [if_neg (by omega), if_pos (by omega)]
    rw [e0]
    refine va_astq hx hb hK hR.2.1 (zv_ws_D g ba ak h) (zv_Srf hS) (r - 1) 4 (v - 1) 5 (r := (RX5, TX5, 18)) (by rw [zv_ws_at hp h1, zv_el_6 h2]) rfl (by rw [zv_ws_at hq hv1, zv_el_obj hv2]) rfl (zv_in hj h3 h4) hdg ?_
    rw [zv_clamp hj h3]
    exact zv_ast_back (h' := zv_sR h r j.toNat v) hR hS hsc hp rfl hR.2.2.1 (key _ e0) (fun q hq => zv_el_sR hq) kk
end ZARR
end
section
/-! new cells; copies; the script -/
theorem zv_n_mk (h : zv_H) (w : Nat) : zv_n (zv_mk h w) = zv_n h + 1 := rfl
theorem zv_s_mk (h : zv_H) (w : Nat) : zv_s (zv_mk h w) = zv_s h + w := rfl
theorem zv_I_mk (h : zv_H) (w a b : Nat) : zv_I (zv_mk h w) a b = if a = zv_n h + 1 then 0 else zv_I h a b := rfl
theorem zv_J_mk (h : zv_H) (w a b : Nat) : zv_J (zv_mk h w) a b = if a = zv_n h + 1 then 0 else zv_J h a b := rfl
theorem zv_R_mk (h : zv_H) (w a b : Nat) : zv_R (zv_mk h w) a b = if a = zv_n h + 1 then 0 else zv_R h a b := rfl
theorem zv_el_mk {g : Nat → ClassId} {ba : Nat} {ak : Nat → Nat} {h : zv_H} {w q : Nat} (hq : q ≤ zv_n h) : zv_el g ba ak (zv_mk h w) q = zv_el g ba ak h q :=
  zv_el_congr (fun j => by rw [zv_I_mk, if_neg (by omega)]) (fun j => by rw [zv_J_mk, if_neg (by omega)]) (fun j => by rw [zv_R_mk, if_neg (by omega)])
theorem zv_hg_mk {h : zv_H} {w : Nat} (hh : zv_hg h) : zv_hg (zv_mk h w) := by
  intro a b
  rw [zv_I_mk]
  split
  · exact zv_rg0
  · exact hh a b
section ZNEW
variable {p : Program} {l : Launch} {e : Env} {R : Room} {s : State} {m : MethodId} {args : Array Value} {below : List Frame} {meth : Method} {c : Code} {H : Heap} {locs : List Loc} {cells slots : Nat} {Q : State → Prop}
variable {cc : ByteArray} {pc : Nat} {ba : Nat} {ak : Nat → Nat} {D : va_G} {g : Nat → ClassId} {lsR : Array Slot} {rest : List Value} {own : String}
/-- the cell that was made lies where the next number says -/
theorem zv_fresh {h h' : zv_H} {x : va_E} {q : Nat} {H1 : Heap} {len : Nat} {sl : Nat} (hR : zv_RH D g ba ak h H) (hS : va_S (zv_Ac ba) s.heap H locs) (hsc : s.heap.size + cells = ba + zv_n h + 1) (hn' : zv_n h' = zv_n h + 1) (hg' : zv_hg h') (hlay : ¬ (zv_lay (zv_n h + 1)).1 = 0) (hel : zv_el g ba ak h' (zv_n h + 1) = x) (hne : ∀ q, q ≤ zv_n h → zv_el g ba ak h' q = zv_el g ba ak h q)
    (q1 : va_P D vwCl (zv_ws g ba ak h ++ [(q, x)]) H1) (q2 : va_D (zv_Ac ba) (zv_ws g ba ak h ++ [(q, x)])) (q3 : va_S (zv_Ac ba) H H1 locs)
    (kk : zv_RH D g ba ak h' H1 → va_S (zv_Ac ba) s.heap H1 locs → W p l e R s m args below meth c H1 locs (cells + 1) sl Q (F0 m (pc + len) lsR (va_rf (zv_ad ba ak (zv_n h + 1)) :: rest))) : W p l e R s m args below meth c H1 locs (cells + 1) sl Q (F0 m (pc + len) lsR (.ref q :: rest)) := by
  refine zv_Wsz fun hz => ?_
  have hlen : (zv_ws g ba ak h).length = zv_n h := by unfold zv_ws; simp
  have hlast : (zv_ws g ba ak h ++ [(q, x)])[zv_n h]? = some (q, x) := by
    rw [List.getElem?_append_right (by omega), hlen, Nat.sub_self]
    rfl
  have hlt := (q1 _ _ hlast).lt
  have hgt := q2.2 _ _ hlast
  have h1 := hR.1
  have h3 := q3.1
  have hq : q = ba + (zv_n h + 1) := by
    dsimp only at hlt hgt
    unfold zv_Ac at hgt
    by_cases hc : q ≤ ba + zv_n h
    · exfalso
      have hk : (zv_ws g ba ak h ++ [(q, x)])[q - ba - 1]? = some (ba + (q - ba), zv_el g ba ak h (q - ba)) := by
        rw [List.getElem?_append_left (by omega)]
        exact zv_ws_at (by omega) (by omega)
      have := q2.1 _ _ _ _ hk hlast (by dsimp only; omega)
      omega
    · omega
  subst hq
  have hws : zv_ws g ba ak h' = zv_ws g ba ak h ++ [(ba + (zv_n h + 1), x)] := by rw [zv_ws_push hn' hne, hel]
  rw [← hws] at q1
  have hl := zv_lay_lt hlay
  rw [show (Value.ref (ba + (zv_n h + 1))) = va_rf (zv_ad ba ak (zv_n h + 1)) from (zv_ad_in (n := zv_n h + 1) (by omega) (Nat.le_refl _) (by omega)).symm]
  exact kk ⟨by rw [hn']; dsimp only at hlt; omega, q1, hg', by omega⟩ (zv_Str hS q3)
theorem zv_new_ok (hx : p.tables.exec = Jvm.exec) (hb : c.code = cc) (hts : ∀ w ∈ zv_tb, w.before args s = true) (hown : s.vm.findClass own = some m.cls) (hK : va_K D vwCl (zv_tys g) s) {h : zv_H} (hR : zv_RH D g ba ak h H) (hS : va_S (zv_Ac ba) s.heap H locs) (hsc : s.heap.size + cells = ba + zv_n h + 1)
    {ci ix : Nat} {C : String} {T : u_T} {N : Nat} {ty : Nat → FieldType} (hCF : zv_CF ci C T N ty) (w1 : Cond.classLink own ix C ∈ zv_tb) (w2 : Cond.instantiable C N ∈ zv_tb) (w3 : Cond.initialized C ∈ zv_tb) (hlay : zv_lay (zv_n h + 1) = (1, ci)) (hc1 : cells + 1 ≤ R.cells) (hc2 : slots + zv_nf ci ≤ R.slots) (hdg : decode cc pc = .ok (.new ix, 3))
    (kk : ∀ H1, zv_RH D g ba ak (zv_mk h (zv_nf ci)) H1 → va_S (zv_Ac ba) s.heap H1 locs → W p l e R s m args below meth c H1 locs (cells + 1) (slots + zv_nf ci) Q (F0 m (pc + 3) lsR (va_rf (zv_ad ba ak (zv_n h + 1)) :: rest))) : W p l e R s m args below meth c H locs cells slots Q (F0 m pc lsR rest) := by
  obtain ⟨h1, h2, h3, h4, h5, h6, h7⟩ := hCF
  rw [← h2] at hc2 kk
  have hsz := hR.1
  refine va_new (fs := zv_fs ba ak (zv_mk h N) (zv_n h + 1) ci) hx hb hts h3 ty h4 hown (hts _ w1) (hts _ w2) (hts _ w3) hK hR.2.1 (zv_ws_D g ba ak h) (zv_Srf hS) (fun q hq => by unfold zv_Ac; omega) h1 (fun j hj => ?_) hc1 hc2 hdg (fun q H1 q1 q2 q3 => ?_)
  · have hat := zv_fs_at (ba := ba) (ak := ak) (h := zv_mk h N) (r := zv_n h + 1) (ci := ci) (k := j) (h2 ▸ hj)
    unfold vp_V
    rw [List.getD_eq_getElem?_getD, hat]
    have hk := h7 j hj
    show defaultValue (ty j) = zv_fv ba ak (zv_mk h N) (zv_n h + 1) ci j
    unfold zv_fv
    rw [zv_I_mk, zv_J_mk, zv_R_mk, if_pos rfl, if_pos rfl, if_pos rfl]
    unfold zv_tyk at hk
    split at hk
    · rename_i z; rw [z, hk]; rfl
    · rename_i z; rw [z, hk]; rfl
    · rename_i z; rw [z, hk]; rfl
    · rename_i z
      rw [z]
      rcases hk with ⟨y, hk⟩ | ⟨y, hk⟩ <;> rw [hk] <;> rfl
    · exact hk.elim
  · exact zv_fresh (h' := zv_mk h N) hR hS hsc rfl (zv_hg_mk hR.2.2.1) (by rw [hlay]; exact Nat.one_ne_zero) (zv_el_obj hlay) (fun q hq => zv_el_mk hq) q1 q2 q3 (kk H1)
/-- an array of numbers -/
theorem zv_newa_ok (hx : p.tables.exec = Jvm.exec) (hb : c.code = cc) {at' : ArrayType} {ty : FieldType} (hat : newarray.typeOf at' = ty) (harr : (Cond.arrayClass (newarray.typeOf at')).before args s = true) (hK : va_K D vwCl (zv_tys g) s) {h : zv_H} (hR : zv_RH D g ba ak h H) (hS : va_S (zv_Ac ba) s.heap H locs) (hsc : s.heap.size + cells = ba + zv_n h + 1)
    {kd : Nat} {x : Int} {a0 : vp_A} (hx0 : 0 ≤ x ∧ x ≤ 60000) (hlay : zv_lay (zv_n h + 1) = (kd, x.toNat)) (hkd : ¬ kd = 0) {t0 : Nat} {cA : ClassId} (ht : (zv_tys g)[t0]? = some (cA, ty)) (hnm : ∀ C, ¬ ty = .object C) (hel : zv_el g ba ak (zv_mk h x.toNat) (zv_n h + 1) = .inl (cA, a0)) (ha : ∀ cA : ClassId, vp_cell cA a0 = arrV cA x.toNat (fun _ => defaultValue ty)) (hbyt : componentBytes ty ≤ 8) (hc1 : cells + 1 ≤ R.cells) (hc2 : slots + x.toNat ≤ R.slots) (hdg : decode cc pc = .ok (.newarray at', 2))
    (kk : ∀ H1, zv_RH D g ba ak (zv_mk h x.toNat) H1 → va_S (zv_Ac ba) s.heap H1 locs → W p l e R s m args below meth c H1 locs (cells + 1) (slots + x.toNat) Q (F0 m (pc + 2) lsR (va_rf (zv_ad ba ak (zv_n h + 1)) :: rest))) : W p l e R s m args below meth c H locs cells slots Q (F0 m pc lsR (.int (Int32.ofInt x) :: rest)) := by
  have hrx : zv_rg x := by unfold zv_rg; omega
  have hsz := hR.1
  refine va_newa hx hb harr hat hK hR.2.1 (zv_ws_D g ba ak h) (zv_Srf hS) (fun q hq => by unfold zv_Ac; omega) ha (fun z => by have := (zv_lt0 hrx).mp z; omega) (zv_clamp hrx hx0.1) (Nat.le_trans (Nat.mul_le_mul (show x.toNat ≤ 60000 by omega) hbyt) (Nat.le_of_ble_eq_true rfl)) hc1 hc2 hdg (fun q cB H1 hK1 q1 q2 q3 => ?_)
  have hcc : cB = cA := by
    have e1 := (hK.2 t0 _ ht).2
    have e2 := (hK1.2 5 (cB, ty) rfl).2
    unfold va_RA at e1 e2
    cases ty with
    | object C => exact absurd rfl (hnm C)
    | _ => exact Option.some.inj (e2.symm.trans e1)
  subst hcc
  exact zv_fresh (h' := zv_mk h x.toNat) hR hS hsc rfl (zv_hg_mk hR.2.2.1) (by rw [hlay]; exact hkd) hel (fun q hq => zv_el_mk hq) q1 q2 q3 (kk H1)
theorem zv_newq_ok (hx : p.tables.exec = Jvm.exec) (hb : c.code = cc) (hown : s.vm.findClass own = some m.cls) (hover : va_AO "BranchedText$State" s) (hK : va_K D vwCl (zv_tys g) s) {h : zv_H} (hR : zv_RH D g ba ak h H) (hS : va_S (zv_Ac ba) s.heap H locs) (hsc : s.heap.size + cells = ba + zv_n h + 1)
    {ix : Nat} {x : Int} (hx0 : 0 ≤ x ∧ x ≤ 60000) (w1 : (Cond.classLink own ix "BranchedText$State").before args s = true) (hlay : zv_lay (zv_n h + 1) = (6, x.toNat)) (hc1 : cells + 1 ≤ R.cells) (hc2 : slots + x.toNat ≤ R.slots) (hdg : decode cc pc = .ok (.anewarray ix, 3))
    (kk : ∀ H1, zv_RH D g ba ak (zv_mk h x.toNat) H1 → va_S (zv_Ac ba) s.heap H1 locs → W p l e R s m args below meth c H1 locs (cells + 1) (slots + x.toNat) Q (F0 m (pc + 3) lsR (va_rf (zv_ad ba ak (zv_n h + 1)) :: rest))) : W p l e R s m args below meth c H locs cells slots Q (F0 m pc lsR (.int (Int32.ofInt x) :: rest)) := by
  have hrx : zv_rg x := by unfold zv_rg; omega
  have hsz := hR.1
  refine va_newq hx hb hown w1 hover hK hR.2.1 (zv_ws_D g ba ak h) (zv_Srf hS) (fun q hq => by unfold zv_Ac; omega) (fun z => by have := (zv_lt0 hrx).mp z; omega) (zv_clamp hrx hx0.1) (by omega) hc1 hc2 hdg (fun q cB H1 hK1 q1 q2 q3 => ?_)
  have hcc : cB = g 6 := by
    obtain ⟨_, _, -, -, -, e1⟩ := (hK.2 4 (g 6, .object "BranchedText$State") rfl).2
    obtain ⟨_, _, -, -, -, e2⟩ := (hK1.2 5 (cB, .object "BranchedText$State") rfl).2
    exact Option.some.inj (e2.symm.trans e1)
  subst hcc
  refine zv_fresh (h' := zv_mk h x.toNat) hR hS hsc rfl (zv_hg_mk hR.2.2.1) (by rw [hlay]; exact Nat.succ_ne_zero 5) ?_ (fun q hq => zv_el_mk hq) q1 q2 q3 (kk H1)
  rw [zv_el_6 (by rw [hlay]), hlay]
  congr 5
  congr 2
  funext j
  rw [zv_R_mk, if_pos rfl]
  rfl
/-- a copy within arrays of ints -/
theorem zv_cy_ok (hx : p.tables.exec = Jvm.exec) (hb : c.code = cc) (hml : c.maxLocals = lsR.size) (hown : s.vm.findClass own = some m.cls) {ix : Nat} (w1 : (Cond.methodLink own ix arraycopyName).before args s = true) (w2 : (Cond.native arraycopyName).before args s = true) (w3 : (Cond.static arraycopyName).before args s = true) (w4 : (Cond.initialized "java/lang/System").before args s = true)
    (hK : va_K D vwCl (zv_tys g) s) {h h' : zv_H} (hR : zv_RH D g ba ak h H) (hS : va_S (zv_Ac ba) s.heap H locs) (hsc : s.heap.size + cells = ba + zv_n h + 1) {sr d : Nat} {sp dp n : Int} (hsp : zv_rg sp) (hdp : zv_rg dp) (hnr : zv_rg n) (ho : zv_cy h sr sp d dp n = some h') (hf : 1 ≤ R.frames) (hlo : (rest.map fun v => v.category).sum + (nativeFrameWords "java/lang/System" "arraycopy" 5 + 11) ≤ R.locals) (hdg : decode cc pc = .ok (.invokestatic ix, 3))
    (kk : ∀ H1 locs1, zv_RH D g ba ak h' H1 → va_S (zv_Ac ba) s.heap H1 locs1 → W p l e R s m args below meth c H1 locs1 cells slots Q (F0 m (pc + 3) lsR rest)) : W p l e R s m args below meth c H locs cells slots Q (F0 m pc lsR (.int (Int32.ofInt n) :: .int (Int32.ofInt dp) :: va_rf (zv_ad ba ak d) :: .int (Int32.ofInt sp) :: va_rf (zv_ad ba ak sr) :: rest)) := by
  unfold zv_cy at ho
  split at ho
  · rename_i q
    obtain ⟨⟨a1, a2, a3, a4⟩, ⟨b1, b2, b3⟩, c1, c2, c3⟩ := q
    cases ho
    have hp1 := zv_lay_pos' (r := sr) (by omega)
    have hp2 := zv_lay_pos' (r := d) (by omega)
    rw [zv_ad_in hp1 a1 hR.2.2.2, zv_ad_in hp2 a2 hR.2.2.2]
    have hcp : ∀ a b, zv_I (zv_cp h sr sp.toNat d dp.toNat n.toNat) a b = if a = d ∧ dp.toNat ≤ b ∧ b < dp.toNat + n.toNat then zv_I h sr (sp.toNat + (b - dp.toNat)) else zv_I h a b := fun _ _ => rfl
    refine va_copyi (ty := .int) hx hb hml hown w1 w2 w3 w4 hK hR.2.1 (zv_ws_D g ba ak h) (zv_Srf hS) (sr - 1) (d - 1) 0 0 (by rw [zv_ws_at hp1 a1, zv_el_2 a3]) (by rw [zv_ws_at hp2 a2, zv_el_2 a4]) rfl rfl rfl (fun z => by have := (zv_lt0 hsp).mp z; omega) (fun z => by have := (zv_lt0 hdp).mp z; omega) (fun z => by have := (zv_lt0 hnr).mp z; omega) (by rw [zv_clamp hsp b1, zv_clamp hnr b3]; omega) (by rw [zv_clamp hdp b2, zv_clamp hnr b3]; omega) (fun _ _ => rfl) hf hlo hdg ?_
    rw [zv_clamp hsp b1, zv_clamp hdp b2, zv_clamp hnr b3]
    intro H1 locs1 q1 q2 q3
    have hel : zv_el g ba ak (zv_cp h sr sp.toNat d dp.toNat n.toNat) d = .inl (g 2, (zv_lay d).2, .inl (va_cpy (fun j => Int32.ofInt (zv_I h sr j)) (fun j => Int32.ofInt (zv_I h d j)) sp.toNat dp.toNat n.toNat)) := by
      rw [zv_el_2 a4]
      congr 3
      congr 1
      funext k
      unfold va_cpy
      rw [hcp]
      by_cases hk : dp.toNat ≤ k ∧ k < dp.toNat + n.toNat
      · rw [if_pos ⟨rfl, hk⟩, if_pos hk]
      · rw [if_neg (fun z => hk z.2), if_neg hk]
    rw [← hel, zv_ws_set (h := h) (h' := zv_cp h sr sp.toNat d dp.toNat n.toNat) hp2 rfl (fun q hq => zv_el_congr (fun j => by rw [hcp, if_neg (fun z => hq z.1)]) (fun _ => rfl) (fun _ => rfl))] at q1
    exact zv_back (h' := zv_cp h sr sp.toNat d dp.toNat n.toNat) hR hS hsc rfl (fun a b => by rw [hcp]; split <;> exact hR.2.2.1 _ _) (kk H1 locs1) q1 q3
  · cases ho
/-- the script -/
def zv_SC (ba : Nat) (ak : Nat → Nat) (s : State) (h : zv_H) : Prop := ∃ xs : Nat → Int32, va_X (ak 2000000) (zv_L h) xs s s.heap ∧ ak 2000000 ≤ ba ∧ zv_L h < 2147483648 ∧ ∀ k, k < zv_L h → zv_X h k = (xs k).toInt
theorem zv_SC.lt {h : zv_H} (hC : zv_SC ba ak s h) : ak 2000000 < s.heap.size := by
  obtain ⟨xs, ⟨scr, h1, -⟩, -⟩ := hC
  exact (Array.getElem?_eq_some_iff.mp h1).1
theorem zv_ad_s (ba : Nat) (ak : Nat → Nat) : va_rf (zv_ad ba ak 2000000) = .ref (ak 2000000) := by
  unfold zv_ad
  rw [if_neg (by omega), if_neg (by omega)]
  rfl
theorem zv_sld_ok (hx : p.tables.exec = Jvm.exec) (hb : c.code = cc) {h : zv_H} (hC : zv_SC ba ak s h) (hS : va_S (zv_Ac ba) s.heap H locs) {j : Int} (hj : zv_rg j) (ho : 0 ≤ j ∧ j < zv_L h) (hdg : decode cc pc = .ok (.iaload, 1))
    (kk : zv_rg (zv_X h j.toNat) → W p l e R s m args below meth c H locs cells slots Q (F0 m (pc + 1) lsR (.int (Int32.ofInt (zv_X h j.toNat)) :: rest))) : W p l e R s m args below meth c H locs cells slots Q (F0 m pc lsR (.int (Int32.ofInt j) :: va_rf (zv_ad ba ak 2000000) :: rest)) := by
  have hlt := hC.lt
  obtain ⟨xs, h1, h2, h3, h4⟩ := hC
  have h5 := h4 j.toNat (by omega)
  rw [h5] at kk
  rw [zv_ad_s]
  exact va_sld hx hb h1 hlt (by unfold zv_Ac; omega) hS (zv_in hj ho.1 ho.2) hdg (by rw [zv_clamp hj ho.1]; have := kk (zv_rg_toInt _); rwa [zv_ofto] at this)
theorem zv_slen_ok (hx : p.tables.exec = Jvm.exec) (hb : c.code = cc) {h : zv_H} (hC : zv_SC ba ak s h) (hS : va_S (zv_Ac ba) s.heap H locs) (hdg : decode cc pc = .ok (.arraylength, 1))
    (kk : W p l e R s m args below meth c H locs cells slots Q (F0 m (pc + 1) lsR (.int (Int32.ofInt (zv_L h)) :: rest))) : W p l e R s m args below meth c H locs cells slots Q (F0 m pc lsR (va_rf (zv_ad ba ak 2000000) :: rest)) := by
  have hlt := hC.lt
  obtain ⟨xs, h1, h2, h3, h4⟩ := hC
  rw [zv_ad_s]
  exact va_slen hx hb h1 hlt (by unfold zv_Ac; omega) hS hdg kk
theorem zv_alen_ok (hx : p.tables.exec = Jvm.exec) (hb : c.code = cc) (hK : va_K D vwCl (zv_tys g) s) {h : zv_H} (hR : zv_RH D g ba ak h H) {r : Nat} (ho : r ≤ zv_n h ∧ 2 ≤ (zv_lay r).1) (hlay : (zv_lay r).1 ≤ 6) (hdg : decode cc pc = .ok (.arraylength, 1))
    (kk : W p l e R s m args below meth c H locs cells slots Q (F0 m (pc + 1) lsR (.int (Int32.ofInt (zv_lay r).2) :: rest))) : W p l e R s m args below meth c H locs cells slots Q (F0 m pc lsR (va_rf (zv_ad ba ak r) :: rest)) := by
  obtain ⟨h1, h2⟩ := ho
  have hp := zv_lay_pos' (r := r) (by omega)
  rw [zv_ad_in hp h1 hR.2.2.2]
  have hv : Int32.ofNat (zv_lay r).2 = Int32.ofInt ((zv_lay r).2 : Int) := rfl
  rcases (show (zv_lay r).1 = 2 ∨ (zv_lay r).1 = 3 ∨ (zv_lay r).1 = 4 ∨ (zv_lay r).1 = 5 ∨ (zv_lay r).1 = 6 by omega) with q | q | q | q | q
  · exact va_alen hx hb hK hR.2.1 (r - 1) 0 (by rw [zv_ws_at hp h1, zv_el_2 q]) (ty := .int) rfl hv hdg kk
  · exact va_alen hx hb hK hR.2.1 (r - 1) 1 (by rw [zv_ws_at hp h1, zv_el_3 q]) (ty := .boolean) rfl hv hdg kk
  · exact va_alen hx hb hK hR.2.1 (r - 1) 2 (by rw [zv_ws_at hp h1, zv_el_4 q]) (ty := .byte) rfl hv hdg kk
  · exact va_alen hx hb hK hR.2.1 (r - 1) 3 (by rw [zv_ws_at hp h1, zv_el_5 q]) (ty := .long) rfl hv hdg kk
  · exact va_alen hx hb hK hR.2.1 (r - 1) 4 (by rw [zv_ws_at hp h1, zv_el_6 q]) (ty := .object "BranchedText$State") rfl hv hdg kk
end ZNEW
end
section
/-! what a method's table must say; what holds while it runs -/
def zv_sown (i : Nat) : String := if i < 23 then "BranchedText$Reader" else "BranchedTextModel"
def zv_six : List Nat := [80, 98, 133, 145, 147, 149, 150, 152, 154, 131, 123, 168, 170, 172, 174, 176, 178, 180, 182, 184, 186, 188, 190, 320]
def zv_stx : List String := ["start", "join", "not", "gap", "size", "kind", "same", "near", "long", "and", "or", "put", "cut", "wait", "undo", "redo", "go", "name", "withdraw", "restore", "carry", "merge", "prune", "<=>[];"]
def zv_sl : List Nat := zv_txt.map List.length
def zv_sb : List (List Int32) := zv_txt.map fun t => t.map Int32.ofInt
/-- the texts -/
def zv_SS (ba : Nat) (ak adV : Nat → Nat) (U : State) : Prop :=
  vk_S 24 zv_sl zv_sb (fun i => ak (1000000 + i)) (fun i => ak (1000100 + i)) (zv_Ac ba) U U.heap ∧ (∀ i, i < 24 → vk_R (zv_sown i) (zv_six.getD i 0) (zv_stx.getD i "") (ak (1000000 + i)) U) ∧ va_Z "java/lang/String" "COMPACT_STRINGS" "Z" (.int 1) (zv_Ac ba) U U.heap ∧ va_Zq "jdk/internal/util/Preconditions" "SIOOBE_FORMATTER" "Ljava/util/function/BiFunction;" (zv_Ac ba) U U.heap
/-- what holds of a state at a method's start, but for its cells -/
def zv_ST (D : va_G) (g : Nat → ClassId) (ba : Nat) (ak adV : Nat → Nat) (h : zv_H) (U : State) : Prop :=
  va_K D vwCl (zv_tys g) U ∧ zv_NF U ∧ zv_NM U ∧ va_AO "BranchedText$State" U ∧ zv_SS ba ak adV U ∧ zv_SC ba ak U h
/-- which method has a number -/
def zv_inf (id : Nat) : Option (MethodName × (ByteArray × (Nat × Option FieldType))) :=
  if 900 ≤ id then zv_jinf id else (zv_prog id).map fun q => q.2.1.2
def zv_sw (i : Instr) : Bool := match i with
  | .tableswitch _ _ _ _ => true
  | .lookupswitch _ _ => true
  | _ => false
def zv_isI (id : Nat) : Bool := if 900 ≤ id then false else match zv_prog id with
  | some (some _, _) => true
  | _ => false
/-- a call's words -/
def zv_vC (own : String) (ix : Nat) (e : Nat × (Nat × (Nat × Nat))) (y : MethodName) (bytes : ByteArray) (maxL : Nat) (ret : Option FieldType) : Prop :=
  Cond.code y bytes maxL ret ∈ zv_tb ∧ Cond.initialized y.cls ∈ zv_tb ∧ (y.cls ≠ "java/lang/invoke/MethodHandle" ∧ y.cls ≠ "java/lang/invoke/VarHandle") ∧ maxL ≤ 40 ∧
  match e.2.1 with
  | 0 => zv_isI e.1 = true ∧ Cond.methodLink own ix y ∈ zv_tb ∧ Cond.instanceMethod y ∈ zv_tb ∧ Cond.selects y.cls y y ∈ zv_tb ∧ (parseMethodDescriptor y.desc).map (fun d => d.parameters.length + 1) = some e.2.2.1
  | 10 => zv_isI e.1 = true ∧ (∃ host, Cond.methodLinkNest own ix y host ∈ tables_1) ∧ Cond.instanceMethod y ∈ zv_tb ∧ Cond.selects y.cls y y ∈ zv_tb ∧ (parseMethodDescriptor y.desc).map (fun d => d.parameters.length + 1) = some e.2.2.1
  | 1 => zv_isI e.1 = true ∧ Cond.methodLink own ix y ∈ zv_tb ∧ Cond.instanceMethod y ∈ zv_tb ∧ y.name = "<init>" ∧ ret = none ∧ (parseMethodDescriptor y.desc).map (fun d => d.parameters.length + 1) = some e.2.2.1
  | 11 => zv_isI e.1 = true ∧ (∃ host, Cond.methodLinkNest own ix y host ∈ tables_1) ∧ Cond.instanceMethod y ∈ zv_tb ∧ y.name = "<init>" ∧ ret = none ∧ (parseMethodDescriptor y.desc).map (fun d => d.parameters.length + 1) = some e.2.2.1
  | 2 => Cond.methodLink own ix y ∈ zv_tb ∧ Cond.static y ∈ zv_tb ∧ (parseMethodDescriptor y.desc).map (fun d => d.parameters.length) = some e.2.2.1
  | 12 => (∃ host, Cond.methodLinkNest own ix y host ∈ tables_1) ∧ Cond.static y ∈ zv_tb ∧ (parseMethodDescriptor y.desc).map (fun d => d.parameters.length) = some e.2.2.1
  | _ => False
/-- what a method's table says is so -/
def zv_vM (M : zv_M) : Prop :=
  (∀ pc i, zv_lk M.2.1 pc = some i → ∃ len, decode M.1.2.2.1 pc = .ok (i, len) ∧ (len = zv_len i ∨ zv_sw i = true)) ∧
  (∀ ix f, zv_lk M.2.2.2.1 ix = some f → (zv_ft f.1 f.2.1 = 4 ∧ Cond.fieldLink M.1.1 ix "java/lang/String" "coder" "B" ∈ zv_tb) ∨ (zv_ft f.1 f.2.1 = 5 ∧ Cond.fieldLink M.1.1 ix "java/lang/String" "value" "[B" ∈ zv_tb) ∨ ∃ C T N ty, zv_CF f.1 C T N ty ∧ f.2.1 < N ∧ zv_lkf M.1.1 ix C (T f.2.1).2.1 (T f.2.1).2.2.1 ∧
    ∀ pc, zv_lk M.2.1 pc = some (.putfield ix) → (T f.2.1).2.2.2 = true → Cond.fieldLink M.1.1 ix C (T f.2.1).2.1 (T f.2.1).2.2.1 ∈ zv_tb ∧ M.1.2.1.name = "<init>" ∧ C = M.1.1) ∧
  (∀ ix e, zv_lk M.2.2.2.2.1 ix = some e → (e.2.1 = 20 ∧ Cond.methodLink M.1.1 ix Lib.objectInit ∈ zv_tb ∧ Cond.instanceMethod Lib.objectInit ∈ zv_tb ∧ Cond.code Lib.objectInit ⟨#[0xb1]⟩ 1 none ∈ zv_tb) ∨
    (e.2.1 = 21 ∧ Cond.methodLink M.1.1 ix arraycopyName ∈ zv_tb ∧ Cond.native arraycopyName ∈ zv_tb ∧ Cond.static arraycopyName ∈ zv_tb ∧ Cond.initialized "java/lang/System" ∈ zv_tb) ∨
    (e.2.1 = 22 ∧ Cond.methodLink M.1.1 ix Lib.Math.max.name ∈ zv_tb) ∨ (e.2.1 = 23 ∧ Cond.methodLink M.1.1 ix Lib.Math.min.name ∈ zv_tb) ∨
    ∃ y bytes maxL ret, zv_inf e.1 = some (y, (bytes, (maxL, ret))) ∧ zv_vC M.1.1 ix e y bytes maxL ret) ∧
  (∀ ix v, zv_lk M.2.2.2.2.2.2.1 ix = some v → Cond.constantLong M.1.1 ix v ∈ zv_tb) ∧
  (∀ ix k, zv_lk M.2.2.2.2.2.2.2.1 ix = some k → k < 24 ∧ zv_sown k = M.1.1 ∧ zv_six.getD k 0 = ix) ∧
  (∀ ix ci, zv_lk M.2.2.2.2.2.2.2.2 ix = some ci → ∃ C T N ty, zv_CF ci C T N ty ∧ Cond.classLink M.1.1 ix C ∈ zv_tb ∧ Cond.instantiable C N ∈ zv_tb ∧ Cond.initialized C ∈ zv_tb) ∧
  M.1.2.2.2.1 ≤ 40 ∧ (∀ ix v, zv_lk M.2.2.2.2.2.1 ix = some v → v = 1 ∧ Cond.fieldLink M.1.1 ix "java/lang/String" "COMPACT_STRINGS" "Z" ∈ zv_tb)
/-- cells are only made, the script stays -/
def zv_mo (h h' : zv_H) : Prop := zv_n h ≤ zv_n h' ∧ zv_s h ≤ zv_s h' ∧ h'.2.2.2.2 = h.2.2.2.2
theorem zv_mo.rf (h : zv_H) : zv_mo h h := ⟨Nat.le_refl _, Nat.le_refl _, rfl⟩
theorem zv_mo.tr {a b c : zv_H} (h1 : zv_mo a b) (h2 : zv_mo b c) : zv_mo a c := ⟨Nat.le_trans h1.1 h2.1, Nat.le_trans h1.2.1 h2.2.1, h2.2.2.trans h1.2.2⟩
def zv_vs (o : Option zv_V) : Prop := match o with
  | none => True
  | some v => zv_vg v
/-- a method's start and end -/
def zv_Pc (D : va_G) (g : Nat → ClassId) (ba : Nat) (ak adV : Nat → Nat) (as : List zv_V) (h : zv_H) : Array Value → State → Prop := fun v U => v = (as.map (zv_cv ba ak)).toArray ∧ (∀ v ∈ as, zv_vg v) ∧ zv_RH D g ba ak h U.heap ∧ zv_ST D g ba ak adV h U
def zv_Qc (D : va_G) (g : Nat → ClassId) (ba : Nat) (ak : Nat → Nat) (o : Option zv_V) (h1 : zv_H) : Array Value → State → Outcome → State → Prop := fun _ st oc t => oc = .returned (o.map (zv_cv ba ak)) ∧ zv_vs o ∧ zv_RH D g ba ak h1 t.heap ∧ va_F (zv_Ac ba) st t
def zv_rm (d : Nat) (h h1 : zv_H) : Room := { frames := d + 8, cells := zv_n h1 - zv_n h, slots := zv_s h1 - zv_s h, locals := 60 * (d + 8) }
/-- the receiver is there -/
def zv_rcv (h : zv_H) (as : List zv_V) (C : String) : Prop := ∃ r as', as = zv_r r :: as' ∧ ((∃ ci q, zv_ob h r ci ∧ vwCl[ci]? = some q ∧ q.1 = C) ∨ (1000000 ≤ r ∧ r < 1000024 ∧ C = "java/lang/String"))
/-- a call keeps its contract -/
def zv_cal (l : Launch) (D : va_G) (g : Nat → ClassId) (ba : Nat) (ak adV : Nat → Nat) (d id : Nat) (as : List zv_V) (h : zv_H) (o : Option zv_V) (h1 : zv_H) : Prop :=
  zv_mo h h1 ∧ (zv_isI id = true → ∀ y bytes maxL ret, zv_inf id = some (y, (bytes, (maxL, ret))) → zv_rcv h as y.cls) ∧
  ∀ y bytes maxL ret, zv_inf id = some (y, (bytes, (maxL, ret))) → Met l y (Cond.code y bytes maxL ret :: zv_tb) (zv_rm d h h1) (zv_Pc D g ba ak adV as h) (zv_Qc D g ba ak o h1) (zv_n h1 - zv_n h) (zv_s h1 - zv_s h) (zv_Ac ba)
theorem zv_wd_sum (ba : Nat) (ak : Nat → Nat) : ∀ l : List zv_V, ((l.map (zv_cv ba ak)).map fun v => v.category).sum = zv_wd l
  | [] => rfl
  | Sum.inl x :: t => by
    have := zv_wd_sum ba ak t
    rw [List.map_cons, List.map_cons, List.sum_cons, this]
    show 1 + zv_wd t = zv_wd t + 1
    omega
  | Sum.inr (Sum.inl x) :: t => by
    have := zv_wd_sum ba ak t
    rw [List.map_cons, List.map_cons, List.sum_cons, this]
    show 2 + zv_wd t = zv_wd t + 2
    omega
  | Sum.inr (Sum.inr x) :: t => by
    have h1 := zv_wd_sum ba ak t
    have h2 := zv_cat1 ba ak x
    rw [List.map_cons, List.map_cons, List.sum_cons, h1]
    show (va_rf (zv_ad ba ak x)).category + zv_wd t = zv_wd t + 1
    omega
theorem zv_tk_ok : ∀ (n : Nat) (acc st as rest : List zv_V), zv_tk n acc st = some (as, rest) → ∃ pre, st = pre ++ rest ∧ as = pre.reverse ++ acc ∧ pre.length = n
  | 0, acc, st, as, rest, h => by
    cases h
    exact ⟨[], rfl, rfl, rfl⟩
  | n + 1, acc, [], as, rest, h => by cases h
  | n + 1, acc, v :: st, as, rest, h => by
    obtain ⟨pre, h1, h2, h3⟩ := zv_tk_ok n (v :: acc) st as rest h
    exact ⟨v :: pre, by rw [h1]; rfl, by rw [h2]; simp, by simp [h3]⟩
theorem zv_Zq_kept {C n d : String} {A : Nat → Prop} {U : State} {H H1 : Heap} (h : va_Zq C n d A U H) (hq : ∀ a : Nat, a < H.size → ¬ A a → H1[a]? = H[a]?) : va_Zq C n d A U H1 := by
  rcases h with h | ⟨t, h⟩
  · exact Or.inl (h.kept hq)
  · exact Or.inr ⟨t, h.kept hq⟩
theorem zv_Zq_moved {C n d : String} {A : Nat → Prop} {u U : State} {H : Heap} (hvm : u.vm.Alike U.vm) (h : va_Zq C n d A u H) : va_Zq C n d A U H := by
  rcases h with h | ⟨t, h⟩
  · exact Or.inl (h.moved hvm)
  · exact Or.inr ⟨t, h.moved hvm⟩
theorem zv_SS.moved {ba : Nat} {ak adV : Nat → Nat} {s U : State} {H : Heap} {locs : List Loc} (h : zv_SS ba ak adV s) (hS : va_S (zv_Ac ba) s.heap H locs) (hU : U.heap = H) (hW : s.WarmedH U.vm) : zv_SS ba ak adV U := by
  obtain ⟨h1, h2, h3, h4⟩ := h
  refine ⟨?_, fun i hi => (h2 i hi).warm hW, ?_, ?_⟩
  · rw [hU]
    exact (h1.kept hS.2.1).moved hW.alike
  · rw [hU]
    exact (h3.kept hS.2.1).moved hW.alike
  · rw [hU]
    exact zv_Zq_moved hW.alike (zv_Zq_kept h4 hS.2.1)
theorem zv_ST.next {D : va_G} {g : Nat → ClassId} {ba : Nat} {ak adV : Nat → Nat} {h h1 : zv_H} {s U : State} {H : Heap} {locs : List Loc} (q : zv_ST D g ba ak adV h s) (hS : va_S (zv_Ac ba) s.heap H locs) (hU : U.heap = H) (hW : s.WarmedH U.vm) (hsc : zv_SC ba ak s h1) : zv_ST D g ba ak adV h1 U := by
  obtain ⟨q1, q2, q3, q4, q5, -⟩ := q
  refine ⟨va_K.moved hW.alike q1, fun own ix C n d host hw => va_Nw.warmF hW (q2 own ix C n d host hw), fun own ix y host hw => va_Nw.warmM hW (q3 own ix y host hw), va_AO.moved hW.alike q4, q5.moved hS hU hW, ?_⟩
  have hlt := hsc.lt
  obtain ⟨xs, a1, a2, a3, a4⟩ := hsc
  refine ⟨xs, ?_, a2, a3, a4⟩
  rw [hU]
  exact (a1.kept (hS.2.1 _ hlt (by unfold zv_Ac; omega))).moved hW.alike
theorem zv_Pc_blind {D : va_G} {g : Nat → ClassId} {ba : Nat} {ak adV : Nat → Nat} {as : List zv_V} {h : zv_H} : FrameBlind (zv_Pc D g ba ak adV as h) := by
  intro a U gf mk q
  obtain ⟨q1, q2, q3, q4, q5, q6, q7, ⟨q8, q9, q10, q12⟩, q11⟩ := q
  refine ⟨q1, q2, q3, va_K.moved (u := U) (U := U.calling gf mk a) (Vm.Alike.refl U.vm) q4, fun own ix C n d host hw => va_Nw.same rfl rfl (q5 own ix C n d host hw), fun own ix y host hw => va_Nw.same rfl rfl (q6 own ix y host hw), va_AO.moved (u := U) (U := U.calling gf mk a) (Vm.Alike.refl U.vm) q7, ⟨q8.moved (u := U) (U := U.calling gf mk a) (Vm.Alike.refl U.vm), fun i hi => (q9 i hi).same rfl, q10.moved (u := U) (U := U.calling gf mk a) (Vm.Alike.refl U.vm), zv_Zq_moved (u := U) (U := U.calling gf mk a) (Vm.Alike.refl U.vm) q12⟩, ?_⟩
  obtain ⟨xs, a1, a2, a3, a4⟩ := q11
  exact ⟨xs, a1.moved (u := U) (U := U.calling gf mk a) (Vm.Alike.refl U.vm), a2, a3, a4⟩
end
section
/-! cells are only made: by itself -/
def zv_mn (h hE : zv_H) (f : zv_G → zv_O) : Prop := ∀ go rv, (∀ pc ls st h1, go pc ls st h1 = some (rv, hE) → zv_mo h1 hE) → f go = some (rv, hE) → zv_mo h hE
section MN
variable {h hE : zv_H}
theorem zv_mn_go (pc : Nat) (ls : zv_Ls) (st : List zv_V) {h1 : zv_H} (hm : zv_mo h h1) : zv_mn h hE (fun go => go pc ls st h1) := fun go rv hg hr => hm.tr (hg _ _ _ _ hr)
theorem zv_mn_n : zv_mn h hE (fun _ => none) := fun go rv hg hr => by cases hr
theorem zv_mn_if {p : Prop} [Decidable p] {f k : zv_G → zv_O} (hf : zv_mn h hE f) (hk : zv_mn h hE k) : zv_mn h hE (fun go => if p then f go else k go) := by
  intro go rv hg hr
  by_cases q : p
  · simp only [if_pos q] at hr
    exact hf go rv hg hr
  · simp only [if_neg q] at hr
    exact hk go rv hg hr
theorem zv_mn_b {α : Type} {o : Option α} {f : α → zv_G → zv_O} (hf : ∀ v, o = some v → zv_mn h hE (f v)) : zv_mn h hE (fun go => o.bind fun v => f v go) := by
  intro go rv hg hr
  cases o with
  | none => exact absurd hr (by simp)
  | some v => exact hf v rfl go rv hg hr
theorem zv_mn_jp (pc : Nat) (off : Int) (ls : zv_Ls) (st : List zv_V) : zv_mn h hE (fun go => zv_jp go pc off ls st h) := zv_mn_if zv_mn_n (zv_mn_go _ _ _ (zv_mo.rf h))
theorem zv_mn_bc (pc : Nat) (off : Int) (ls : zv_Ls) (st : List zv_V) (P : Prop) [Decidable P] : zv_mn h hE (fun go => zv_bc go pc off ls st h P) := zv_mn_if zv_mn_n (zv_mn_if (zv_mn_go _ _ _ (zv_mo.rf h)) (zv_mn_go _ _ _ (zv_mo.rf h)))
theorem zv_mn_bn (pc : Nat) (off : Int) (ls : zv_Ls) (st : List zv_V) (P : Prop) [Decidable P] : zv_mn h hE (fun go => zv_bn go pc off ls st h P) := zv_mn_if zv_mn_n (zv_mn_if (zv_mn_go _ _ _ (zv_mo.rf h)) (zv_mn_go _ _ _ (zv_mo.rf h)))
theorem zv_mn_tsw (pc : Nat) (x dflt : Int) (ls : zv_Ls) (st : List zv_V) : ∀ (os : List Int) (lo : Int), zv_mn h hE (fun go => zv_tsw go pc x dflt ls st h lo os)
  | [], _ => zv_mn_jp _ _ _ _
  | _ :: t, lo => zv_mn_if (zv_mn_jp _ _ _ _) (zv_mn_tsw pc x dflt ls st t (lo + 1))
theorem zv_mn_lsw (pc : Nat) (x dflt : Int) (ls : zv_Ls) (st : List zv_V) : ∀ (os : List (Int × Int)), zv_mn h hE (fun go => zv_lsw go pc x dflt ls st h os)
  | [] => zv_mn_jp _ _ _ _
  | _ :: t => zv_mn_if (zv_mn_jp _ _ _ _) (zv_mn_lsw pc x dflt ls st t)
/-- calls only make cells -/
def zv_HM (c : zv_C) : Prop := (∀ id as h h1, c.1 id as h = some h1 → zv_mo h h1) ∧ (∀ id as h x h1, c.2.1 id as h = some (x, h1) → zv_mo h h1) ∧ (∀ id as h x h1, c.2.2.1 id as h = some (x, h1) → zv_mo h h1) ∧ ∀ id as h x h1, c.2.2.2 id as h = some (x, h1) → zv_mo h h1
theorem zv_mn_call {c : zv_C} (hc : zv_HM c) (pc : Nat) (ls : zv_Ls) (st : List zv_V) (e : Nat × (Nat × (Nat × Nat))) : zv_mn h hE (fun go => zv_call c go pc ls st h e) := by
  unfold zv_call
  cases zv_tk e.2.2.1 [] st with
  | none => exact zv_mn_n
  | some q =>
    obtain ⟨as, rest⟩ := q
    refine zv_mn_if zv_mn_n ?_
    match e.2.2.2 with
    | 0 => exact zv_mn_b fun v hv => zv_mn_go _ _ _ (hc.1 _ _ _ _ hv)
    | 1 => exact zv_mn_b fun v hv => zv_mn_go _ _ _ (hc.2.1 _ _ _ v.1 v.2 hv)
    | 2 => exact zv_mn_b fun v hv => zv_mn_go _ _ _ (hc.2.2.1 _ _ _ v.1 v.2 hv)
    | _ + 3 => exact zv_mn_b fun v hv => zv_mn_go _ _ _ (hc.2.2.2 _ _ _ v.1 v.2 hv)
theorem zv_mn_gf (pc : Nat) (ls : zv_Ls) (st : List zv_V) (r : Nat) (o : Option (Nat × (Nat × Bool))) : zv_mn h hE (fun go => zv_gf go pc ls st h r o) := by
  unfold zv_gf
  cases o with
  | none => exact zv_mn_n
  | some f =>
    dsimp only
    generalize zv_ft f.1 f.2.1 = t
    match t with
    | 0 => exact zv_mn_b fun v hv => zv_mn_go _ _ _ (zv_mo.rf h)
    | 1 => exact zv_mn_b fun v hv => zv_mn_go _ _ _ (zv_mo.rf h)
    | 2 => exact zv_mn_b fun v hv => zv_mn_go _ _ _ (zv_mo.rf h)
    | 3 => exact zv_mn_b fun v hv => zv_mn_go _ _ _ (zv_mo.rf h)
    | 4 => exact zv_mn_b fun v hv => zv_mn_go _ _ _ (zv_mo.rf h)
    | 5 => exact zv_mn_b fun v hv => zv_mn_go _ _ _ (zv_mo.rf h)
    | _ + 6 => exact zv_mn_n
theorem zv_mo_pI {r ci k : Nat} {v : Int} {h1 : zv_H} (hv : zv_pI h r ci k v = some h1) : zv_mo h h1 := by
  unfold zv_pI at hv
  split at hv <;> cases hv
  exact ⟨Nat.le_refl _, Nat.le_refl _, rfl⟩
theorem zv_mo_pZ {r ci k : Nat} {v : Int} {h1 : zv_H} (hv : zv_pZ h r ci k v = some h1) : zv_mo h h1 := by
  unfold zv_pZ at hv
  split at hv <;> cases hv
  exact ⟨Nat.le_refl _, Nat.le_refl _, rfl⟩
theorem zv_mo_pJ {r ci k : Nat} {v : Int64} {h1 : zv_H} (hv : zv_pJ h r ci k v = some h1) : zv_mo h h1 := by
  unfold zv_pJ at hv
  split at hv <;> cases hv
  exact ⟨Nat.le_refl _, Nat.le_refl _, rfl⟩
theorem zv_mo_pR {r ci k : Nat} {v : Nat} {h1 : zv_H} (hv : zv_pR h r ci k v = some h1) : zv_mo h h1 := by
  unfold zv_pR at hv
  split at hv <;> cases hv
  exact ⟨Nat.le_refl _, Nat.le_refl _, rfl⟩
theorem zv_mo_wI {r : Nat} {j v : Int} {h1 : zv_H} (hv : zv_wI h r j v = some h1) : zv_mo h h1 := by
  unfold zv_wI at hv
  split at hv <;> cases hv
  exact ⟨Nat.le_refl _, Nat.le_refl _, rfl⟩
theorem zv_mo_wB {r : Nat} {j v : Int} {h1 : zv_H} (hv : zv_wB h r j v = some h1) : zv_mo h h1 := by
  unfold zv_wB at hv
  split at hv
  · have := Option.some.inj hv
    rw [← this]
    exact ⟨Nat.le_refl _, Nat.le_refl _, rfl⟩
  · cases hv
theorem zv_mo_wJ {r : Nat} {j : Int} {v : Int64} {h1 : zv_H} (hv : zv_wJ h r j v = some h1) : zv_mo h h1 := by
  unfold zv_wJ at hv
  split at hv <;> cases hv
  exact ⟨Nat.le_refl _, Nat.le_refl _, rfl⟩
theorem zv_mo_wR {r : Nat} {j : Int} {v : Nat} {h1 : zv_H} (hv : zv_wR h r j v = some h1) : zv_mo h h1 := by
  unfold zv_wR at hv
  split at hv <;> cases hv
  exact ⟨Nat.le_refl _, Nat.le_refl _, rfl⟩
theorem zv_mo_mk (h : zv_H) (w : Nat) : zv_mo h (zv_mk h w) := ⟨Nat.le_succ _, Nat.le_add_right _ _, rfl⟩
theorem zv_mo_nO {ci : Nat} {h1 : zv_H} (hv : zv_nO h ci = some h1) : zv_mo h h1 := by
  unfold zv_nO at hv
  split at hv <;> cases hv
  exact zv_mo_mk h _
theorem zv_mo_nA {kd : Nat} {x : Int} {h1 : zv_H} (hv : zv_nA h kd x = some h1) : zv_mo h h1 := by
  unfold zv_nA at hv
  split at hv <;> cases hv
  exact zv_mo_mk h _
theorem zv_mo_cy {s d : Nat} {sp dp n : Int} {h1 : zv_H} (hv : zv_cy h s sp d dp n = some h1) : zv_mo h h1 := by
  unfold zv_cy at hv
  split at hv <;> cases hv
  exact ⟨Nat.le_refl _, Nat.le_refl _, rfl⟩
theorem zv_mn_pf (pc : Nat) (ls : zv_Ls) (st : List zv_V) (r : Nat) (w : zv_V) (o : Option (Nat × (Nat × Bool))) : zv_mn h hE (fun go => zv_pf go pc ls st h r w o) := by
  intro go rv hg hr
  unfold zv_pf at hr
  cases o with
  | none => cases hr
  | some f =>
    dsimp only at hr
    generalize zv_ft f.1 f.2.1 = t at hr
    split at hr
    · exact zv_mn_b (fun v hv => zv_mn_go _ _ _ (zv_mo_pI hv)) go rv hg hr
    · exact zv_mn_b (fun v hv => zv_mn_go _ _ _ (zv_mo_pZ hv)) go rv hg hr
    · exact zv_mn_b (fun v hv => zv_mn_go _ _ _ (zv_mo_pJ hv)) go rv hg hr
    · exact zv_mn_b (fun v hv => zv_mn_go _ _ _ (zv_mo_pR hv)) go rv hg hr
    · cases hr
theorem zv_mn_gs (pc : Nat) (ls : zv_Ls) (st : List zv_V) (o : Option Int) : zv_mn h hE (fun go => zv_gs go pc ls st h o) := by
  unfold zv_gs
  cases o with
  | none => exact zv_mn_n
  | some f => exact zv_mn_go _ _ _ (zv_mo.rf h)
theorem zv_mn_nw (pc : Nat) (ls : zv_Ls) (st : List zv_V) (o : Option Nat) : zv_mn h hE (fun go => zv_nw go pc ls st h o) := by
  unfold zv_nw
  cases o with
  | none => exact zv_mn_n
  | some f => exact zv_mn_b fun v hv => zv_mn_go _ _ _ (zv_mo_nO hv)
theorem zv_mn_an (pc : Nat) (ls : zv_Ls) (st : List zv_V) (x : Int) (o : Option Nat) : zv_mn h hE (fun go => zv_an go pc ls st h x o) := by
  unfold zv_an
  cases o with
  | none => exact zv_mn_n
  | some f => exact zv_mn_if (zv_mn_b fun v hv => zv_mn_go _ _ _ (zv_mo_nA hv)) zv_mn_n
theorem zv_mn_ls (pc : Nat) (ls : zv_Ls) (st : List zv_V) (o : Option Nat) : zv_mn h hE (fun go => zv_ls go pc ls st h o) := by
  unfold zv_ls
  cases o with
  | none => exact zv_mn_n
  | some f => exact zv_mn_go _ _ _ (zv_mo.rf h)
theorem zv_mn_li (pc : Nat) (ls : zv_Ls) (st : List zv_V) (o : Option Nat) : zv_mn h hE (fun go => zv_li go pc ls st h o) := by
  unfold zv_li
  cases o with
  | none => exact zv_mn_n
  | some f => exact zv_mn_go _ _ _ (zv_mo.rf h)
theorem zv_mn_ll (pc : Nat) (ls : zv_Ls) (st : List zv_V) (o : Option Int64) : zv_mn h hE (fun go => zv_ll go pc ls st h o) := by
  unfold zv_ll
  cases o with
  | none => exact zv_mn_n
  | some f => exact zv_mn_go _ _ _ (zv_mo.rf h)
theorem zv_mn_iv {c : zv_C} (hc : zv_HM c) (pc : Nat) (ls : zv_Ls) (st : List zv_V) (o : Option (Nat × (Nat × (Nat × Nat)))) : zv_mn h hE (fun go => zv_iv c go pc ls st h o) := by
  unfold zv_iv
  cases o with
  | none => exact zv_mn_n
  | some f => exact zv_mn_if (zv_mn_call hc _ _ _ _) zv_mn_n
theorem zv_mn_cyS (pc : Nat) (ls : zv_Ls) (st : List zv_V) : zv_mn h hE (fun go => zv_cyS go pc ls st h) := by
  intro go rv hg hr
  unfold zv_cyS at hr
  split at hr
  · exact zv_mn_if zv_mn_n (zv_mn_b fun v hv => zv_mn_go _ _ _ (zv_mo_cy hv)) go rv hg hr
  · cases hr
theorem zv_mn_mx (pc : Nat) (ls : zv_Ls) (st : List zv_V) (b : Bool) : zv_mn h hE (fun go => zv_mx go pc ls st h b) := by
  intro go rv hg hr
  unfold zv_mx at hr
  split at hr
  · exact zv_mn_if zv_mn_n (zv_mn_go _ _ _ (zv_mo.rf h)) go rv hg hr
  · cases hr
theorem zv_mn_is {c : zv_C} (hc : zv_HM c) (pc : Nat) (ls : zv_Ls) (st : List zv_V) (o : Option (Nat × (Nat × (Nat × Nat)))) : zv_mn h hE (fun go => zv_is c go pc ls st h o) := by
  unfold zv_is
  cases o with
  | none => exact zv_mn_n
  | some f => exact zv_mn_if (zv_mn_call hc _ _ _ _) (zv_mn_if (zv_mn_cyS _ _ _) (zv_mn_if (zv_mn_mx _ _ _ _) (zv_mn_if (zv_mn_mx _ _ _ _) zv_mn_n)))
theorem zv_mn_oi (pc : Nat) (ls : zv_Ls) (st : List zv_V) : zv_mn h hE (fun go => zv_oi go pc ls st h) := by
  intro go rv hg hr
  unfold zv_oi at hr
  split at hr
  · exact zv_mn_if zv_mn_n (zv_mn_if zv_mn_n (zv_mn_go _ _ _ (zv_mo.rf h))) go rv hg hr
  · cases hr
theorem zv_mn_ip {c : zv_C} (hc : zv_HM c) (pc : Nat) (ls : zv_Ls) (st : List zv_V) (o : Option (Nat × (Nat × (Nat × Nat)))) : zv_mn h hE (fun go => zv_ip c go pc ls st h o) := by
  unfold zv_ip
  cases o with
  | none => exact zv_mn_n
  | some f => exact zv_mn_if (zv_mn_call hc _ _ _ _) (zv_mn_if (zv_mn_oi _ _ _) zv_mn_n)
theorem zv_mn_rt (w : Option zv_V) (t : Option FieldType) : zv_mn h hE (fun _ => zv_rt h w t) := by
  intro go rv hg hr
  dsimp only at hr
  unfold zv_rt at hr
  split at hr
  all_goals first | (cases hr; done) | (cases hr; exact zv_mo.rf _) | (split at hr <;> cases hr; exact zv_mo.rf _)
set_option maxHeartbeats 4000000 in
theorem zv_mn_hp {c : zv_C} (hc : zv_HM c) (M : zv_M) (pc : Nat) (ls : zv_Ls) (st : List zv_V) (i : Instr) : zv_mn h hE (fun go => zv_hp c M go pc ls st h i) := by
  intro go rv hg hr
  unfold zv_hp at hr
  split at hr
  all_goals try exact zv_mn_jp _ _ _ _ go rv hg hr
  all_goals try exact zv_mn_bc _ _ _ _ _ go rv hg hr
  all_goals try exact zv_mn_bn _ _ _ _ _ go rv hg hr
  all_goals try exact zv_mn_if zv_mn_n (zv_mn_bc _ _ _ _ _) go rv hg hr
  all_goals try exact zv_mn_if zv_mn_n (zv_mn_bn _ _ _ _ _) go rv hg hr
  all_goals try exact zv_mn_if (zv_mn_tsw _ _ _ _ _ _ _) zv_mn_n go rv hg hr
  all_goals try exact zv_mn_if (zv_mn_lsw _ _ _ _ _ _) zv_mn_n go rv hg hr
  all_goals try exact zv_mn_gf _ _ _ _ _ go rv hg hr
  all_goals try exact zv_mn_pf _ _ _ _ _ _ go rv hg hr
  all_goals try exact zv_mn_gs _ _ _ _ go rv hg hr
  all_goals try exact zv_mn_nw _ _ _ _ go rv hg hr
  all_goals try exact zv_mn_an _ _ _ _ _ go rv hg hr
  all_goals try exact zv_mn_ls _ _ _ _ go rv hg hr
  all_goals try exact zv_mn_li _ _ _ _ go rv hg hr
  all_goals try exact zv_mn_ll _ _ _ _ go rv hg hr
  all_goals try exact zv_mn_iv hc _ _ _ _ go rv hg hr
  all_goals try exact zv_mn_is hc _ _ _ _ go rv hg hr
  all_goals try exact zv_mn_ip hc _ _ _ _ go rv hg hr
  all_goals try exact zv_mn_rt _ _ go rv hg hr
  all_goals try exact zv_mn_b (fun v hv => zv_mn_go _ _ _ (zv_mo_wI hv)) go rv hg hr
  all_goals try exact zv_mn_b (fun v hv => zv_mn_go _ _ _ (zv_mo_wB hv)) go rv hg hr
  all_goals try exact zv_mn_b (fun v hv => zv_mn_go _ _ _ (zv_mo_wJ hv)) go rv hg hr
  all_goals try exact zv_mn_b (fun v hv => zv_mn_go _ _ _ (zv_mo_wR hv)) go rv hg hr
  all_goals try exact zv_mn_b (fun v hv => zv_mn_go _ _ _ (zv_mo_nA hv)) go rv hg hr
  all_goals try exact zv_mn_b (fun v hv => zv_mn_go _ _ _ (zv_mo.rf h)) go rv hg hr
  all_goals cases hr
theorem zv_mn_stp {c : zv_C} (hc : zv_HM c) (M : zv_M) (pc : Nat) (ls : zv_Ls) (st : List zv_V) : zv_mn h hE (fun go => zv_stp c M go pc ls st h) := by
  unfold zv_stp
  cases zv_lk M.2.1 pc with
  | none => exact zv_mn_n
  | some i =>
    dsimp only
    cases zv_op i ls st with
    | none => exact zv_mn_hp hc _ _ _ _ _
    | some q => exact zv_mn_go _ _ _ (zv_mo.rf h)
end MN
theorem zv_mn_seg {c : zv_C} (hc : zv_HM c) (M : zv_M) {hE : zv_H} : ∀ (n pc : Nat) (ls : zv_Ls) (st : List zv_V) (h : zv_H), zv_mn h hE (fun go => zv_seg c M go n pc ls st h)
  | 0, pc, ls, st, h => zv_mn_go _ _ _ (zv_mo.rf h)
  | n + 1, pc, ls, st, h => by
    intro kt rv hg hr
    refine zv_mn_stp hc M pc ls st (fun pc ls st h => match zv_lk M.2.2.1 pc with
      | some b => kt pc (zv_msk b ls) st h
      | none => zv_seg c M kt n pc ls st h) rv (fun pc1 ls1 st1 h1 e1 => ?_) hr
    cases hb : zv_lk M.2.2.1 pc1 with
    | some b =>
      simp only [hb] at e1
      exact hg _ _ _ _ e1
    | none =>
      simp only [hb] at e1
      exact zv_mn_seg hc M n pc1 ls1 st1 h1 kt rv hg e1
theorem zv_mn_it {c : zv_C} (hc : zv_HM c) (M : zv_M) : ∀ (n pc : Nat) (ls : zv_Ls) (st : List zv_V) (h : zv_H) (rv : Option zv_V) (hE : zv_H), zv_it c M n pc ls st h = some (rv, hE) → zv_mo h hE
  | 0, _, _, _, _, _, _, hr => by cases hr
  | n + 1, pc, ls, st, h, rv, hE, hr => zv_mn_seg hc M 400 pc ls st h (zv_it c M n) rv (fun pc1 ls1 st1 h1 e1 => zv_mn_it hc M n pc1 ls1 st1 h1 rv hE e1) hr
theorem zv_mn_lim {c : zv_C} (hc : zv_HM c) {M : zv_M} {pc : Nat} {ls : zv_Ls} {st : List zv_V} {h : zv_H} {rv : Option zv_V} {hE : zv_H} (hr : zv_lim c M pc ls st h = some (rv, hE)) : zv_mo h hE := by
  obtain ⟨n, hn⟩ := (zv_lim_iff _ _ _ _ _ _ _).mp hr
  exact zv_mn_it hc M n pc ls st h rv hE hn
theorem zv_jd_h {id : Nat} {as : List zv_V} {h : zv_H} {rv : Option zv_V} {hE : zv_H} (hr : zv_jd id as h = some (rv, hE)) : hE = h := by
  unfold zv_jd at hr
  split at hr
  · split at hr <;> cases hr; rfl
  · cases hr
theorem zv_mn_sem {pg : Nat → Option (Option Nat × zv_M)} {c : zv_C} (hc : zv_HM c) {id : Nat} {as : List zv_V} {h : zv_H} {rv : Option zv_V} {hE : zv_H} (hr : zv_sem pg c id as h = some (rv, hE)) : zv_mo h hE := by
  unfold zv_sem at hr
  split at hr
  · rw [zv_jd_h hr]
    exact zv_mo.rf h
  · split at hr
    · cases hr
    · split at hr
      · exact zv_mn_lim hc hr
      · cases hr
theorem zv_pjV_eq {o : zv_O} {h : zv_H} (e : zv_pjV o = some h) : o = some (none, h) := by
  unfold zv_pjV at e
  split at e <;> cases e
  rfl
theorem zv_pjI_eq {o : zv_O} {x : Int} {h : zv_H} (e : zv_pjI o = some (x, h)) : o = some (some (zv_i x), h) := by
  unfold zv_pjI at e
  split at e <;> cases e
  rfl
theorem zv_pjJ_eq {o : zv_O} {x : Int64} {h : zv_H} (e : zv_pjJ o = some (x, h)) : o = some (some (zv_j x), h) := by
  unfold zv_pjJ at e
  split at e <;> cases e
  rfl
theorem zv_pjR_eq {o : zv_O} {x : Nat} {h : zv_H} (e : zv_pjR o = some (x, h)) : o = some (some (zv_r x), h) := by
  unfold zv_pjR at e
  split at e <;> cases e
  rfl
theorem zv_HM_cs (pg : Nat → Option (Option Nat × zv_M)) : ∀ d, zv_HM (zv_cs pg d)
  | 0 => ⟨fun _ _ _ _ e => (by cases e), fun _ _ _ _ _ e => (by cases e), fun _ _ _ _ _ e => (by cases e), fun _ _ _ _ _ e => (by cases e)⟩
  | d + 1 => ⟨fun _ _ _ _ e => zv_mn_sem (zv_HM_cs pg d) (zv_pjV_eq e), fun _ _ _ _ _ e => zv_mn_sem (zv_HM_cs pg d) (zv_pjI_eq e), fun _ _ _ _ _ e => zv_mn_sem (zv_HM_cs pg d) (zv_pjJ_eq e), fun _ _ _ _ _ e => zv_mn_sem (zv_HM_cs pg d) (zv_pjR_eq e)⟩
end
section
/-! each instruction of the small machine is the machine's -/
def zv_WH (p : Program) (l : Launch) (e : Env) (R : Room) (s : State) (m : MethodId) (args : Array Value) (below : List Frame) (meth : Method) (c : Code) (Q : State → Prop) (M : zv_M) (D : va_G) (g : Nat → ClassId) (ba : Nat) (ak : Nat → Nat) (n0 s0 : Nat) (pc : Nat) (ls : zv_Ls) (st : List zv_V) (h : zv_H) : Prop :=
  ∀ H locs cells slots lsR, zv_RL ba ak lsR ls → ls.length = M.1.2.2.2.1 → (∀ v ∈ st, zv_vg v) → zv_RH D g ba ak h H → va_S (zv_Ac ba) s.heap H locs → cells + n0 = zv_n h → slots + s0 = zv_s h → zv_SC ba ak s h → W p l e R s m args below meth c H locs cells slots Q (F0 m pc lsR (st.map (zv_cv ba ak)))
def zv_ok (p : Program) (l : Launch) (e : Env) (R : Room) (s : State) (m : MethodId) (args : Array Value) (below : List Frame) (meth : Method) (c : Code) (Q : State → Prop) (M : zv_M) (D : va_G) (g : Nat → ClassId) (ba : Nat) (ak : Nat → Nat) (n0 s0 : Nat) (hE : zv_H) (pc : Nat) (ls : zv_Ls) (st : List zv_V) (h : zv_H) : Prop :=
  zv_mo h hE ∧ zv_WH p l e R s m args below meth c Q M D g ba ak n0 s0 pc ls st h
def zv_CX (p : Program) (l : Launch) (R : Room) (s : State) (args : Array Value) (m : MethodId) (meth : Method) (c : Code) (M : zv_M) (D : va_G) (g : Nat → ClassId) (ba : Nat) (ak adV : Nat → Nat) (n0 s0 : Nat) (hE : zv_H) : Prop :=
  (p.tables.exec = Jvm.exec ∧ c.code = M.1.2.2.1 ∧ c.maxLocals = M.1.2.2.2.1 ∧ s.vm.findClass M.1.1 = some m.cls ∧ (∀ w ∈ zv_tb, w.before args s = true)) ∧
  (va_K D vwCl (zv_tys g) s ∧ zv_NF s ∧ zv_NM s ∧ va_AO "BranchedText$State" s ∧ zv_SS ba ak adV s) ∧
  (M.1.2.1.name = "<init>" → meth.name = "<init>") ∧ s.heap.size = ba + n0 + 1 ∧ zv_n hE ≤ R.cells + n0 ∧ zv_s hE ≤ R.slots + s0 ∧ zv_vM M
section ZSND
variable {p : Program} {l : Launch} {e : Env} {R : Room} {s : State} {m : MethodId} {args : Array Value} {below : List Frame} {meth : Method} {c : Code} {Q : State → Prop} {M : zv_M} {D : va_G} {g : Nat → ClassId} {ba : Nat} {ak adV : Nat → Nat} {n0 s0 : Nat} {rv : Option zv_V} {hE : zv_H}
variable {pc : Nat} {ls : zv_Ls} {st : List zv_V} {h : zv_H}
theorem zv_dg (cx : zv_CX p l R s args m meth c M D g ba ak adV n0 s0 hE) {i : Instr} (hi : zv_lk M.2.1 pc = some i) (hs : zv_sw i = false) : decode M.1.2.2.1 pc = .ok (i, zv_len i) := by
  obtain ⟨len, h1, h2⟩ := cx.2.2.2.2.2.2.1 pc i hi
  rcases h2 with h2 | h2
  · rw [h1, h2]
  · rw [hs] at h2
    cases h2
theorem zv_jp_ok {go : zv_G} {off : Int} {r : Option zv_V × zv_H} (hr : zv_jp go pc off ls st h = some r) : ∃ tgt : Nat, (pc : Int) + off = (tgt : Int) ∧ go tgt ls st h = some r := by
  unfold zv_jp at hr
  split at hr
  · cases hr
  · exact ⟨_, by omega, hr⟩
theorem zv_bc_ok {go : zv_G} {off : Int} {r : Option zv_V × zv_H} {P : Prop} [Decidable P] (hr : zv_bc go pc off ls st h P = some r) : ∃ tgt : Nat, (pc : Int) + off = (tgt : Int) ∧ ((P ∧ go tgt ls st h = some r) ∨ (¬ P ∧ go (pc + 3) ls st h = some r)) := by
  unfold zv_bc at hr
  split at hr
  · cases hr
  · refine ⟨((pc : Int) + off).toNat, by omega, ?_⟩
    split at hr
    · exact Or.inl ⟨‹_›, hr⟩
    · exact Or.inr ⟨‹_›, hr⟩
theorem zv_bn_ok {go : zv_G} {off : Int} {r : Option zv_V × zv_H} {P : Prop} [Decidable P] (hr : zv_bn go pc off ls st h P = some r) : ∃ tgt : Nat, (pc : Int) + off = (tgt : Int) ∧ ((P ∧ go (pc + 3) ls st h = some r) ∨ (¬ P ∧ go tgt ls st h = some r)) := by
  unfold zv_bn at hr
  split at hr
  · cases hr
  · refine ⟨((pc : Int) + off).toNat, by omega, ?_⟩
    split at hr
    · exact Or.inl ⟨‹_›, hr⟩
    · exact Or.inr ⟨‹_›, hr⟩
theorem zv_goto_ok (cx : zv_CX p l R s args m meth c M D g ba ak adV n0 s0 hE) {off : Int} (hi : zv_lk M.2.1 pc = some (.goto off)) {go : zv_G} (hgo : ∀ pc ls st h, go pc ls st h = some (rv, hE) → zv_ok p l e R s m args below meth c Q M D g ba ak n0 s0 hE pc ls st h) (hr : zv_jp go pc off ls st h = some (rv, hE)) : zv_ok p l e R s m args below meth c Q M D g ba ak n0 s0 hE pc ls st h := by
  obtain ⟨tgt, ht, hg⟩ := zv_jp_ok hr
  refine ⟨(hgo _ _ _ _ hg).1, fun H locs cells slots lsR a1 a0 a2 a3 a4 a5 a6 a7 => ?_⟩
  exact lv_goto cx.1.1 cx.1.2.1 (zv_dg cx hi rfl) ht ((hgo _ _ _ _ hg).2 H locs cells slots lsR a1 a0 a2 a3 a4 a5 a6 a7)
/-- a branch: what it takes from the stack, when it jumps -/
theorem zv_two_ok (cx : zv_CX p l R s args m meth c M D g ba ak adV n0 s0 hE) {go : zv_G} (hgo : ∀ pc ls st h, go pc ls st h = some (rv, hE) → zv_ok p l e R s m args below meth c Q M D g ba ak n0 s0 hE pc ls st h) {tgt : Nat} {P : Prop} {pre : List zv_V}
    (hW : ∀ {H : Heap} {locs : List Loc} {cells slots : Nat} {lsR : Array Slot}, (∀ v ∈ pre, zv_vg v) → (P → W p l e R s m args below meth c H locs cells slots Q (F0 m tgt lsR (st.map (zv_cv ba ak)))) → (¬ P → W p l e R s m args below meth c H locs cells slots Q (F0 m (pc + 3) lsR (st.map (zv_cv ba ak)))) → W p l e R s m args below meth c H locs cells slots Q (F0 m pc lsR ((pre ++ st).map (zv_cv ba ak))))
    (hr : (P ∧ go tgt ls st h = some (rv, hE)) ∨ (¬ P ∧ go (pc + 3) ls st h = some (rv, hE))) : zv_ok p l e R s m args below meth c Q M D g ba ak n0 s0 hE pc ls (pre ++ st) h := by
  rcases hr with ⟨hp, hg⟩ | ⟨hp, hg⟩
  · refine ⟨(hgo _ _ _ _ hg).1, fun H locs cells slots lsR a1 a0 a2 a3 a4 a5 a6 a7 => ?_⟩
    exact hW (fun v hv => a2 v (List.mem_append_left _ hv)) (fun _ => (hgo _ _ _ _ hg).2 H locs cells slots lsR a1 a0 (fun v hv => a2 v (List.mem_append_right _ hv)) a3 a4 a5 a6 a7) (fun hn => absurd hp hn)
  · refine ⟨(hgo _ _ _ _ hg).1, fun H locs cells slots lsR a1 a0 a2 a3 a4 a5 a6 a7 => ?_⟩
    exact hW (fun v hv => a2 v (List.mem_append_left _ hv)) (fun hn => absurd hn hp) (fun _ => (hgo _ _ _ _ hg).2 H locs cells slots lsR a1 a0 (fun v hv => a2 v (List.mem_append_right _ hv)) a3 a4 a5 a6 a7)
theorem zv_or_sw {A B : Prop} {P : Prop} (h : (P ∧ A) ∨ (¬ P ∧ B)) : (¬ P ∧ B) ∨ (¬ ¬ P ∧ A) := by
  rcases h with ⟨a, b⟩ | ⟨a, b⟩
  · exact Or.inr ⟨fun q => q a, b⟩
  · exact Or.inl ⟨a, b⟩
/-- the branches on one int -/
theorem zv_if_ok (cx : zv_CX p l R s args m meth c M D g ba ak adV n0 s0 hE) {k : ClassFile.Cond} {off : Int} {x : Int} (hi : zv_lk M.2.1 pc = some (.ifCond k off)) {go : zv_G} (hgo : ∀ pc ls st h, go pc ls st h = some (rv, hE) → zv_ok p l e R s m args below meth c Q M D g ba ak n0 s0 hE pc ls st h) {tgt : Nat} (ht : (pc : Int) + off = (tgt : Int)) (P : Prop)
    (hP : zv_rg x → (P ↔ match k with
      | .eq => Int32.ofInt x = 0
      | .ne => ¬ Int32.ofInt x = 0
      | .lt => Int32.ofInt x < 0
      | .ge => 0 ≤ Int32.ofInt x
      | .gt => 0 < Int32.ofInt x
      | .le => Int32.ofInt x ≤ 0))
    (hr : (P ∧ go tgt ls st h = some (rv, hE)) ∨ (¬ P ∧ go (pc + 3) ls st h = some (rv, hE))) : zv_ok p l e R s m args below meth c Q M D g ba ak n0 s0 hE pc ls (zv_i x :: st) h := by
  refine zv_two_ok (pre := [zv_i x]) cx hgo (fun hv kt kf => ?_) hr
  have hx := hP (hv _ List.mem_cons_self)
  have hdg := zv_dg cx hi rfl
  cases k with
  | eq => exact lv_if_eq cx.1.1 cx.1.2.1 hdg ht (fun q => kt (hx.mpr q)) (fun q => kf (fun z => q (hx.mp z)))
  | ne => exact lv_if_ne cx.1.1 cx.1.2.1 hdg ht (fun q => kt (hx.mpr q)) (fun q => kf (fun z => hx.mp z q))
  | lt => exact lv_if_lt cx.1.1 cx.1.2.1 hdg ht (fun q => kt (hx.mpr q)) (fun q => kf (fun z => q (hx.mp z)))
  | ge => exact lv_if_ge cx.1.1 cx.1.2.1 hdg ht (fun q => kt (hx.mpr q)) (fun q => kf (fun z => q (hx.mp z)))
  | gt => exact lv_if_gt cx.1.1 cx.1.2.1 hdg ht (fun q => kt (hx.mpr q)) (fun q => kf (fun z => q (hx.mp z)))
  | le => exact lv_if_le cx.1.1 cx.1.2.1 hdg ht (fun q => kt (hx.mpr q)) (fun q => kf (fun z => q (hx.mp z)))
theorem zv_icmp_ok (cx : zv_CX p l R s args m meth c M D g ba ak adV n0 s0 hE) {k : ClassFile.Cond} {off : Int} {x y : Int} (hi : zv_lk M.2.1 pc = some (.if_icmp k off)) {go : zv_G} (hgo : ∀ pc ls st h, go pc ls st h = some (rv, hE) → zv_ok p l e R s m args below meth c Q M D g ba ak n0 s0 hE pc ls st h) {tgt : Nat} (ht : (pc : Int) + off = (tgt : Int)) (P : Prop)
    (hP : zv_rg x → zv_rg y → (P ↔ match k with
      | .eq => Int32.ofInt x = Int32.ofInt y
      | .ne => ¬ Int32.ofInt x = Int32.ofInt y
      | .lt => Int32.ofInt x < Int32.ofInt y
      | .ge => Int32.ofInt y ≤ Int32.ofInt x
      | .gt => Int32.ofInt y < Int32.ofInt x
      | .le => Int32.ofInt x ≤ Int32.ofInt y))
    (hr : (P ∧ go tgt ls st h = some (rv, hE)) ∨ (¬ P ∧ go (pc + 3) ls st h = some (rv, hE))) : zv_ok p l e R s m args below meth c Q M D g ba ak n0 s0 hE pc ls (zv_i y :: zv_i x :: st) h := by
  refine zv_two_ok (pre := [zv_i y, zv_i x]) cx hgo (fun hv kt kf => ?_) hr
  have hx := hP (hv _ (List.mem_cons_of_mem _ List.mem_cons_self)) (hv _ List.mem_cons_self)
  have hdg := zv_dg cx hi rfl
  cases k with
  | eq => exact lv_icmp_eq cx.1.1 cx.1.2.1 hdg ht (fun q => kt (hx.mpr q)) (fun q => kf (fun z => q (hx.mp z)))
  | ne => exact lv_icmp_ne cx.1.1 cx.1.2.1 hdg ht (fun q => kt (hx.mpr q)) (fun q => kf (fun z => hx.mp z q))
  | lt => exact lv_icmp_lt cx.1.1 cx.1.2.1 hdg ht (fun q => kt (hx.mpr q)) (fun q => kf (fun z => q (hx.mp z)))
  | ge => exact lv_icmp_ge cx.1.1 cx.1.2.1 hdg ht (fun q => kt (hx.mpr q)) (fun q => kf (fun z => q (hx.mp z)))
  | gt => exact lv_icmp_gt cx.1.1 cx.1.2.1 hdg ht (fun q => kt (hx.mpr q)) (fun q => kf (fun z => q (hx.mp z)))
  | le => exact lv_icmp_le cx.1.1 cx.1.2.1 hdg ht (fun q => kt (hx.mpr q)) (fun q => kf (fun z => q (hx.mp z)))
theorem zv_ad_inj {x y : Nat} (hx : ¬ (1000000 ≤ x ∨ 1000000 ≤ y)) : zv_ad ba ak x = zv_ad ba ak y ↔ x = y := by
  unfold zv_ad
  constructor
  · intro q
    by_cases h1 : x = 0 <;> by_cases h2 : y = 0
    · omega
    · rw [if_pos h1, if_neg h2] at q; cases q
    · rw [if_neg h1, if_pos h2] at q; cases q
    · rw [if_neg h1, if_neg h2, if_pos (by omega), if_pos (by omega)] at q
      have := Option.some.inj q
      omega
  · intro q
    rw [q]
theorem zv_acmp_ok (cx : zv_CX p l R s args m meth c M D g ba ak adV n0 s0 hE) {k : ClassFile.ACond} {off : Int} {x y : Nat} (hxy : ¬ (1000000 ≤ x ∨ 1000000 ≤ y)) (hi : zv_lk M.2.1 pc = some (.if_acmp k off)) {go : zv_G} (hgo : ∀ pc ls st h, go pc ls st h = some (rv, hE) → zv_ok p l e R s m args below meth c Q M D g ba ak n0 s0 hE pc ls st h) {tgt : Nat} (ht : (pc : Int) + off = (tgt : Int)) (P : Prop)
    (hP : P ↔ match k with
      | .eq => x = y
      | .ne => ¬ x = y)
    (hr : (P ∧ go tgt ls st h = some (rv, hE)) ∨ (¬ P ∧ go (pc + 3) ls st h = some (rv, hE))) : zv_ok p l e R s m args below meth c Q M D g ba ak n0 s0 hE pc ls (zv_r y :: zv_r x :: st) h := by
  refine zv_two_ok (pre := [zv_r y, zv_r x]) cx hgo (fun hv kt kf => ?_) hr
  have hdg := zv_dg cx hi rfl
  have hj := zv_ad_inj (ba := ba) (ak := ak) hxy
  cases k with
  | eq => exact lv_acmp_eq cx.1.1 cx.1.2.1 hdg ht (fun q => kt (hP.mpr (hj.mp q))) (fun q => kf (fun z => q (hj.mpr (hP.mp z))))
  | ne => exact lv_acmp_ne cx.1.1 cx.1.2.1 hdg ht (fun q => kt (hP.mpr (fun z => q (hj.mpr z)))) (fun q => kf (fun z => hP.mp z (hj.mp q)))
theorem zv_nul_ok (cx : zv_CX p l R s args m meth c M D g ba ak adV n0 s0 hE) {off : Int} {x : Nat} (hi : zv_lk M.2.1 pc = some (.ifnull off)) {go : zv_G} (hgo : ∀ pc ls st h, go pc ls st h = some (rv, hE) → zv_ok p l e R s m args below meth c Q M D g ba ak n0 s0 hE pc ls st h) {tgt : Nat} (ht : (pc : Int) + off = (tgt : Int))
    (hr : (x = 0 ∧ go tgt ls st h = some (rv, hE)) ∨ (¬ x = 0 ∧ go (pc + 3) ls st h = some (rv, hE))) : zv_ok p l e R s m args below meth c Q M D g ba ak n0 s0 hE pc ls (zv_r x :: st) h := by
  refine zv_two_ok (pre := [zv_r x]) cx hgo (fun hv kt kf => ?_) hr
  have hdg := zv_dg cx hi rfl
  show W p l e R s m args below meth c _ _ _ _ Q (F0 m pc _ (va_rf (zv_ad ba ak x) :: st.map (zv_cv ba ak)))
  unfold zv_ad
  by_cases hx : x = 0
  · rw [if_pos hx]
    exact lv_ifnullN cx.1.1 cx.1.2.1 hdg ht (kt hx)
  · rw [if_neg hx]
    exact lv_ifnull cx.1.1 cx.1.2.1 hdg (kf hx)
theorem zv_nnl_ok (cx : zv_CX p l R s args m meth c M D g ba ak adV n0 s0 hE) {off : Int} {x : Nat} (hi : zv_lk M.2.1 pc = some (.ifnonnull off)) {go : zv_G} (hgo : ∀ pc ls st h, go pc ls st h = some (rv, hE) → zv_ok p l e R s m args below meth c Q M D g ba ak n0 s0 hE pc ls st h) {tgt : Nat} (ht : (pc : Int) + off = (tgt : Int))
    (hr : (¬ x = 0 ∧ go tgt ls st h = some (rv, hE)) ∨ (¬ ¬ x = 0 ∧ go (pc + 3) ls st h = some (rv, hE))) : zv_ok p l e R s m args below meth c Q M D g ba ak n0 s0 hE pc ls (zv_r x :: st) h := by
  refine zv_two_ok (pre := [zv_r x]) cx hgo (fun hv kt kf => ?_) hr
  have hdg := zv_dg cx hi rfl
  show W p l e R s m args below meth c _ _ _ _ Q (F0 m pc _ (va_rf (zv_ad ba ak x) :: st.map (zv_cv ba ak)))
  unfold zv_ad
  by_cases hx : x = 0
  · rw [if_pos hx]
    exact lv_ifnonnullN cx.1.1 cx.1.2.1 hdg (kf (fun q => q hx))
  · rw [if_neg hx]
    exact lv_ifnonnull cx.1.1 cx.1.2.1 hdg ht (kt hx)
theorem zv_tsw_ok {go : zv_G} {x dflt : Int} {r : Option zv_V × zv_H} : ∀ (offs : List Int) (lo : Int), zv_tsw go pc x dflt ls st h lo offs = some r → ((x < lo ∨ lo + offs.length ≤ x) ∧ zv_jp go pc dflt ls st h = some r) ∨ (lo ≤ x ∧ x < lo + offs.length ∧ ∃ off, offs[(x - lo).toNat]? = some off ∧ zv_jp go pc off ls st h = some r)
  | [], lo, hr => by
    refine Or.inl ⟨?_, hr⟩
    simp
    omega
  | o :: t, lo, hr => by
    unfold zv_tsw at hr
    split at hr
    · rename_i q
      refine Or.inr ⟨by omega, by simp; omega, o, ?_, hr⟩
      rw [q, Int.sub_self]
      rfl
    · rename_i q
      rcases zv_tsw_ok t (lo + 1) hr with ⟨a, b⟩ | ⟨a1, a2, off, a3, a4⟩
      · refine Or.inl ⟨?_, b⟩
        simp
        omega
      · refine Or.inr ⟨by omega, by simp; omega, off, ?_, a4⟩
        rw [show (x - lo).toNat = (x - (lo + 1)).toNat + 1 by omega, List.getElem?_cons_succ]
        exact a3
theorem zv_lsw_ok {go : zv_G} {x dflt : Int} {r : Option zv_V × zv_H} : ∀ (ps : List (Int × Int)), zv_lsw go pc x dflt ls st h ps = some r → zv_jp go pc (Op.lookupswitch.offset ps dflt x) ls st h = some r
  | [], hr => hr
  | o :: t, hr => by
    unfold zv_lsw at hr
    split at hr
    · rename_i q
      have : Op.lookupswitch.offset (o :: t) dflt x = o.2 := by
        simp [Op.lookupswitch.offset, q]
      rw [this]
      exact hr
    · rename_i q
      have := zv_lsw_ok t hr
      have e : Op.lookupswitch.offset (o :: t) dflt x = Op.lookupswitch.offset t dflt x := by
        simp [Op.lookupswitch.offset, Ne.symm q]
      rw [e]
      exact this
end ZSND
end
section
/-! the instructions on cells, once more, with what lies behind. -/
section ZSND
variable {p : Program} {l : Launch} {e : Env} {R : Room} {s : State} {m : MethodId} {args : Array Value} {below : List Frame} {meth : Method} {c : Code} {Q : State → Prop} {M : zv_M} {D : va_G} {g : Nat → ClassId} {ba : Nat} {ak adV : Nat → Nat} {n0 s0 : Nat} {rv : Option zv_V} {hE : zv_H}
variable {pc : Nat} {ls : zv_Ls} {st : List zv_V} {h : zv_H}
theorem zv_ad_t {k : Nat} (ba : Nat) (ak : Nat → Nat) : va_rf (zv_ad ba ak (1000000 + k)) = .ref (ak (1000000 + k)) := by
  unfold zv_ad
  rw [if_neg (by omega), if_neg (by omega)]
  rfl
theorem zv_gf_ok (cx : zv_CX p l R s args m meth c M D g ba ak adV n0 s0 hE) {ix r : Nat} (hi : zv_lk M.2.1 pc = some (.getfield ix)) {go : zv_G} (hgo : ∀ pc ls st h, go pc ls st h = some (rv, hE) → zv_ok p l e R s m args below meth c Q M D g ba ak n0 s0 hE pc ls st h) (hr : zv_gf go pc ls st h r (zv_lk M.2.2.2.1 ix) = some (rv, hE)) : zv_ok p l e R s m args below meth c Q M D g ba ak n0 s0 hE pc ls (zv_r r :: st) h := by
  unfold zv_gf at hr
  cases hf : zv_lk M.2.2.2.1 ix with
  | none => rw [hf] at hr; cases hr
  | some f =>
    rw [hf] at hr
    dsimp only at hr
    have hdg := zv_dg cx hi rfl
    rcases cx.2.2.2.2.2.2.2.1 ix f hf with ⟨h4, w⟩ | ⟨h5, w⟩ | ⟨C, T, N, ty, hCF, hk, hl, -⟩
    · rw [h4] at hr
      obtain ⟨v, hv, hg⟩ := Option.bind_eq_some_iff.mp hr
      unfold zv_tC at hv
      split at hv <;> cases hv
      rename_i ho
      obtain ⟨k, rfl⟩ := Nat.exists_eq_add_of_le ho.1
      refine ⟨(hgo _ _ _ _ hg).1, fun H locs cells slots lsR a1 a0 a2 a3 a4 a5 a6 a7 => ?_⟩
      show W p l e R s m args below meth c H locs cells slots Q (F0 m pc lsR (va_rf (zv_ad ba ak (1000000 + k)) :: st.map (zv_cv ba ak)))
      rw [zv_ad_t]
      exact vk_getf cx.1.1 cx.1.2.1 (cx.2.1.2.2.2.2.1.1 k (by omega)).2.1 a4 cx.1.2.2.2.1 (cx.1.2.2.2.2 _ w) (fun _ q => q) hdg ((hgo _ _ _ _ hg).2 H locs cells slots lsR a1 a0 (zv_fc zv_rg0 (zv_fa a2).2) a3 a4 a5 a6 a7)
    · rw [h5] at hr
      obtain ⟨v, hv, hg⟩ := Option.bind_eq_some_iff.mp hr
      unfold zv_tV at hv
      split at hv <;> cases hv
      rename_i ho
      obtain ⟨k, rfl⟩ := Nat.exists_eq_add_of_le ho.1
      refine ⟨(hgo _ _ _ _ hg).1, fun H locs cells slots lsR a1 a0 a2 a3 a4 a5 a6 a7 => ?_⟩
      show W p l e R s m args below meth c H locs cells slots Q (F0 m pc lsR (va_rf (zv_ad ba ak (1000000 + k)) :: st.map (zv_cv ba ak)))
      rw [zv_ad_t]
      have kk := (hgo _ _ _ _ hg).2 H locs cells slots lsR a1 a0 (zv_fc trivial (zv_fa a2).2) a3 a4 a5 a6 a7
      rw [List.map_cons] at kk
      change W p l e R s m args below meth c H locs cells slots Q (F0 m (pc + 3) lsR (va_rf (zv_ad ba ak (1000000 + k + 100)) :: _)) at kk
      rw [show 1000000 + k + 100 = 1000000 + (k + 100) by omega, zv_ad_t, show 1000000 + (k + 100) = 1000100 + k by omega] at kk
      exact vk_getf cx.1.1 cx.1.2.1 (cx.2.1.2.2.2.2.1.1 k (by omega)).2.2.1 a4 cx.1.2.2.2.1 (cx.1.2.2.2.2 _ w) (fun _ q => q) hdg kk
    have htk := hCF.2.2.2.2.2.2 f.2.1 hk
    split at hr
    · rename_i hft
      obtain ⟨v, hv, hg⟩ := Option.bind_eq_some_iff.mp hr
      unfold zv_gI at hv
      split at hv <;> cases hv
      rename_i ho
      refine ⟨(hgo _ _ _ _ hg).1, fun H locs cells slots lsR a1 a0 a2 a3 a4 a5 a6 a7 => ?_⟩
      refine zv_get_ok cx.1.1 cx.1.2.1 cx.1.2.2.2.2 cx.2.1.2.1 cx.1.2.2.2.1 cx.2.1.1 a3 hCF hk hl ho hdg ?_
      have e1 : zv_fv ba ak h r f.1 f.2.1 = .int (Int32.ofInt (zv_I h r f.2.1)) := by
        unfold zv_fv
        rw [hft]
        rfl
      rw [e1]
      exact (hgo _ _ _ _ hg).2 H locs cells slots lsR a1 a0 (zv_fc (a3.2.2.1 _ _) (zv_fa a2).2) a3 a4 a5 a6 a7
    · rename_i hft
      obtain ⟨v, hv, hg⟩ := Option.bind_eq_some_iff.mp hr
      unfold zv_gI at hv
      split at hv <;> cases hv
      rename_i ho
      refine ⟨(hgo _ _ _ _ hg).1, fun H locs cells slots lsR a1 a0 a2 a3 a4 a5 a6 a7 => ?_⟩
      refine zv_get_ok cx.1.1 cx.1.2.1 cx.1.2.2.2.2 cx.2.1.2.1 cx.1.2.2.2.1 cx.2.1.1 a3 hCF hk hl ho hdg ?_
      have e1 : zv_fv ba ak h r f.1 f.2.1 = .int (Int32.ofInt (zv_I h r f.2.1)) := by
        unfold zv_fv
        rw [hft]
        rfl
      rw [e1]
      exact (hgo _ _ _ _ hg).2 H locs cells slots lsR a1 a0 (zv_fc (a3.2.2.1 _ _) (zv_fa a2).2) a3 a4 a5 a6 a7
    · rename_i hft
      obtain ⟨v, hv, hg⟩ := Option.bind_eq_some_iff.mp hr
      unfold zv_gJ at hv
      split at hv <;> cases hv
      rename_i ho
      refine ⟨(hgo _ _ _ _ hg).1, fun H locs cells slots lsR a1 a0 a2 a3 a4 a5 a6 a7 => ?_⟩
      refine zv_get_ok cx.1.1 cx.1.2.1 cx.1.2.2.2.2 cx.2.1.2.1 cx.1.2.2.2.1 cx.2.1.1 a3 hCF hk hl ho hdg ?_
      have e1 : zv_fv ba ak h r f.1 f.2.1 = .long (zv_J h r f.2.1) := by
        unfold zv_fv
        rw [hft]
        rfl
      rw [e1]
      exact (hgo _ _ _ _ hg).2 H locs cells slots lsR a1 a0 (zv_fc trivial (zv_fa a2).2) a3 a4 a5 a6 a7
    · rename_i hft
      obtain ⟨v, hv, hg⟩ := Option.bind_eq_some_iff.mp hr
      unfold zv_gR at hv
      split at hv <;> cases hv
      rename_i ho
      refine ⟨(hgo _ _ _ _ hg).1, fun H locs cells slots lsR a1 a0 a2 a3 a4 a5 a6 a7 => ?_⟩
      refine zv_get_ok cx.1.1 cx.1.2.1 cx.1.2.2.2.2 cx.2.1.2.1 cx.1.2.2.2.1 cx.2.1.1 a3 hCF hk hl ho hdg ?_
      have e1 : zv_fv ba ak h r f.1 f.2.1 = va_rf (zv_ad ba ak (zv_R h r f.2.1)) := by
        unfold zv_fv
        rw [hft]
        rfl
      rw [e1]
      exact (hgo _ _ _ _ hg).2 H locs cells slots lsR a1 a0 (zv_fc trivial (zv_fa a2).2) a3 a4 a5 a6 a7
    · rename_i hft
      rw [hft] at htk
      exact htk.elim
    · rename_i hft
      rw [hft] at htk
      exact htk.elim
    · cases hr
theorem zv_fits_r {t : FieldType} (ht : (∃ x, t = .object x) ∨ ∃ x, t = .array x) (r : Nat) : narrow t (va_rf (zv_ad ba ak r)) = va_rf (zv_ad ba ak r) ∧ fits t (va_rf (zv_ad ba ak r)) = true := by
  rcases zv_ad_cases ba ak r with ⟨-, q⟩ | ⟨a, q⟩ <;> rw [q] <;> rcases ht with ⟨x, rfl⟩ | ⟨x, rfl⟩ <;> exact ⟨rfl, rfl⟩
theorem zv_pf_ok (cx : zv_CX p l R s args m meth c M D g ba ak adV n0 s0 hE) {ix r : Nat} {w : zv_V} (hi : zv_lk M.2.1 pc = some (.putfield ix)) {go : zv_G} (hgo : ∀ pc ls st h, go pc ls st h = some (rv, hE) → zv_ok p l e R s m args below meth c Q M D g ba ak n0 s0 hE pc ls st h) (hr : zv_pf go pc ls st h r w (zv_lk M.2.2.2.1 ix) = some (rv, hE)) : zv_ok p l e R s m args below meth c Q M D g ba ak n0 s0 hE pc ls (w :: zv_r r :: st) h := by
  unfold zv_pf at hr
  cases hf : zv_lk M.2.2.2.1 ix with
  | none => rw [hf] at hr; cases hr
  | some f =>
    rw [hf] at hr
    dsimp only at hr
    rcases cx.2.2.2.2.2.2.2.1 ix f hf with ⟨h4, w0⟩ | ⟨h5, w0⟩ | ⟨C, T, N, ty, hCF, hk, hl, hfin0⟩
    · rw [h4] at hr
      rcases w with x | x | x <;> cases hr
    · rw [h5] at hr
      rcases w with x | x | x <;> cases hr
    have hfin : (T f.2.1).2.2.2 = true → Cond.fieldLink M.1.1 ix C (T f.2.1).2.1 (T f.2.1).2.2.1 ∈ zv_tb ∧ meth.name = "<init>" ∧ C = M.1.1 := fun q => ⟨(hfin0 pc hi q).1, cx.2.2.1 (hfin0 pc hi q).2.1, (hfin0 pc hi q).2.2⟩
    have hdg := zv_dg cx hi rfl
    have htk := hCF.2.2.2.2.2.2 f.2.1 hk
    have hsz := cx.2.2.2.1
    generalize hft : zv_ft f.1 f.2.1 = ft at hr htk
    split at hr
    · obtain ⟨h', hv, hg⟩ := Option.bind_eq_some_iff.mp hr
      unfold zv_pI at hv
      split at hv <;> cases hv
      rename_i v ho
      refine ⟨(hgo _ _ _ _ hg).1, fun H locs cells slots lsR a1 a0 a2 a3 a4 a5 a6 a7 => ?_⟩
      refine zv_put_ok (h' := zv_sI h r f.2.1 v) (v := .int (Int32.ofInt v)) cx.1.1 cx.1.2.1 cx.1.2.2.2.2 cx.2.1.2.1 cx.1.2.2.2.1 cx.2.1.1 a3 a4 (by omega) hCF hk hl hfin ho (by rw [show ty f.2.1 = .int from htk]; rfl) (by rw [show ty f.2.1 = .int from htk]; rfl) ?_ (fun j hj => ?_) (fun q hq => zv_el_sI hq) rfl (zv_hg_sI a3.2.2.1 (zv_fa a2).1) hdg (fun H1 locs1 b1 b2 => (hgo _ _ _ _ hg).2 H1 locs1 cells slots lsR a1 a0 (zv_fa (zv_fa a2).2).2 b1 b2 a5 a6 a7)
      · unfold zv_fv
        rw [hft, zv_I_sI, if_pos ⟨rfl, rfl⟩]; try rfl
      · unfold zv_fv
        rw [zv_I_sI, if_neg (fun z => hj z.2)]
        rfl
    · obtain ⟨h', hv, hg⟩ := Option.bind_eq_some_iff.mp hr
      unfold zv_pZ at hv
      split at hv <;> cases hv
      rename_i v ho
      refine ⟨(hgo _ _ _ _ hg).1, fun H locs cells slots lsR a1 a0 a2 a3 a4 a5 a6 a7 => ?_⟩
      refine zv_put_ok (h' := zv_sI h r f.2.1 v) (v := .int (Int32.ofInt v)) cx.1.1 cx.1.2.1 cx.1.2.2.2.2 cx.2.1.2.1 cx.1.2.2.2.1 cx.2.1.1 a3 a4 (by omega) hCF hk hl hfin ho.1 (by rw [show ty f.2.1 = .boolean from htk]; rcases ho.2 with q | q <;> rw [q] <;> rfl) (by rw [show ty f.2.1 = .boolean from htk]; rcases ho.2 with q | q <;> rw [q] <;> rfl) ?_ (fun j hj => ?_) (fun q hq => zv_el_sI hq) rfl (zv_hg_sI a3.2.2.1 (zv_fa a2).1) hdg (fun H1 locs1 b1 b2 => (hgo _ _ _ _ hg).2 H1 locs1 cells slots lsR a1 a0 (zv_fa (zv_fa a2).2).2 b1 b2 a5 a6 a7)
      · unfold zv_fv
        rw [hft, zv_I_sI, if_pos ⟨rfl, rfl⟩]; try rfl
      · unfold zv_fv
        rw [zv_I_sI, if_neg (fun z => hj z.2)]
        rfl
    · obtain ⟨h', hv, hg⟩ := Option.bind_eq_some_iff.mp hr
      unfold zv_pJ at hv
      split at hv <;> cases hv
      rename_i v ho
      refine ⟨(hgo _ _ _ _ hg).1, fun H locs cells slots lsR a1 a0 a2 a3 a4 a5 a6 a7 => ?_⟩
      refine zv_put_ok (h' := zv_sJ h r f.2.1 v) (v := .long v) cx.1.1 cx.1.2.1 cx.1.2.2.2.2 cx.2.1.2.1 cx.1.2.2.2.1 cx.2.1.1 a3 a4 (by omega) hCF hk hl hfin ho (by rw [show ty f.2.1 = .long from htk]; rfl) (by rw [show ty f.2.1 = .long from htk]; rfl) ?_ (fun j hj => ?_) (fun q hq => zv_el_sJ hq) rfl a3.2.2.1 hdg (fun H1 locs1 b1 b2 => (hgo _ _ _ _ hg).2 H1 locs1 cells slots lsR a1 a0 (zv_fa (zv_fa a2).2).2 b1 b2 a5 a6 a7)
      · unfold zv_fv
        rw [hft, zv_J_sJ, if_pos ⟨rfl, rfl⟩]; try rfl
      · unfold zv_fv
        rw [zv_J_sJ, if_neg (fun z => hj z.2)]
        rfl
    · obtain ⟨h', hv, hg⟩ := Option.bind_eq_some_iff.mp hr
      unfold zv_pR at hv
      split at hv <;> cases hv
      rename_i v ho
      refine ⟨(hgo _ _ _ _ hg).1, fun H locs cells slots lsR a1 a0 a2 a3 a4 a5 a6 a7 => ?_⟩
      refine zv_put_ok (h' := zv_sR h r f.2.1 v) (v := va_rf (zv_ad ba ak v)) cx.1.1 cx.1.2.1 cx.1.2.2.2.2 cx.2.1.2.1 cx.1.2.2.2.1 cx.2.1.1 a3 a4 (by omega) hCF hk hl hfin ho (zv_fits_r htk v).1 (zv_fits_r htk v).2 ?_ (fun j hj => ?_) (fun q hq => zv_el_sR hq) rfl a3.2.2.1 hdg (fun H1 locs1 b1 b2 => (hgo _ _ _ _ hg).2 H1 locs1 cells slots lsR a1 a0 (zv_fa (zv_fa a2).2).2 b1 b2 a5 a6 a7)
      · unfold zv_fv
        rw [hft, zv_R_sR, if_pos ⟨rfl, rfl⟩]; try rfl
      · unfold zv_fv
        rw [zv_R_sR, if_neg (fun z => hj z.2)]
        rfl
    · cases hr
theorem zv_lay_le (r : Nat) : (zv_lay r).1 ≤ 6 := by
  rcases Nat.lt_or_ge r 373 with q | q
  · have : ∀ r, r < 373 → (zv_lay r).1 ≤ 6 := by decide +kernel
    exact this r q
  · by_cases z : (zv_lay r).1 = 0
    · omega
    · have := zv_lay_lt z
      omega
theorem zv_lay_big : (zv_lay 2000000).1 = 0 := by
  by_cases z : (zv_lay 2000000).1 = 0
  · exact z
  · have := zv_lay_lt z
    omega
theorem zv_al_ok (cx : zv_CX p l R s args m meth c M D g ba ak adV n0 s0 hE) {r : Nat} (hi : zv_lk M.2.1 pc = some .arraylength) {go : zv_G} (hgo : ∀ pc ls st h, go pc ls st h = some (rv, hE) → zv_ok p l e R s m args below meth c Q M D g ba ak n0 s0 hE pc ls st h) (hr : ((zv_al h r).bind fun v => go (pc + 1) ls (zv_i v :: st) h) = some (rv, hE)) : zv_ok p l e R s m args below meth c Q M D g ba ak n0 s0 hE pc ls (zv_r r :: st) h := by
  obtain ⟨v, hv, hg⟩ := Option.bind_eq_some_iff.mp hr
  have hdg := zv_dg cx hi rfl
  refine ⟨(hgo _ _ _ _ hg).1, fun H locs cells slots lsR a1 a0 a2 a3 a4 a5 a6 a7 => ?_⟩
  unfold zv_al at hv
  split at hv
  · rename_i q
    cases hv
    subst q
    have hl : zv_rg (zv_L h) := by
      obtain ⟨_, -, -, b3, -⟩ := a7
      unfold zv_rg
      omega
    exact zv_slen_ok cx.1.1 cx.1.2.1 a7 a4 hdg ((hgo _ _ _ _ hg).2 H locs cells slots lsR a1 a0 (zv_fc hl (zv_fa a2).2) a3 a4 a5 a6 a7)
  · split at hv
    · rename_i ho
      cases hv
      obtain ⟨k, rfl⟩ := Nat.exists_eq_add_of_le ho.1
      have hrgl : ∀ k, k < 24 → (zv_txt.getD k []).length < 100 ∧ zv_sl.getD k 0 = (zv_txt.getD k []).length := by decide +kernel
      have hk := hrgl k (by omega)
      rw [show 1000100 + k - 1000100 = k by omega] at hg
      have kk := (hgo _ _ _ _ hg).2 H locs cells slots lsR a1 a0 (zv_fc (by unfold zv_vg zv_rg; dsimp only; omega) (zv_fa a2).2) a3 a4 a5 a6 a7
      show W p l e R s m args below meth c H locs cells slots Q (F0 m pc lsR (va_rf (zv_ad ba ak (1000100 + k)) :: st.map (zv_cv ba ak)))
      rw [show 1000100 + k = 1000000 + (k + 100) by omega, zv_ad_t, show 1000000 + (k + 100) = 1000100 + k by omega]
      obtain ⟨cell, t1, t2, t3, t4, t5, t6, t7⟩ := (cx.2.1.2.2.2.2.1.1 k (by omega)).2.2.2
      refine W.alen (n := Int32.ofNat (zv_sl.getD k 0)) cx.1.1 cx.1.2.1 (by rw [a4.2.1 _ (Array.getElem?_eq_some_iff.mp t1).1 t7]; exact t1) t2 t5 rfl rfl hdg ?_
      rw [hk.2]
      exact kk
    split at hv <;> cases hv
    rename_i ho
    have hl : ∀ r, r < 373 → (zv_lay r).2 < 20000 := by decide +kernel
    have hlt := hl r (zv_lay_lt (by omega))
    exact zv_alen_ok cx.1.1 cx.1.2.1 cx.2.1.1 a3 ho (zv_lay_le r) hdg ((hgo _ _ _ _ hg).2 H locs cells slots lsR a1 a0 (zv_fc (by unfold zv_vg zv_rg; dsimp only; omega) (zv_fa a2).2) a3 a4 a5 a6 a7)
theorem zv_aI_ok (cx : zv_CX p l R s args m meth c M D g ba ak adV n0 s0 hE) {r : Nat} {j : Int} (hi : zv_lk M.2.1 pc = some .iaload) {go : zv_G} (hgo : ∀ pc ls st h, go pc ls st h = some (rv, hE) → zv_ok p l e R s m args below meth c Q M D g ba ak n0 s0 hE pc ls st h) (hr : ((zv_aI h r j).bind fun v => go (pc + 1) ls (zv_i v :: st) h) = some (rv, hE)) : zv_ok p l e R s m args below meth c Q M D g ba ak n0 s0 hE pc ls (zv_i j :: zv_r r :: st) h := by
  obtain ⟨v, hv, hg⟩ := Option.bind_eq_some_iff.mp hr
  have hdg := zv_dg cx hi rfl
  refine ⟨(hgo _ _ _ _ hg).1, fun H locs cells slots lsR a1 a0 a2 a3 a4 a5 a6 a7 => ?_⟩
  unfold zv_aI at hv
  split at hv
  · rename_i q
    split at hv <;> cases hv
    subst q
    rename_i ho
    exact zv_sld_ok cx.1.1 cx.1.2.1 a7 a4 (zv_fa a2).1 ho hdg (fun hrg => (hgo _ _ _ _ hg).2 H locs cells slots lsR a1 a0 (zv_fc hrg (zv_fa (zv_fa a2).2).2) a3 a4 a5 a6 a7)
  · split at hv <;> cases hv
    rename_i ho
    exact zv_iald_ok cx.1.1 cx.1.2.1 cx.2.1.1 a3 (zv_fa a2).1 ho hdg ((hgo _ _ _ _ hg).2 H locs cells slots lsR a1 a0 (zv_fc (a3.2.2.1 _ _) (zv_fa (zv_fa a2).2).2) a3 a4 a5 a6 a7)
theorem zv_aB_ok (cx : zv_CX p l R s args m meth c M D g ba ak adV n0 s0 hE) {r : Nat} {j : Int} (hi : zv_lk M.2.1 pc = some .baload) {go : zv_G} (hgo : ∀ pc ls st h, go pc ls st h = some (rv, hE) → zv_ok p l e R s m args below meth c Q M D g ba ak n0 s0 hE pc ls st h) (hr : ((zv_aB h r j).bind fun v => go (pc + 1) ls (zv_i v :: st) h) = some (rv, hE)) : zv_ok p l e R s m args below meth c Q M D g ba ak n0 s0 hE pc ls (zv_i j :: zv_r r :: st) h := by
  obtain ⟨v, hv, hg⟩ := Option.bind_eq_some_iff.mp hr
  have hdg := zv_dg cx hi rfl
  refine ⟨(hgo _ _ _ _ hg).1, fun H locs cells slots lsR a1 a0 a2 a3 a4 a5 a6 a7 => ?_⟩
  unfold zv_aB at hv
  split at hv
  · rename_i ho
    by_cases hj : 0 ≤ j ∧ j < ((zv_txt.getD (r - 1000100) []).length : Int)
    case neg =>
      rw [if_neg hj] at hv
      cases hv
    rw [if_pos hj] at hv
    have hv := Option.some.inj hv
    rw [← hv] at hg
    obtain ⟨k, rfl⟩ := Nat.exists_eq_add_of_le ho.1
    have hrgl : ∀ k, k < 24 → zv_sl.getD k 0 = (zv_txt.getD k []).length ∧ (zv_txt.getD k []).length < 100 := by decide +kernel
    have hbyt : ∀ k, k < 24 → ∀ j, j < 100 → (zv_sb.getD k []).getD j 0 = Int32.ofInt ((zv_txt.getD k []).getD j 0) ∧ (0 ≤ (zv_txt.getD k []).getD j 0 ∧ (zv_txt.getD k []).getD j 0 < 256) := by decide +kernel
    have hk := hrgl k (by omega)
    rw [show 1000100 + k - 1000100 = k by omega] at hg hj
    have hb := hbyt k (by omega) j.toNat (by omega)
    have kk := (hgo _ _ _ _ hg).2 H locs cells slots lsR a1 a0 (zv_fc (by unfold zv_vg zv_rg; dsimp only; omega) (zv_fa (zv_fa a2).2).2) a3 a4 a5 a6 a7
    show W p l e R s m args below meth c H locs cells slots Q (F0 m pc lsR (.int (Int32.ofInt j) :: va_rf (zv_ad ba ak (1000100 + k)) :: st.map (zv_cv ba ak)))
    rw [show 1000100 + k = 1000000 + (k + 100) by omega, zv_ad_t, show 1000000 + (k + 100) = 1000100 + k by omega]
    obtain ⟨cell, t1, t2, t3, t4, t5, t6, t7⟩ := (cx.2.1.2.2.2.2.1.1 k (by omega)).2.2.2
    have hjr : zv_rg j := (zv_fa a2).1
    have hcl := zv_clamp hjr hj.1
    refine W.bald (v := .int (Int32.ofInt ((zv_txt.getD k []).getD j.toNat 0))) cx.1.1 cx.1.2.1 (by rw [a4.2.1 _ (Array.getElem?_eq_some_iff.mp t1).1 t7]; exact t1) t2 t3 (by rw [zv_lt0 hjr, hcl]; omega) (by rw [hcl, t6 _ (by omega)]; exact congrArg (fun z => some (Value.int z)) hb.1) rfl rfl hdg kk
  split at hv <;> cases hv
  rename_i ho
  exact zv_bald_ok cx.1.1 cx.1.2.1 cx.2.1.1 a3 (zv_fa a2).1 ho hdg ((hgo _ _ _ _ hg).2 H locs cells slots lsR a1 a0 (zv_fc (a3.2.2.1 _ _) (zv_fa (zv_fa a2).2).2) a3 a4 a5 a6 a7)
theorem zv_aJ_ok (cx : zv_CX p l R s args m meth c M D g ba ak adV n0 s0 hE) {r : Nat} {j : Int} (hi : zv_lk M.2.1 pc = some .laload) {go : zv_G} (hgo : ∀ pc ls st h, go pc ls st h = some (rv, hE) → zv_ok p l e R s m args below meth c Q M D g ba ak n0 s0 hE pc ls st h) (hr : ((zv_aJ h r j).bind fun v => go (pc + 1) ls (zv_j v :: st) h) = some (rv, hE)) : zv_ok p l e R s m args below meth c Q M D g ba ak n0 s0 hE pc ls (zv_i j :: zv_r r :: st) h := by
  obtain ⟨v, hv, hg⟩ := Option.bind_eq_some_iff.mp hr
  have hdg := zv_dg cx hi rfl
  refine ⟨(hgo _ _ _ _ hg).1, fun H locs cells slots lsR a1 a0 a2 a3 a4 a5 a6 a7 => ?_⟩
  unfold zv_aJ at hv
  split at hv <;> cases hv
  rename_i ho
  exact zv_lald_ok cx.1.1 cx.1.2.1 cx.2.1.1 a3 (zv_fa a2).1 ho hdg ((hgo _ _ _ _ hg).2 H locs cells slots lsR a1 a0 (zv_fc trivial (zv_fa (zv_fa a2).2).2) a3 a4 a5 a6 a7)
theorem zv_aR_ok (cx : zv_CX p l R s args m meth c M D g ba ak adV n0 s0 hE) {r : Nat} {j : Int} (hi : zv_lk M.2.1 pc = some .aaload) {go : zv_G} (hgo : ∀ pc ls st h, go pc ls st h = some (rv, hE) → zv_ok p l e R s m args below meth c Q M D g ba ak n0 s0 hE pc ls st h) (hr : ((zv_aR h r j).bind fun v => go (pc + 1) ls (zv_r v :: st) h) = some (rv, hE)) : zv_ok p l e R s m args below meth c Q M D g ba ak n0 s0 hE pc ls (zv_i j :: zv_r r :: st) h := by
  obtain ⟨v, hv, hg⟩ := Option.bind_eq_some_iff.mp hr
  have hdg := zv_dg cx hi rfl
  refine ⟨(hgo _ _ _ _ hg).1, fun H locs cells slots lsR a1 a0 a2 a3 a4 a5 a6 a7 => ?_⟩
  unfold zv_aR at hv
  split at hv <;> cases hv
  rename_i ho
  exact zv_aald_ok cx.1.1 cx.1.2.1 cx.2.1.1 a3 (zv_fa a2).1 ho hdg ((hgo _ _ _ _ hg).2 H locs cells slots lsR a1 a0 (zv_fc trivial (zv_fa (zv_fa a2).2).2) a3 a4 a5 a6 a7)
theorem zv_wI_ok (cx : zv_CX p l R s args m meth c M D g ba ak adV n0 s0 hE) {r : Nat} {j v : Int} (hi : zv_lk M.2.1 pc = some .iastore) {go : zv_G} (hgo : ∀ pc ls st h, go pc ls st h = some (rv, hE) → zv_ok p l e R s m args below meth c Q M D g ba ak n0 s0 hE pc ls st h) (hr : ((zv_wI h r j v).bind fun h' => go (pc + 1) ls st h') = some (rv, hE)) : zv_ok p l e R s m args below meth c Q M D g ba ak n0 s0 hE pc ls (zv_i v :: zv_i j :: zv_r r :: st) h := by
  obtain ⟨h', hv, hg⟩ := Option.bind_eq_some_iff.mp hr
  have hdg := zv_dg cx hi rfl
  have hsz := cx.2.2.2.1
  unfold zv_wI at hv
  split at hv <;> cases hv
  rename_i ho
  refine ⟨(hgo _ _ _ _ hg).1, fun H locs cells slots lsR a1 a0 a2 a3 a4 a5 a6 a7 => ?_⟩
  exact zv_iast_ok cx.1.1 cx.1.2.1 cx.2.1.1 a3 a4 (by omega) (zv_fa (zv_fa a2).2).1 (zv_fa a2).1 ho hdg (fun H1 locs1 b1 b2 => (hgo _ _ _ _ hg).2 H1 locs1 cells slots lsR a1 a0 (zv_fa (zv_fa (zv_fa a2).2).2).2 b1 b2 a5 a6 a7)
theorem zv_wB_ok (cx : zv_CX p l R s args m meth c M D g ba ak adV n0 s0 hE) {r : Nat} {j v : Int} (hi : zv_lk M.2.1 pc = some .bastore) {go : zv_G} (hgo : ∀ pc ls st h, go pc ls st h = some (rv, hE) → zv_ok p l e R s m args below meth c Q M D g ba ak n0 s0 hE pc ls st h) (hr : ((zv_wB h r j v).bind fun h' => go (pc + 1) ls st h') = some (rv, hE)) : zv_ok p l e R s m args below meth c Q M D g ba ak n0 s0 hE pc ls (zv_i v :: zv_i j :: zv_r r :: st) h := by
  obtain ⟨h', hv, hg⟩ := Option.bind_eq_some_iff.mp hr
  have hdg := zv_dg cx hi rfl
  have hsz := cx.2.2.2.1
  unfold zv_wB at hv
  split at hv
  · rename_i ho
    have hv := Option.some.inj hv
    rw [← hv] at hg
    refine ⟨(hgo _ _ _ _ hg).1, fun H locs cells slots lsR a1 a0 a2 a3 a4 a5 a6 a7 => ?_⟩
    exact zv_bast_ok cx.1.1 cx.1.2.1 cx.2.1.1 a3 a4 (by omega) (zv_fa (zv_fa a2).2).1 ho hdg (fun H1 locs1 b1 b2 => (hgo _ _ _ _ hg).2 H1 locs1 cells slots lsR a1 a0 (zv_fa (zv_fa (zv_fa a2).2).2).2 b1 b2 a5 a6 a7)
  · cases hv
theorem zv_wJ_ok (cx : zv_CX p l R s args m meth c M D g ba ak adV n0 s0 hE) {r : Nat} {j : Int} {v : Int64} (hi : zv_lk M.2.1 pc = some .lastore) {go : zv_G} (hgo : ∀ pc ls st h, go pc ls st h = some (rv, hE) → zv_ok p l e R s m args below meth c Q M D g ba ak n0 s0 hE pc ls st h) (hr : ((zv_wJ h r j v).bind fun h' => go (pc + 1) ls st h') = some (rv, hE)) : zv_ok p l e R s m args below meth c Q M D g ba ak n0 s0 hE pc ls (zv_j v :: zv_i j :: zv_r r :: st) h := by
  obtain ⟨h', hv, hg⟩ := Option.bind_eq_some_iff.mp hr
  have hdg := zv_dg cx hi rfl
  have hsz := cx.2.2.2.1
  unfold zv_wJ at hv
  split at hv <;> cases hv
  rename_i ho
  refine ⟨(hgo _ _ _ _ hg).1, fun H locs cells slots lsR a1 a0 a2 a3 a4 a5 a6 a7 => ?_⟩
  exact zv_last_ok cx.1.1 cx.1.2.1 cx.2.1.1 a3 a4 (by omega) (zv_fa (zv_fa a2).2).1 ho hdg (fun H1 locs1 b1 b2 => (hgo _ _ _ _ hg).2 H1 locs1 cells slots lsR a1 a0 (zv_fa (zv_fa (zv_fa a2).2).2).2 b1 b2 a5 a6 a7)
theorem zv_wR_ok (cx : zv_CX p l R s args m meth c M D g ba ak adV n0 s0 hE) {r : Nat} {j : Int} {v : Nat} (hi : zv_lk M.2.1 pc = some .aastore) {go : zv_G} (hgo : ∀ pc ls st h, go pc ls st h = some (rv, hE) → zv_ok p l e R s m args below meth c Q M D g ba ak n0 s0 hE pc ls st h) (hr : ((zv_wR h r j v).bind fun h' => go (pc + 1) ls st h') = some (rv, hE)) : zv_ok p l e R s m args below meth c Q M D g ba ak n0 s0 hE pc ls (zv_r v :: zv_i j :: zv_r r :: st) h := by
  obtain ⟨h', hv, hg⟩ := Option.bind_eq_some_iff.mp hr
  have hdg := zv_dg cx hi rfl
  have hsz := cx.2.2.2.1
  unfold zv_wR at hv
  split at hv <;> cases hv
  rename_i ho
  refine ⟨(hgo _ _ _ _ hg).1, fun H locs cells slots lsR a1 a0 a2 a3 a4 a5 a6 a7 => ?_⟩
  exact zv_aast_ok cx.1.1 cx.1.2.1 cx.2.1.1 a3 a4 (by omega) (zv_fa (zv_fa a2).2).1 ho hdg (fun H1 locs1 b1 b2 => (hgo _ _ _ _ hg).2 H1 locs1 cells slots lsR a1 a0 (zv_fa (zv_fa (zv_fa a2).2).2).2 b1 b2 a5 a6 a7)
end ZSND
end
section
/-! new cells, constants, calls -/
section ZSND
variable {p : Program} {l : Launch} {e : Env} {R : Room} {s : State} {m : MethodId} {args : Array Value} {below : List Frame} {meth : Method} {c : Code} {Q : State → Prop} {M : zv_M} {D : va_G} {g : Nat → ClassId} {ba : Nat} {ak adV : Nat → Nat} {n0 s0 : Nat} {rv : Option zv_V} {hE : zv_H}
variable {pc : Nat} {ls : zv_Ls} {st : List zv_V} {h : zv_H}
theorem zv_nw_ok (cx : zv_CX p l R s args m meth c M D g ba ak adV n0 s0 hE) {ix : Nat} (hi : zv_lk M.2.1 pc = some (.new ix)) {go : zv_G} (hgo : ∀ pc ls st h, go pc ls st h = some (rv, hE) → zv_ok p l e R s m args below meth c Q M D g ba ak n0 s0 hE pc ls st h) (hr : zv_nw go pc ls st h (zv_lk M.2.2.2.2.2.2.2.2 ix) = some (rv, hE)) : zv_ok p l e R s m args below meth c Q M D g ba ak n0 s0 hE pc ls st h := by
  unfold zv_nw at hr
  cases hf : zv_lk M.2.2.2.2.2.2.2.2 ix with
  | none => rw [hf] at hr; cases hr
  | some ci =>
    rw [hf] at hr
    dsimp only at hr
    obtain ⟨C, T, N, ty, hCF, w1, w2, w3⟩ := cx.2.2.2.2.2.2.2.2.2.2.2.1 ix ci hf
    have hdg := zv_dg cx hi rfl
    have hsz := cx.2.2.2.1
    have hb1 := cx.2.2.2.2.1
    have hb2 := cx.2.2.2.2.2.1
    obtain ⟨h', hv, hg⟩ := Option.bind_eq_some_iff.mp hr
    unfold zv_nO at hv
    split at hv <;> cases hv
    rename_i ho
    have hm := (hgo _ _ _ _ hg).1
    have hm1 := hm.1
    have hm2 := hm.2.1
    rw [zv_n_mk] at hm1
    rw [zv_s_mk] at hm2
    refine ⟨⟨by omega, by omega, hm.2.2⟩, fun H locs cells slots lsR a1 a0 a2 a3 a4 a5 a6 a7 => ?_⟩
    exact zv_new_ok cx.1.1 cx.1.2.1 cx.1.2.2.2.2 cx.1.2.2.2.1 cx.2.1.1 a3 a4 (by omega) hCF w1 w2 w3 ho (by omega) (by omega) hdg (fun H1 b1 b2 => (hgo _ _ _ _ hg).2 H1 locs (cells + 1) (slots + zv_nf ci) lsR a1 a0 (zv_fc trivial a2) b1 b2 (by rw [zv_n_mk]; omega) (by rw [zv_s_mk]; omega) a7)
theorem zv_nA_ok (cx : zv_CX p l R s args m meth c M D g ba ak adV n0 s0 hE) {at' : ArrayType} {ty : FieldType} (hat : newarray.typeOf at' = ty) (hw : Cond.arrayClass (newarray.typeOf at') ∈ zv_tb) {kd : Nat} (hkd : ¬ kd = 0) {x : Int} {t0 : Nat} {cA : ClassId} (ht : (zv_tys g)[t0]? = some (cA, ty)) (hnm : ∀ C, ¬ ty = .object C) (hbyt : componentBytes ty ≤ 8)
    (hel : ∀ h : zv_H, zv_lay (zv_n h + 1) = (kd, x.toNat) → ∃ a0 : vp_A, zv_el g ba ak (zv_mk h x.toNat) (zv_n h + 1) = .inl (cA, a0) ∧ ∀ cA : ClassId, vp_cell cA a0 = arrV cA x.toNat (fun _ => defaultValue ty))
    (hi : zv_lk M.2.1 pc = some (.newarray at')) {go : zv_G} (hgo : ∀ pc ls st h, go pc ls st h = some (rv, hE) → zv_ok p l e R s m args below meth c Q M D g ba ak n0 s0 hE pc ls st h) (hr : ((zv_nA h kd x).bind fun h' => go (pc + 2) ls (zv_r (zv_n h + 1) :: st) h') = some (rv, hE)) : zv_ok p l e R s m args below meth c Q M D g ba ak n0 s0 hE pc ls (zv_i x :: st) h := by
  obtain ⟨h', hv, hg⟩ := Option.bind_eq_some_iff.mp hr
  have hdg := zv_dg cx hi rfl
  have hsz := cx.2.2.2.1
  have hb1 := cx.2.2.2.2.1
  have hb2 := cx.2.2.2.2.2.1
  unfold zv_nA at hv
  split at hv <;> cases hv
  rename_i ho
  have hm := (hgo _ _ _ _ hg).1
  have hm1 := hm.1
  have hm2 := hm.2.1
  rw [zv_n_mk] at hm1
  rw [zv_s_mk] at hm2
  obtain ⟨a0', he1, he2⟩ := hel h ho.2
  refine ⟨⟨by omega, by omega, hm.2.2⟩, fun H locs cells slots lsR a1 a0 a2 a3 a4 a5 a6 a7 => ?_⟩
  exact zv_newa_ok cx.1.1 cx.1.2.1 hat (cx.1.2.2.2.2 _ hw) cx.2.1.1 a3 a4 (by omega) ho.1 ho.2 hkd ht hnm he1 he2 hbyt (by omega) (by omega) hdg (fun H1 b1 b2 => (hgo _ _ _ _ hg).2 H1 locs (cells + 1) (slots + x.toNat) lsR a1 a0 (zv_fc trivial (zv_fa a2).2) b1 b2 (by rw [zv_n_mk]; omega) (by rw [zv_s_mk]; omega) a7)
theorem zv_mk_I (h : zv_H) (w : Nat) : (fun j => Int32.ofInt (zv_I (zv_mk h w) (zv_n h + 1) j)) = fun _ => 0 := by
  funext j
  rw [zv_I_mk, if_pos rfl]
  rfl
theorem zv_mk_J (h : zv_H) (w : Nat) : (fun j => zv_J (zv_mk h w) (zv_n h + 1) j) = fun _ => 0 := by
  funext j
  rw [zv_J_mk, if_pos rfl]
theorem zv_an_ok (cx : zv_CX p l R s args m meth c M D g ba ak adV n0 s0 hE) {ix : Nat} {x : Int} (hi : zv_lk M.2.1 pc = some (.anewarray ix)) {go : zv_G} (hgo : ∀ pc ls st h, go pc ls st h = some (rv, hE) → zv_ok p l e R s m args below meth c Q M D g ba ak n0 s0 hE pc ls st h) (hr : zv_an go pc ls st h x (zv_lk M.2.2.2.2.2.2.2.2 ix) = some (rv, hE)) : zv_ok p l e R s m args below meth c Q M D g ba ak n0 s0 hE pc ls (zv_i x :: st) h := by
  unfold zv_an at hr
  cases hf : zv_lk M.2.2.2.2.2.2.2.2 ix with
  | none => rw [hf] at hr; cases hr
  | some ci =>
    rw [hf] at hr
    dsimp only at hr
    split at hr
    · rename_i hci
      subst hci
      obtain ⟨C, T, N, ty, hCF, w1, w2, w3⟩ := cx.2.2.2.2.2.2.2.2.2.2.2.1 ix 5 hf
      have hdg := zv_dg cx hi rfl
      have hsz := cx.2.2.2.1
      have hb1 := cx.2.2.2.2.1
      have hb2 := cx.2.2.2.2.2.1
      obtain ⟨h', hv, hg⟩ := Option.bind_eq_some_iff.mp hr
      unfold zv_nA at hv
      split at hv <;> cases hv
      rename_i ho
      have hm := (hgo _ _ _ _ hg).1
      have hm1 := hm.1
      have hm2 := hm.2.1
      rw [zv_n_mk] at hm1
      rw [zv_s_mk] at hm2
      have hC : C = "BranchedText$State" := by
        have := Option.some.inj ((show vwCl[5]? = some (RX5, TX5, 18) from rfl).symm.trans hCF.1)
        exact (congrArg Prod.fst this).symm
      subst hC
      refine ⟨⟨by omega, by omega, hm.2.2⟩, fun H locs cells slots lsR a1 a0 a2 a3 a4 a5 a6 a7 => ?_⟩
      exact zv_newq_ok cx.1.1 cx.1.2.1 cx.1.2.2.2.1 cx.2.1.2.2.2.1 cx.2.1.1 a3 a4 (by omega) ho.1 (cx.1.2.2.2.2 _ w1) ho.2 (by omega) (by omega) hdg (fun H1 b1 b2 => (hgo _ _ _ _ hg).2 H1 locs (cells + 1) (slots + x.toNat) lsR a1 a0 (zv_fc trivial (zv_fa a2).2) b1 b2 (by rw [zv_n_mk]; omega) (by rw [zv_s_mk]; omega) a7)
    · cases hr
theorem zv_gs_ok (cx : zv_CX p l R s args m meth c M D g ba ak adV n0 s0 hE) {ix : Nat} (hi : zv_lk M.2.1 pc = some (.getstatic ix)) {go : zv_G} (hgo : ∀ pc ls st h, go pc ls st h = some (rv, hE) → zv_ok p l e R s m args below meth c Q M D g ba ak n0 s0 hE pc ls st h) (hr : zv_gs go pc ls st h (zv_lk M.2.2.2.2.2.1 ix) = some (rv, hE)) : zv_ok p l e R s m args below meth c Q M D g ba ak n0 s0 hE pc ls st h := by
  unfold zv_gs at hr
  cases hf : zv_lk M.2.2.2.2.2.1 ix with
  | none => rw [hf] at hr; cases hr
  | some v =>
    rw [hf] at hr
    dsimp only at hr
    obtain ⟨hv1, w⟩ := cx.2.2.2.2.2.2.2.2.2.2.2.2.2 ix v hf
    subst hv1
    have hdg := zv_dg cx hi rfl
    refine ⟨(hgo _ _ _ _ hr).1, fun H locs cells slots lsR a1 a0 a2 a3 a4 a5 a6 a7 => ?_⟩
    exact va_gets cx.1.1 cx.1.2.1 cx.2.1.2.2.2.2.2.2.1 a4 cx.1.2.2.2.1 (cx.1.2.2.2.2 _ w) (fun _ q => q) hdg ((hgo _ _ _ _ hr).2 H locs cells slots lsR a1 a0 (zv_fc (by unfold zv_vg zv_rg; dsimp only; omega) a2) a3 a4 a5 a6 a7)
theorem zv_ls_ok (cx : zv_CX p l R s args m meth c M D g ba ak adV n0 s0 hE) {ix : Nat} (hi : zv_lk M.2.1 pc = some (.ldc ix)) {go : zv_G} (hgo : ∀ pc ls st h, go pc ls st h = some (rv, hE) → zv_ok p l e R s m args below meth c Q M D g ba ak n0 s0 hE pc ls st h) (hr : zv_ls go pc ls st h (zv_lk M.2.2.2.2.2.2.2.1 ix) = some (rv, hE)) : zv_ok p l e R s m args below meth c Q M D g ba ak n0 s0 hE pc ls st h := by
  unfold zv_ls at hr
  cases hf : zv_lk M.2.2.2.2.2.2.2.1 ix with
  | none => rw [hf] at hr; cases hr
  | some k =>
    rw [hf] at hr
    dsimp only at hr
    obtain ⟨hk, h1, h2⟩ := cx.2.2.2.2.2.2.2.2.2.2.1 ix k hf
    have hdg := zv_dg cx hi rfl
    refine ⟨(hgo _ _ _ _ hr).1, fun H locs cells slots lsR a1 a0 a2 a3 a4 a5 a6 a7 => ?_⟩
    have hR := cx.2.1.2.2.2.2.2.1 k hk
    rw [h1, h2] at hR
    have kk := (hgo _ _ _ _ hr).2 H locs cells slots lsR a1 a0 (zv_fc trivial a2) a3 a4 a5 a6 a7
    rw [List.map_cons] at kk
    change W p l e R s m args below meth c H locs cells slots Q (F0 m (pc + 2) lsR (va_rf (zv_ad ba ak (1000000 + k)) :: _)) at kk
    rw [zv_ad_t] at kk
    exact va_ldcS cx.1.1 cx.1.2.1 cx.1.2.2.2.1 hR hdg kk
theorem zv_li_ok (cx : zv_CX p l R s args m meth c M D g ba ak adV n0 s0 hE) {ix : Nat} (hi : zv_lk M.2.1 pc = some (.ldc_w ix)) {go : zv_G} (hgo : ∀ pc ls st h, go pc ls st h = some (rv, hE) → zv_ok p l e R s m args below meth c Q M D g ba ak n0 s0 hE pc ls st h) (hr : zv_li go pc ls st h (zv_lk M.2.2.2.2.2.2.2.1 ix) = some (rv, hE)) : zv_ok p l e R s m args below meth c Q M D g ba ak n0 s0 hE pc ls st h := by
  unfold zv_li at hr
  cases hf : zv_lk M.2.2.2.2.2.2.2.1 ix with
  | none => rw [hf] at hr; cases hr
  | some k =>
    rw [hf] at hr
    dsimp only at hr
    obtain ⟨hk, h1, h2⟩ := cx.2.2.2.2.2.2.2.2.2.2.1 ix k hf
    have hdg := zv_dg cx hi rfl
    refine ⟨(hgo _ _ _ _ hr).1, fun H locs cells slots lsR a1 a0 a2 a3 a4 a5 a6 a7 => ?_⟩
    have hR := cx.2.1.2.2.2.2.2.1 k hk
    rw [h1, h2] at hR
    have kk := (hgo _ _ _ _ hr).2 H locs cells slots lsR a1 a0 (zv_fc trivial a2) a3 a4 a5 a6 a7
    rw [List.map_cons] at kk
    change W p l e R s m args below meth c H locs cells slots Q (F0 m (pc + 3) lsR (va_rf (zv_ad ba ak (1000000 + k)) :: _)) at kk
    rw [zv_ad_t] at kk
    intro T hT X
    obtain ⟨t, b1, b2⟩ := kk T hT X
    have hb := cx.1.2.1
    exact ⟨t, X.ldcStringW cx.1.1 cx.1.2.2.2.1 (text := zv_stx.getD k "") (a := ak (1000000 + k)) hR.1 hR.2 (g := F0 m pc lsR (st.map (zv_cv ba ak))) rfl (by rw [hb]; exact hdg) t b1, b2⟩
theorem zv_ll_ok (cx : zv_CX p l R s args m meth c M D g ba ak adV n0 s0 hE) {ix : Nat} (hi : zv_lk M.2.1 pc = some (.ldc2_w ix)) {go : zv_G} (hgo : ∀ pc ls st h, go pc ls st h = some (rv, hE) → zv_ok p l e R s m args below meth c Q M D g ba ak n0 s0 hE pc ls st h) (hr : zv_ll go pc ls st h (zv_lk M.2.2.2.2.2.2.1 ix) = some (rv, hE)) : zv_ok p l e R s m args below meth c Q M D g ba ak n0 s0 hE pc ls st h := by
  unfold zv_ll at hr
  cases hf : zv_lk M.2.2.2.2.2.2.1 ix with
  | none => rw [hf] at hr; cases hr
  | some v =>
    rw [hf] at hr
    dsimp only at hr
    have hw := cx.2.2.2.2.2.2.2.2.2.1 ix v hf
    have hdg := zv_dg cx hi rfl
    refine ⟨(hgo _ _ _ _ hr).1, fun H locs cells slots lsR a1 a0 a2 a3 a4 a5 a6 a7 => ?_⟩
    exact lv_ldc2 cx.1.1 cx.1.2.1 cx.1.2.2.2.1 (cx.1.2.2.2.2 _ hw) hdg ((hgo _ _ _ _ hr).2 H locs cells slots lsR a1 a0 (zv_fc trivial a2) a3 a4 a5 a6 a7)
theorem zv_oi_ok (cx : zv_CX p l R s args m meth c M D g ba ak adV n0 s0 hE) {ix : Nat} {en : Nat × (Nat × (Nat × Nat))} (hR : 1 ≤ R.frames ∧ 20 ≤ R.locals) (hi : zv_lk M.2.1 pc = some (.invokespecial ix)) (hf : zv_lk M.2.2.2.2.1 ix = some en) (h20 : en.2.1 = 20) {go : zv_G} (hgo : ∀ pc ls st h, go pc ls st h = some (rv, hE) → zv_ok p l e R s m args below meth c Q M D g ba ak n0 s0 hE pc ls st h) (hr : zv_oi go pc ls st h = some (rv, hE)) : zv_ok p l e R s m args below meth c Q M D g ba ak n0 s0 hE pc ls st h := by
  unfold zv_oi at hr
  split at hr
  · rename_i r st
    split at hr
    · cases hr
    · rename_i hwd
      split at hr
      · cases hr
      · rename_i hr0
        have hdg := zv_dg cx hi rfl
        rcases cx.2.2.2.2.2.2.2.2.1 ix en hf with ⟨-, w1, w2, w3⟩ | ⟨q, -⟩ | ⟨q, -⟩ | ⟨q, -⟩ | ⟨y, bytes, maxL, ret, -, -, -, -, -, q⟩
        · refine ⟨(hgo _ _ _ _ hr).1, fun H locs cells slots lsR a1 a0 a2 a3 a4 a5 a6 a7 => ?_⟩
          have hts := cx.1.2.2.2.2
          have kk := (hgo _ _ _ _ hr).2 H locs cells slots lsR a1 a0 (zv_fa a2).2 a3 a4 a5 a6 a7
          rcases zv_ad_cases ba ak r with ⟨z, -⟩ | ⟨a, z⟩
          · exact absurd z hr0
          · have hsum := zv_wd_sum ba ak st
            have hml := cx.1.2.2.1
            have hls := a1.1
            show W p l e R s m args below meth c H locs cells slots Q (F0 m pc lsR (va_rf (zv_ad ba ak r) :: st.map (zv_cv ba ak)))
            rw [z]
            exact W.objInit cx.1.1 cx.1.2.1 cx.1.2.2.2.1 (hts _ w1) (hts _ w2) (hts _ w3) (g := F0 m pc lsR (.ref a :: st.map (zv_cv ba ak))) rfl (by show lsR.size = _; omega) rfl hdg hR.1 (by show 2 * 0 + _ + 12 ≤ _; omega) kk
        · omega
        · omega
        · omega
        · rw [h20] at q
          exact q.elim
  · cases hr
theorem zv_cyS_ok (cx : zv_CX p l R s args m meth c M D g ba ak adV n0 s0 hE) {ix : Nat} {en : Nat × (Nat × (Nat × Nat))} (hR : 1 ≤ R.frames ∧ 8 + (nativeFrameWords "java/lang/System" "arraycopy" 5 + 11) ≤ R.locals) (hi : zv_lk M.2.1 pc = some (.invokestatic ix)) (hf : zv_lk M.2.2.2.2.1 ix = some en) (h21 : en.2.1 = 21) {go : zv_G} (hgo : ∀ pc ls st h, go pc ls st h = some (rv, hE) → zv_ok p l e R s m args below meth c Q M D g ba ak n0 s0 hE pc ls st h) (hr : zv_cyS go pc ls st h = some (rv, hE)) : zv_ok p l e R s m args below meth c Q M D g ba ak n0 s0 hE pc ls st h := by
  unfold zv_cyS at hr
  split at hr
  · rename_i n dp d sp sr st
    split at hr
    · cases hr
    · rename_i hwd
      obtain ⟨h', hv, hg⟩ := Option.bind_eq_some_iff.mp hr
      have hdg := zv_dg cx hi rfl
      have hsz := cx.2.2.2.1
      have hcp : zv_n h' = zv_n h ∧ zv_s h' = zv_s h ∧ h'.2.2.2.2 = h.2.2.2.2 := by
        unfold zv_cy at hv
        split at hv
        · cases hv
          exact ⟨rfl, rfl, rfl⟩
        · cases hv
      rcases cx.2.2.2.2.2.2.2.2.1 ix en hf with ⟨q, -⟩ | ⟨-, w1, w2, w3, w4⟩ | ⟨q, -⟩ | ⟨q, -⟩ | ⟨y, bytes, maxL, ret, -, -, -, -, -, q⟩
      · omega
      · have hm := (hgo _ _ _ _ hg).1
        refine ⟨⟨by rw [← hcp.1]; exact hm.1, by rw [← hcp.2.1]; exact hm.2.1, by rw [← hcp.2.2]; exact hm.2.2⟩, fun H locs cells slots lsR a1 a0 a2 a3 a4 a5 a6 a7 => ?_⟩
        have hts := cx.1.2.2.2.2
        have hsum := zv_wd_sum ba ak st
        have hml := cx.1.2.2.1
        have hls := a1.1
        have g1 := zv_fa a2
        have g2 := zv_fa g1.2
        have g3 := zv_fa g2.2
        have g4 := zv_fa g3.2
        have g5 := zv_fa g4.2
        have a7' : zv_SC ba ak s h' := by
          unfold zv_SC zv_L zv_X at a7 ⊢
          rw [hcp.2.2]
          exact a7
        exact zv_cy_ok cx.1.1 cx.1.2.1 (by omega) cx.1.2.2.2.1 (hts _ w1) (hts _ w2) (hts _ w3) (hts _ w4) cx.2.1.1 a3 a4 (by omega) g4.1 g2.1 g1.1 hv hR.1 (by omega) hdg (fun H1 locs1 b1 b2 => (hgo _ _ _ _ hg).2 H1 locs1 cells slots lsR a1 a0 g5.2 b1 b2 (by rw [hcp.1]; exact a5) (by rw [hcp.2.1]; exact a6) a7')
      · omega
      · omega
      · rw [h21] at q
        exact q.elim
  · cases hr
theorem zv_max_eq {x y : Int} (hx : zv_rg x) (hy : zv_rg y) : (if Int32.ofInt x < Int32.ofInt y then Int32.ofInt y else Int32.ofInt x) = Int32.ofInt (max x y) := by
  by_cases q : x < y
  · rw [if_pos ((zv_lt hx hy).mpr q), show max x y = y by omega]
  · rw [if_neg (fun z => q ((zv_lt hx hy).mp z)), show max x y = x by omega]
theorem zv_min_eq {x y : Int} (hx : zv_rg x) (hy : zv_rg y) : (if Int32.ofInt y < Int32.ofInt x then Int32.ofInt y else Int32.ofInt x) = Int32.ofInt (min x y) := by
  by_cases q : y < x
  · rw [if_pos ((zv_lt hy hx).mpr q), show min x y = y by omega]
  · rw [if_neg (fun z => q ((zv_lt hy hx).mp z)), show min x y = x by omega]
theorem zv_mx_ok (cx : zv_CX p l R s args m meth c M D g ba ak adV n0 s0 hE) {ix : Nat} {en : Nat × (Nat × (Nat × Nat))} (hR : 1 ≤ R.frames ∧ 30 ≤ R.locals) (hi : zv_lk M.2.1 pc = some (.invokestatic ix)) (hf : zv_lk M.2.2.2.2.1 ix = some en) {b : Bool} (hb : en.2.1 = bif b then 22 else 23) {go : zv_G} (hgo : ∀ pc ls st h, go pc ls st h = some (rv, hE) → zv_ok p l e R s m args below meth c Q M D g ba ak n0 s0 hE pc ls st h) (hr : zv_mx go pc ls st h b = some (rv, hE)) : zv_ok p l e R s m args below meth c Q M D g ba ak n0 s0 hE pc ls st h := by
  unfold zv_mx at hr
  split at hr
  · rename_i y x st
    split at hr
    · cases hr
    · rename_i hwd
      have hdg := zv_dg cx hi rfl
      have hts := cx.1.2.2.2.2
      have hsz := cx.2.2.2.1
      have hb1 := cx.2.2.2.2.1
      have hb2 := cx.2.2.2.2.2.1
      refine ⟨(hgo _ _ _ _ hr).1, fun H locs cells slots lsR a1 a0 a2 a3 a4 a5 a6 a7 => ?_⟩
      have g1 := zv_fa a2
      have g2 := zv_fa g1.2
      have hm := (hgo _ _ _ _ hr).1
      have hm1 := hm.1
      have hm2 := hm.2.1
      have hsum := zv_wd_sum ba ak st
      have hml := cx.1.2.2.1
      have hls := a1.1
      have hrg : zv_rg (bif b then max x y else min x y) := by
        have r1 : zv_rg y := g1.1
        have r2 : zv_rg x := g2.1
        unfold zv_rg at *
        cases b <;> dsimp only [cond] <;> omega
      have kk := (hgo _ _ _ _ hr).2 H locs cells slots lsR a1 a0 (zv_fc hrg g2.2) a3 a4 a5 a6 a7
      cases b with
      | true =>
        rcases cx.2.2.2.2.2.2.2.2.1 ix en hf with ⟨q, -⟩ | ⟨q, -⟩ | ⟨-, w⟩ | ⟨q, -⟩ | ⟨yy, bytes, maxL, ret, -, -, -, -, -, q⟩
        · rw [hb] at q; cases q
        · rw [hb] at q; cases q
        · exact va_mmax cx.1.1 cx.1.2.1 (by omega) cx.1.2.2.2.1 (hts _ w) (hts _ zv_wMx.1) (hts _ zv_wMx.2.1) (hts _ zv_wMx.2.2) hR.1 (by omega) (by omega) (by omega) hdg (by rw [zv_max_eq g2.1 g1.1]; exact kk)
        · rw [hb] at q; cases q
        · rw [hb] at q; exact q.elim
      | false =>
        rcases cx.2.2.2.2.2.2.2.2.1 ix en hf with ⟨q, -⟩ | ⟨q, -⟩ | ⟨q, -⟩ | ⟨-, w⟩ | ⟨yy, bytes, maxL, ret, -, -, -, -, -, q⟩
        · rw [hb] at q; cases q
        · rw [hb] at q; cases q
        · rw [hb] at q; cases q
        · exact va_mmin cx.1.1 cx.1.2.1 (by omega) cx.1.2.2.2.1 (hts _ w) (hts _ zv_wMn.1) (hts _ zv_wMn.2.1) (hts _ zv_wMn.2.2) hR.1 (by omega) (by omega) (by omega) hdg (by rw [zv_min_eq g2.1 g1.1]; exact kk)
        · rw [hb] at q; exact q.elim
  · cases hr
end ZSND
end
section
/-! calls -/
section ZSND
variable {p : Program} {l : Launch} {e : Env} {R : Room} {s : State} {m : MethodId} {args : Array Value} {below : List Frame} {meth : Method} {c : Code} {Q : State → Prop} {M : zv_M} {D : va_G} {g : Nat → ClassId} {ba : Nat} {ak adV : Nat → Nat} {n0 s0 : Nat} {rv : Option zv_V} {hE : zv_H}
variable {pc : Nat} {ls : zv_Ls} {st : List zv_V} {h : zv_H}
/-- behind a call -/
theorem zv_callk {H : Heap} {locs : List Loc} {cells slots mc ms : Nat} {lsR : Array Slot} {st0 rest : List Value} {a : Array Value} {o : Option zv_V} {h1 : zv_H} (hr : va_Run p l e R s m args below meth c H locs cells slots mc ms (F0 m pc lsR st0) rest (zv_Qc D g ba ak o h1 a) (zv_Ac ba)) (hS : va_S (zv_Ac ba) s.heap H locs)
    (kk : ∀ H1 locs1, zv_vs o → zv_RH D g ba ak h1 H1 → va_S (zv_Ac ba) s.heap H1 locs1 → W p l e R s m args below meth c H1 locs1 (cells + mc) (slots + ms) Q (F0 m (pc + 3) lsR ((o.map (zv_cv ba ak)).toList ++ rest))) : W p l e R s m args below meth c H locs cells slots Q (F0 m pc lsR st0) := by
  intro T hT X
  obtain ⟨v, st₀, t, T', L, h0, X', hL, e1, e2, ⟨hv, hvs, hRH, hz, hk⟩, stp⟩ := hr T hT X
  cases hv
  rw [h0] at hz hk
  obtain ⟨t2, a1, b1⟩ := kk T'.heap (locs ++ L) hvs (by rw [e1]; exact hRH)
    ⟨Nat.le_trans hS.1 (by rw [e1]; exact hz), fun q h1 h2 => by rw [e1, hk q (Nat.lt_of_lt_of_le h1 hS.1) h2]; exact hS.2.1 q h1 h2, fun q hq => by
      rcases List.mem_append.mp hq with h | h
      · exact hS.2.2 q h
      · exact hL q h⟩ T' rfl X'
  exact ⟨t2, stp t2 a1, b1⟩
theorem zv_ctx_ws {args : Array Value} {own : String} {ix : Nat} {en : Nat × (Nat × (Nat × Nat))} {y : MethodName} {bytes : ByteArray} {maxL : Nat} {ret : Option FieldType} (hv : zv_vC own ix en y bytes maxL ret) : ∀ w ∈ Cond.code y bytes maxL ret :: zv_tb, w ∈ zv_tb := fun w hw => by
  rcases List.mem_cons.mp hw with q | q
  · rw [q]; exact hv.1
  · exact q
/-- what the machine needs of a call, out of its contract -/
theorem zv_run_ok (cx : zv_CX p l R s args m meth c M D g ba ak adV n0 s0 hE) {d ix : Nat} {en : Nat × (Nat × (Nat × Nat))} {y : MethodName} {bytes : ByteArray} {maxL : Nat} {ret : Option FieldType} (hv : zv_vC M.1.1 ix en y bytes maxL ret) (hinf : zv_inf en.1 = some (y, (bytes, (maxL, ret)))) {as pre rest : List zv_V} {o : Option zv_V} {h1 : zv_H} (hcal : zv_cal l D g ba ak adV d en.1 as h o h1) (has : as = pre.reverse) (hlen : pre.length = en.2.2.1) (hwd : zv_wd rest ≤ 8) (hR1 : d + 9 ≤ R.frames) (hR2 : 60 * (d + 9) ≤ R.locals)
    (hi : (en.2.1 = 0 ∨ en.2.1 = 10) ∧ zv_lk M.2.1 pc = some (.invokevirtual ix) ∨ (en.2.1 = 2 ∨ en.2.1 = 12) ∧ zv_lk M.2.1 pc = some (.invokestatic ix) ∨ (en.2.1 = 1 ∨ en.2.1 = 11) ∧ zv_lk M.2.1 pc = some (.invokespecial ix))
    {H : Heap} {locs : List Loc} {cells slots : Nat} {lsR : Array Slot} (a1 : zv_RL ba ak lsR ls) (a0 : ls.length = M.1.2.2.2.1) (a2 : ∀ v ∈ pre ++ rest, zv_vg v) (a3 : zv_RH D g ba ak h H) (a4 : va_S (zv_Ac ba) s.heap H locs) (a7 : zv_SC ba ak s h) (hc1 : cells + (zv_n h1 - zv_n h) ≤ R.cells) (hc2 : slots + (zv_s h1 - zv_s h) ≤ R.slots) :
    ∃ av : Array Value, va_Run p l e R s m args below meth c H locs cells slots (zv_n h1 - zv_n h) (zv_s h1 - zv_s h) (F0 m pc lsR ((pre ++ rest).map (zv_cv ba ak))) (rest.map (zv_cv ba ak)) (zv_Qc D g ba ak o h1 av) (zv_Ac ba) := by
  obtain ⟨hmo, hrcv, hMet⟩ := hcal
  have hM := hMet y bytes maxL ret hinf
  have hts := cx.1.2.2.2.2
  have hG := zv_tb_good (zv_ctx_ws (args := args) hv)
  have hmlR : c.maxLocals = lsR.size := by
    have := a1.1
    have := cx.1.2.2.1
    omega
  have hfix : CallFix p m c M.1.2.2.1 lsR.size s args zv_tb M.1.1 := ⟨cx.1.1, cx.1.2.1, hmlR, cx.1.2.2.2.1, hts⟩
  have hPc : ∀ U : State, U.heap = H → s.WarmedH U.vm → zv_Pc D g ba ak adV as h (as.map (zv_cv ba ak)).toArray U := by
    intro U hU hW
    refine ⟨rfl, fun v hvm => a2 v (List.mem_append_left _ (by rw [has] at hvm; exact List.mem_reverse.mp hvm)), by rw [hU]; exact a3, ?_⟩
    exact zv_ST.next (h := h) ⟨cx.2.1.1, cx.2.1.2.1, cx.2.1.2.2.1, cx.2.1.2.2.2.1, cx.2.1.2.2.2.2, a7⟩ a4 hU hW a7
  have hsum := zv_wd_sum ba ak rest
  have hw8 : 2 * (F0 m pc lsR ((pre ++ rest).map (zv_cv ba ak))).monitorRoom + ((rest.map (zv_cv ba ak)).map fun v => v.category).sum ≤ 8 := lv_room (by omega)
  have hRR : (zv_rm d h h1).frames + 1 ≤ R.frames ∧ 8 + (maxL + 11) + (zv_rm d h h1).locals ≤ R.locals := by
    have := hv.2.2.2.1
    unfold zv_rm
    dsimp only
    omega
  have hinit := hts _ hv.2.1
  have hmh := hv.2.2.1
  have hkind := hv.2.2.2.2
  have hst : (pre ++ rest).map (zv_cv ba ak) = (as.map (zv_cv ba ak)).reverse ++ rest.map (zv_cv ba ak) := by
    rw [List.map_append, has, ← List.map_reverse, List.reverse_reverse]
  -- the receiver, where there is one
  have hinst : zv_isI en.1 = true → ∃ (b : Addr) (As : List Value), (as.map (zv_cv ba ak)) = .ref b :: As ∧ As.length + 1 = en.2.2.1 ∧ ∃ cellB : Cell, H[b]? = some cellB ∧ cellB.vm.isStatics = false ∧ s.vm.findClass y.cls = some cellB.cls := by
    intro hI
    obtain ⟨r, as', ha, hk⟩ := hrcv hI y bytes maxL ret hinf
    have hl2 : as'.length + 1 = en.2.2.1 := by
      have : as.length = en.2.2.1 := by rw [has, List.length_reverse, hlen]
      rw [ha] at this
      simpa using this
    rcases hk with ⟨ci, q, hob, hcl, hn⟩ | ⟨k1, k2, hn⟩
    · have hp := zv_lay_pos hob.2
      refine ⟨ba + r, as'.map (zv_cv ba ak), ?_, by simpa using hl2, ?_⟩
      · rw [ha, List.map_cons]
        show va_rf (zv_ad ba ak r) :: _ = _
        rw [zv_ad_in hp hob.1 a3.2.2.2]
      · rw [← hn]
        exact va_recv cx.2.1.1 a3.2.1 hcl (q0 := r - 1) (by rw [zv_ws_at hp hob.1, zv_el_obj hob.2])
    · obtain ⟨k, hk⟩ := Nat.exists_eq_add_of_le k1
      subst hk
      refine ⟨ak (1000000 + k), as'.map (zv_cv ba ak), ?_, by simpa using hl2, ?_⟩
      · rw [ha, List.map_cons]
        show va_rf (zv_ad ba ak (1000000 + k)) :: _ = _
        rw [zv_ad_t]
      · rw [hn]
        exact vk_recv (adK := fun i => ak (1000000 + i)) (i := k) cx.2.1.2.2.2.2.1 (by omega) a4
  have hdgv : ∀ i, zv_lk M.2.1 pc = some i → zv_sw i = false → decode M.1.2.2.1 pc = .ok (i, zv_len i) := fun i hi hs => zv_dg cx hi hs
  rcases hi with ⟨hk, hi⟩ | ⟨hk, hi⟩ | ⟨hk, hi⟩
  · have hdg := hdgv _ hi rfl
    rcases hk with hk | hk <;> rw [hk] at hkind
    · obtain ⟨k0, k1, k2, k3, k4⟩ := hkind
      obtain ⟨b, As, hA, hAl, hcell⟩ := hinst k0
      rw [hA] at hPc hst
      rw [hst]
      have hn : (parseMethodDescriptor y.desc).map (fun d => d.parameters.length) = some As.length := by
        cases hpd : parseMethodDescriptor y.desc with
        | none => rw [hpd] at k4; cases k4
        | some dd =>
          rw [hpd] at k4
          simp only [Option.map_some, Option.some.injEq] at k4 ⊢
          omega
      exact ⟨_, va_runV (As := As) (b := b) (n := As.length) hfix hM (cwV As.length hts (zv_tb_good (fun w hw => by
        simp only [wsV, List.mem_append, List.mem_cons, List.not_mem_nil, or_false] at hw
        rcases hw with (rfl | rfl | rfl | rfl) | rfl | hw
        · exact k1
        · exact k2
        · exact k3
        · exact hv.2.1
        · exact hv.1
        · exact hw)) rfl rfl rfl ⟨rfl, hmh.1, hmh.2, hn⟩ hRR) ⟨zv_Pc_blind, hcell, hPc⟩ rfl rfl rfl (by simp) hw8 hdg ⟨hc1, hc2⟩⟩
    · obtain ⟨k0, ⟨host, k1⟩, k2, k3, k4⟩ := hkind
      obtain ⟨b, As, hA, hAl, hcell⟩ := hinst k0
      rw [hA] at hPc hst
      rw [hst]
      have hn : (parseMethodDescriptor y.desc).map (fun d => d.parameters.length) = some As.length := by
        cases hpd : parseMethodDescriptor y.desc with
        | none => rw [hpd] at k4; cases k4
        | some dd =>
          rw [hpd] at k4
          simp only [Option.map_some, Option.some.injEq] at k4 ⊢
          omega
      exact ⟨_, va_runVN (As := As) (b := b) (n := As.length) hfix hM ⟨va_cnB As.length hts hG rfl rfl rfl (cx.2.1.2.2.1 _ _ _ _ k1) hinit ⟨hmh.1, hmh.2, hn⟩ hRR, hts _ k2, hts _ k3⟩ ⟨zv_Pc_blind, hcell, hPc⟩ rfl rfl rfl (by simp) hw8 hdg ⟨hc1, hc2⟩⟩
  · have hdg := hdgv _ hi rfl
    have hAl : (as.map (zv_cv ba ak)).length = en.2.2.1 := by rw [List.length_map, has, List.length_reverse, hlen]
    rcases hk with hk | hk <;> rw [hk] at hkind
    · obtain ⟨k1, k2, k4⟩ := hkind
      rw [hst]
      exact ⟨_, va_runS (As := as.map (zv_cv ba ak)) (n := en.2.2.1) hfix hM (va_cwS en.2.2.1 hts (zv_tb_good (fun w hw => by
        simp only [va_wsS, List.mem_append, List.mem_cons, List.not_mem_nil, or_false] at hw
        rcases hw with (rfl | rfl | rfl) | rfl | hw
        · exact k1
        · exact k2
        · exact hv.2.1
        · exact hv.1
        · exact hw)) rfl rfl rfl ⟨hmh.1, hmh.2, k4⟩ hRR) ⟨zv_Pc_blind, hPc⟩ rfl hAl rfl rfl hw8 hdg ⟨hc1, hc2⟩⟩
    · obtain ⟨⟨host, k1⟩, k2, k4⟩ := hkind
      rw [hst]
      exact ⟨_, va_runSN (As := as.map (zv_cv ba ak)) (n := en.2.2.1) hfix hM ⟨va_cnB en.2.2.1 hts hG rfl rfl rfl (cx.2.1.2.2.1 _ _ _ _ k1) hinit ⟨hmh.1, hmh.2, k4⟩ hRR, hts _ k2, trivial⟩ ⟨zv_Pc_blind, hPc⟩ rfl hAl rfl rfl hw8 hdg ⟨hc1, hc2⟩⟩
  · have hdg := hdgv _ hi rfl
    rcases hk with hk | hk <;> rw [hk] at hkind
    · obtain ⟨k0, k1, k2, k3, k5, k4⟩ := hkind
      subst k5
      obtain ⟨b, As, hA, hAl, hcell⟩ := hinst k0
      rw [hA] at hPc hst
      rw [hst]
      have hn : (parseMethodDescriptor y.desc).map (fun d => d.parameters.length) = some As.length := by
        cases hpd : parseMethodDescriptor y.desc with
        | none => rw [hpd] at k4; cases k4
        | some dd =>
          rw [hpd] at k4
          simp only [Option.map_some, Option.some.injEq] at k4 ⊢
          omega
      exact ⟨_, va_runI (As := As) (b := b) (n := As.length) hfix hM (cwI As.length hts hG rfl rfl rfl hinit (hts _ k1) (hts _ k2) k3 ⟨hmh.1, hmh.2, hn⟩ hRR) ⟨zv_Pc_blind, hPc⟩ rfl rfl rfl (by simp) hw8 hdg ⟨hc1, hc2⟩⟩
    · obtain ⟨k0, ⟨host, k1⟩, k2, k3, k5, k4⟩ := hkind
      subst k5
      obtain ⟨b, As, hA, hAl, hcell⟩ := hinst k0
      rw [hA] at hPc hst
      rw [hst]
      have hn : (parseMethodDescriptor y.desc).map (fun d => d.parameters.length) = some As.length := by
        cases hpd : parseMethodDescriptor y.desc with
        | none => rw [hpd] at k4; cases k4
        | some dd =>
          rw [hpd] at k4
          simp only [Option.map_some, Option.some.injEq] at k4 ⊢
          omega
      exact ⟨_, va_runIN (As := As) (b := b) (n := As.length) hfix hM ⟨va_cnB As.length hts hG rfl rfl rfl (cx.2.1.2.2.1 _ _ _ _ k1) hinit ⟨hmh.1, hmh.2, hn⟩ hRR, k3, hts _ k2⟩ ⟨zv_Pc_blind, hPc⟩ rfl rfl rfl (by simp) hw8 hdg ⟨hc1, hc2⟩⟩
end ZSND
end
section
/-! one step; a whole method -/
/-- calls keep their contracts -/
def zv_HC (c : zv_C) (l : Launch) (D : va_G) (g : Nat → ClassId) (ba : Nat) (ak adV : Nat → Nat) (d : Nat) : Prop :=
  (∀ id as h h1, c.1 id as h = some h1 → zv_cal l D g ba ak adV d id as h none h1) ∧
  (∀ id as h x h1, c.2.1 id as h = some (x, h1) → zv_cal l D g ba ak adV d id as h (some (zv_i x)) h1) ∧
  (∀ id as h x h1, c.2.2.1 id as h = some (x, h1) → zv_cal l D g ba ak adV d id as h (some (zv_j x)) h1) ∧
  (∀ id as h x h1, c.2.2.2 id as h = some (x, h1) → zv_cal l D g ba ak adV d id as h (some (zv_r x)) h1)
def zv_HE (p : Program) (l : Launch) (e : Env) (R : Room) (s : State) (m : MethodId) (args : Array Value) (below : List Frame) (meth : Method) (c : Code) (Q : State → Prop) (M : zv_M) (D : va_G) (g : Nat → ClassId) (ba : Nat) (ak : Nat → Nat) (n0 s0 : Nat) (rv : Option zv_V) (hE : zv_H) : Prop :=
  ∀ H locs lsR pc cells slots, zv_RH D g ba ak hE H → va_S (zv_Ac ba) s.heap H locs → cells + n0 = zv_n hE → slots + s0 = zv_s hE →
    (∀ x, rv = some (zv_i x) → zv_rg x → (M.1.2.2.2.2 = some .int ∨ (M.1.2.2.2.2 = some .boolean ∧ (x = 0 ∨ x = 1)) ∨ (M.1.2.2.2.2 = some .char ∧ 0 ≤ x ∧ x ≤ 65535) ∨ (M.1.2.2.2.2 = some .byte ∧ -128 ≤ x ∧ x ≤ 127)) → decode M.1.2.2.1 pc = .ok (.ireturn, 1) → W p l e R s m args below meth c H locs cells slots Q (F0 m pc lsR [.int (Int32.ofInt x)])) ∧
    (∀ x, rv = some (zv_j x) → M.1.2.2.2.2 = some .long → decode M.1.2.2.1 pc = .ok (.lreturn, 1) → W p l e R s m args below meth c H locs cells slots Q (F0 m pc lsR [.long x])) ∧
    (∀ r C, rv = some (zv_r r) → M.1.2.2.2.2 = some (.object C) → decode M.1.2.2.1 pc = .ok (.areturn, 1) → W p l e R s m args below meth c H locs cells slots Q (F0 m pc lsR [va_rf (zv_ad ba ak r)])) ∧
    (rv = none → M.1.2.2.2.2 = none → decode M.1.2.2.1 pc = .ok (.return_, 1) → W p l e R s m args below meth c H locs cells slots Q (F0 m pc lsR []))
section ZSND
variable {p : Program} {l : Launch} {e : Env} {R : Room} {s : State} {m : MethodId} {args : Array Value} {below : List Frame} {meth : Method} {c : Code} {Q : State → Prop} {M : zv_M} {D : va_G} {g : Nat → ClassId} {ba : Nat} {ak adV : Nat → Nat} {n0 s0 : Nat} {rv : Option zv_V} {hE : zv_H}
variable {pc : Nat} {ls : zv_Ls} {st : List zv_V} {h : zv_H}
/-- one call, with what lies behind -/
theorem zv_one_ok (cx : zv_CX p l R s args m meth c M D g ba ak adV n0 s0 hE) {d ix : Nat} {en : Nat × (Nat × (Nat × Nat))} (hf : zv_lk M.2.2.2.2.1 ix = some en) {as pre rest : List zv_V} {o : Option zv_V} {h1 : zv_H} (hcal : zv_cal l D g ba ak adV d en.1 as h o h1) (has : as = pre.reverse) (hlen : pre.length = en.2.2.1) (hwd : zv_wd rest ≤ 8) (hR1 : d + 9 ≤ R.frames) (hR2 : 60 * (d + 9) ≤ R.locals)
    (hi : (en.2.1 = 0 ∨ en.2.1 = 10) ∧ zv_lk M.2.1 pc = some (.invokevirtual ix) ∨ (en.2.1 = 2 ∨ en.2.1 = 12) ∧ zv_lk M.2.1 pc = some (.invokestatic ix) ∨ (en.2.1 = 1 ∨ en.2.1 = 11) ∧ zv_lk M.2.1 pc = some (.invokespecial ix))
    (hg : zv_ok p l e R s m args below meth c Q M D g ba ak n0 s0 hE (pc + 3) ls (o.toList ++ rest) h1) : zv_ok p l e R s m args below meth c Q M D g ba ak n0 s0 hE pc ls (pre ++ rest) h := by
  have hmo := hcal.1
  have hsz := cx.2.2.2.1
  have hb1 := cx.2.2.2.2.1
  have hb2 := cx.2.2.2.2.2.1
  refine ⟨hmo.tr hg.1, fun H locs cells slots lsR a1 a0 a2 a3 a4 a5 a6 a7 => ?_⟩
  have q1 := hg.1.1
  have q2 := hg.1.2.1
  have q3 := hmo.1
  have q4 := hmo.2.1
  rcases cx.2.2.2.2.2.2.2.2.1 ix en hf with ⟨q, -⟩ | ⟨q, -⟩ | ⟨q, -⟩ | ⟨q, -⟩ | ⟨y, bytes, maxL, ret, hinf, hv⟩
  · omega
  · omega
  · omega
  · omega
  · obtain ⟨av, hrun⟩ := zv_run_ok (cells := cells) (slots := slots) cx hv hinf hcal has hlen hwd hR1 hR2 hi a1 a0 a2 a3 a4 a7 (by omega) (by omega)
    refine zv_callk hrun a4 (fun H1 locs1 hvs b1 b2 => ?_)
    have e : (o.map (zv_cv ba ak)).toList ++ rest.map (zv_cv ba ak) = (o.toList ++ rest).map (zv_cv ba ak) := by
      cases o <;> rfl
    rw [e]
    refine hg.2 H1 locs1 _ _ lsR a1 a0 ?_ b1 b2 (by omega) (by omega) ?_
    · intro v hv
      rcases List.mem_append.mp hv with z | z
      · cases o with
        | none => cases z
        | some w =>
          have := List.mem_singleton.mp z
          rw [this]
          exact hvs
      · exact a2 v (List.mem_append_right _ z)
    · unfold zv_SC zv_L zv_X at a7 ⊢
      rw [hmo.2.2]
      exact a7
theorem zv_call_ok (cx : zv_CX p l R s args m meth c M D g ba ak adV n0 s0 hE) {oc : zv_C} {d ix : Nat} (hC : zv_HC oc l D g ba ak adV d) {en : Nat × (Nat × (Nat × Nat))} (hf : zv_lk M.2.2.2.2.1 ix = some en) (hR1 : d + 9 ≤ R.frames) (hR2 : 60 * (d + 9) ≤ R.locals)
    (hi : (en.2.1 = 0 ∨ en.2.1 = 10) ∧ zv_lk M.2.1 pc = some (.invokevirtual ix) ∨ (en.2.1 = 2 ∨ en.2.1 = 12) ∧ zv_lk M.2.1 pc = some (.invokestatic ix) ∨ (en.2.1 = 1 ∨ en.2.1 = 11) ∧ zv_lk M.2.1 pc = some (.invokespecial ix))
    {go : zv_G} (hgo : ∀ pc ls st h, go pc ls st h = some (rv, hE) → zv_ok p l e R s m args below meth c Q M D g ba ak n0 s0 hE pc ls st h) (hr : zv_call oc go pc ls st h en = some (rv, hE)) : zv_ok p l e R s m args below meth c Q M D g ba ak n0 s0 hE pc ls st h := by
  unfold zv_call at hr
  cases hk : zv_tk en.2.2.1 [] st with
  | none => rw [hk] at hr; cases hr
  | some q =>
    obtain ⟨as, rest⟩ := q
    rw [hk] at hr
    dsimp only at hr
    obtain ⟨pre, rfl, ha, hl⟩ := zv_tk_ok _ _ _ _ _ hk
    rw [List.append_nil] at ha
    split at hr
    · cases hr
    · rename_i hwd
      split at hr
      · obtain ⟨h1, hv, hg⟩ := Option.bind_eq_some_iff.mp hr
        exact zv_one_ok (o := none) cx hf (hC.1 _ _ _ _ hv) ha hl (by omega) hR1 hR2 hi (hgo _ _ _ _ hg)
      · obtain ⟨⟨x, h1⟩, hv, hg⟩ := Option.bind_eq_some_iff.mp hr
        exact zv_one_ok (o := some (zv_i x)) cx hf (hC.2.1 _ _ _ _ _ hv) ha hl (by omega) hR1 hR2 hi (hgo _ _ _ _ hg)
      · obtain ⟨⟨x, h1⟩, hv, hg⟩ := Option.bind_eq_some_iff.mp hr
        exact zv_one_ok (o := some (zv_j x)) cx hf (hC.2.2.1 _ _ _ _ _ hv) ha hl (by omega) hR1 hR2 hi (hgo _ _ _ _ hg)
      · obtain ⟨⟨x, h1⟩, hv, hg⟩ := Option.bind_eq_some_iff.mp hr
        exact zv_one_ok (o := some (zv_r x)) cx hf (hC.2.2.2 _ _ _ _ _ hv) ha hl (by omega) hR1 hR2 hi (hgo _ _ _ _ hg)
theorem zv_iv_ok (cx : zv_CX p l R s args m meth c M D g ba ak adV n0 s0 hE) {oc : zv_C} {d ix : Nat} (hC : zv_HC oc l D g ba ak adV d) (hR1 : d + 9 ≤ R.frames) (hR2 : 60 * (d + 9) ≤ R.locals) (hi : zv_lk M.2.1 pc = some (.invokevirtual ix)) {go : zv_G} (hgo : ∀ pc ls st h, go pc ls st h = some (rv, hE) → zv_ok p l e R s m args below meth c Q M D g ba ak n0 s0 hE pc ls st h) (hr : zv_iv oc go pc ls st h (zv_lk M.2.2.2.2.1 ix) = some (rv, hE)) : zv_ok p l e R s m args below meth c Q M D g ba ak n0 s0 hE pc ls st h := by
  unfold zv_iv at hr
  cases hf : zv_lk M.2.2.2.2.1 ix with
  | none => rw [hf] at hr; cases hr
  | some en =>
    rw [hf] at hr
    dsimp only at hr
    split at hr
    · exact zv_call_ok cx hC hf hR1 hR2 (Or.inl ⟨‹_›, hi⟩) hgo hr
    · cases hr
theorem zv_is_ok (cx : zv_CX p l R s args m meth c M D g ba ak adV n0 s0 hE) {oc : zv_C} {d ix : Nat} (hC : zv_HC oc l D g ba ak adV d) (hR1 : d + 9 ≤ R.frames) (hR2 : 60 * (d + 9) ≤ R.locals) (hR3 : 8 + (nativeFrameWords "java/lang/System" "arraycopy" 5 + 11) ≤ R.locals) (hi : zv_lk M.2.1 pc = some (.invokestatic ix)) {go : zv_G} (hgo : ∀ pc ls st h, go pc ls st h = some (rv, hE) → zv_ok p l e R s m args below meth c Q M D g ba ak n0 s0 hE pc ls st h) (hr : zv_is oc go pc ls st h (zv_lk M.2.2.2.2.1 ix) = some (rv, hE)) : zv_ok p l e R s m args below meth c Q M D g ba ak n0 s0 hE pc ls st h := by
  unfold zv_is at hr
  cases hf : zv_lk M.2.2.2.2.1 ix with
  | none => rw [hf] at hr; cases hr
  | some en =>
    rw [hf] at hr
    dsimp only at hr
    split at hr
    · exact zv_call_ok cx hC hf hR1 hR2 (Or.inr (Or.inl ⟨‹_›, hi⟩)) hgo hr
    · split at hr
      · exact zv_cyS_ok cx ⟨by omega, hR3⟩ hi hf ‹_› hgo hr
      · split at hr
        · exact zv_mx_ok (b := true) cx ⟨by omega, by omega⟩ hi hf ‹_› hgo hr
        · split at hr
          · exact zv_mx_ok (b := false) cx ⟨by omega, by omega⟩ hi hf ‹_› hgo hr
          · cases hr
theorem zv_ip_ok (cx : zv_CX p l R s args m meth c M D g ba ak adV n0 s0 hE) {oc : zv_C} {d ix : Nat} (hC : zv_HC oc l D g ba ak adV d) (hR1 : d + 9 ≤ R.frames) (hR2 : 60 * (d + 9) ≤ R.locals) (hi : zv_lk M.2.1 pc = some (.invokespecial ix)) {go : zv_G} (hgo : ∀ pc ls st h, go pc ls st h = some (rv, hE) → zv_ok p l e R s m args below meth c Q M D g ba ak n0 s0 hE pc ls st h) (hr : zv_ip oc go pc ls st h (zv_lk M.2.2.2.2.1 ix) = some (rv, hE)) : zv_ok p l e R s m args below meth c Q M D g ba ak n0 s0 hE pc ls st h := by
  unfold zv_ip at hr
  cases hf : zv_lk M.2.2.2.2.1 ix with
  | none => rw [hf] at hr; cases hr
  | some en =>
    rw [hf] at hr
    dsimp only at hr
    split at hr
    · exact zv_call_ok cx hC hf hR1 hR2 (Or.inr (Or.inr ⟨‹_›, hi⟩)) hgo hr
    · split at hr
      · exact zv_oi_ok cx ⟨by omega, by omega⟩ hi hf ‹_› hgo hr
      · cases hr
theorem zv_rt_mo {w : Option zv_V} {t : Option FieldType} (hr : zv_rt h w t = some (rv, hE)) : h = hE ∧ w = rv := by
  unfold zv_rt at hr
  split at hr
  all_goals first | (cases hr; done) | (cases hr; exact ⟨rfl, rfl⟩) | (split at hr <;> cases hr; exact ⟨rfl, rfl⟩)
theorem zv_rt_i {x : Int} {t : Option FieldType} {q : Option zv_V × zv_H} (hr : zv_rt h (some (zv_i x)) t = some q) : t = some .int ∨ (t = some .boolean ∧ (x = 0 ∨ x = 1)) ∨ (t = some .char ∧ 0 ≤ x ∧ x ≤ 65535) ∨ (t = some .byte ∧ -128 ≤ x ∧ x ≤ 127) := by
  rcases t with _ | t
  · cases hr
  · cases t with
    | int => exact Or.inl rfl
    | boolean =>
      by_cases z : x = 0 ∨ x = 1
      · exact Or.inr (Or.inl ⟨rfl, z⟩)
      · unfold zv_rt at hr
        simp only [zv_i, if_neg z] at hr
        cases hr
    | char =>
      by_cases z : 0 ≤ x ∧ x ≤ 65535
      · exact Or.inr (Or.inr (Or.inl ⟨rfl, z⟩))
      · unfold zv_rt at hr
        simp only [zv_i, if_neg z] at hr
        cases hr
    | byte =>
      by_cases z : -128 ≤ x ∧ x ≤ 127
      · exact Or.inr (Or.inr (Or.inr ⟨rfl, z⟩))
      · unfold zv_rt at hr
        simp only [zv_i, if_neg z] at hr
        cases hr
    | _ => cases hr
theorem zv_rt_j {x : Int64} {t : Option FieldType} {q : Option zv_V × zv_H} (hr : zv_rt h (some (zv_j x)) t = some q) : t = some .long := by
  rcases t with _ | t
  · cases hr
  · cases t with
    | long => rfl
    | _ => cases hr
theorem zv_rt_r {x : Nat} {t : Option FieldType} {q : Option zv_V × zv_H} (hr : zv_rt h (some (zv_r x)) t = some q) : ∃ C, t = some (.object C) := by
  rcases t with _ | t
  · cases hr
  · cases t with
    | object C => exact ⟨C, rfl⟩
    | _ => cases hr
theorem zv_rt_n {t : Option FieldType} {q : Option zv_V × zv_H} (hr : zv_rt h none t = some q) : t = none := by
  rcases t with _ | t
  · rfl
  · cases t <;> cases hr
theorem zv_op_len {i : Instr} {ls' : zv_Ls} {st' : List zv_V} (hop : zv_op i ls st = some (ls', st')) : ls'.length = ls.length := by
  unfold zv_op at hop
  split at hop
  all_goals try (cases hop; done)
  all_goals try (cases hop; first | rfl | exact zv_s1_len _ _ _ | exact zv_s2_len _ _ _)
  all_goals try (split at hop <;> cases hop; first | rfl | exact zv_s1_len _ _ _ | exact zv_s2_len _ _ _)
  all_goals (split at hop <;> first | (cases hop; done) | (split at hop <;> cases hop; exact zv_s1_len _ _ _))
set_option maxHeartbeats 8000000 in
theorem zv_hp_ok (cx : zv_CX p l R s args m meth c M D g ba ak adV n0 s0 hE) (he : zv_HE p l e R s m args below meth c Q M D g ba ak n0 s0 rv hE) {oc : zv_C} {d : Nat} (hC : zv_HC oc l D g ba ak adV d) (hR1 : d + 9 ≤ R.frames) (hR2 : 60 * (d + 9) ≤ R.locals) (hR3 : 8 + (nativeFrameWords "java/lang/System" "arraycopy" 5 + 11) ≤ R.locals) {i : Instr} (hi : zv_lk M.2.1 pc = some i) {go : zv_G} (hgo : ∀ pc ls st h, go pc ls st h = some (rv, hE) → zv_ok p l e R s m args below meth c Q M D g ba ak n0 s0 hE pc ls st h) (hr : zv_hp oc M go pc ls st h i = some (rv, hE)) : zv_ok p l e R s m args below meth c Q M D g ba ak n0 s0 hE pc ls st h := by
  unfold zv_hp at hr
  split at hr
  · exact zv_goto_ok cx hi hgo hr
  · obtain ⟨tgt, ht, hb⟩ := zv_bc_ok hr
    exact zv_if_ok cx hi hgo ht _ (fun hx => (zv_eq0 hx).symm) hb
  · obtain ⟨tgt, ht, hb⟩ := zv_bn_ok hr
    exact zv_if_ok cx hi hgo ht _ (fun hx => not_congr (zv_eq0 hx).symm) (zv_or_sw hb)
  · obtain ⟨tgt, ht, hb⟩ := zv_bc_ok hr
    exact zv_if_ok cx hi hgo ht _ (fun hx => (zv_lt0 hx).symm) hb
  · obtain ⟨tgt, ht, hb⟩ := zv_bn_ok hr
    exact zv_if_ok cx hi hgo ht _ (fun hx => by rw [zv_ge0 hx]; omega) (zv_or_sw hb)
  · obtain ⟨tgt, ht, hb⟩ := zv_bn_ok hr
    exact zv_if_ok cx hi hgo ht _ (fun hx => by rw [zv_gt0 hx]; omega) (zv_or_sw hb)
  · obtain ⟨tgt, ht, hb⟩ := zv_bc_ok hr
    exact zv_if_ok cx hi hgo ht _ (fun hx => (zv_le0 hx).symm) hb
  · obtain ⟨tgt, ht, hb⟩ := zv_bc_ok hr
    exact zv_icmp_ok cx hi hgo ht _ (fun hx hy => (zv_inj hx hy).symm) hb
  · obtain ⟨tgt, ht, hb⟩ := zv_bn_ok hr
    exact zv_icmp_ok cx hi hgo ht _ (fun hx hy => not_congr (zv_inj hx hy).symm) (zv_or_sw hb)
  · obtain ⟨tgt, ht, hb⟩ := zv_bc_ok hr
    exact zv_icmp_ok cx hi hgo ht _ (fun hx hy => (zv_lt hx hy).symm) hb
  · obtain ⟨tgt, ht, hb⟩ := zv_bn_ok hr
    exact zv_icmp_ok cx hi hgo ht _ (fun hx hy => by rw [zv_le hy hx]; omega) (zv_or_sw hb)
  · obtain ⟨tgt, ht, hb⟩ := zv_bn_ok hr
    exact zv_icmp_ok cx hi hgo ht _ (fun hx hy => by rw [zv_lt hy hx]; omega) (zv_or_sw hb)
  · obtain ⟨tgt, ht, hb⟩ := zv_bc_ok hr
    exact zv_icmp_ok cx hi hgo ht _ (fun hx hy => (zv_le hx hy).symm) hb
  · split at hr
    · cases hr
    · rename_i hxy
      obtain ⟨tgt, ht, hb⟩ := zv_bc_ok hr
      exact zv_acmp_ok cx hxy hi hgo ht _ Iff.rfl hb
  · split at hr
    · cases hr
    · rename_i hxy
      obtain ⟨tgt, ht, hb⟩ := zv_bn_ok hr
      exact zv_acmp_ok cx hxy hi hgo ht _ Iff.rfl (zv_or_sw hb)
  · obtain ⟨tgt, ht, hb⟩ := zv_bc_ok hr
    exact zv_nul_ok cx hi hgo ht hb
  · obtain ⟨tgt, ht, hb⟩ := zv_bn_ok hr
    exact zv_nnl_ok cx hi hgo ht (zv_or_sw hb)
  · split at hr
    · rename_i dflt lo hi' offs x st hlen
      obtain ⟨len, hd1, -⟩ := cx.2.2.2.2.2.2.1 pc _ hi
      rcases zv_tsw_ok _ _ hr with ⟨q1, q2⟩ | ⟨q1, q2, off, q3, q4⟩
      · obtain ⟨tgt, ht, hg⟩ := zv_jp_ok q2
        refine ⟨(hgo _ _ _ _ hg).1, fun H locs cells slots lsR a1 a0 a2 a3 a4 a5 a6 a7 => ?_⟩
        have hx := (zv_fa a2).1
        exact lv_tableOut cx.1.1 cx.1.2.1 hd1 (by rw [zv_toInt hx]; omega) ht ((hgo _ _ _ _ hg).2 H locs cells slots lsR a1 a0 (zv_fa a2).2 a3 a4 a5 a6 a7)
      · obtain ⟨tgt, ht, hg⟩ := zv_jp_ok q4
        refine ⟨(hgo _ _ _ _ hg).1, fun H locs cells slots lsR a1 a0 a2 a3 a4 a5 a6 a7 => ?_⟩
        have hx := (zv_fa a2).1
        exact lv_tableIn cx.1.1 cx.1.2.1 hd1 (by rw [zv_toInt hx]; omega) (by rw [zv_toInt hx]; omega) (off := off) (by rw [zv_toInt hx, ← Array.getElem?_toList]; exact q3) ht ((hgo _ _ _ _ hg).2 H locs cells slots lsR a1 a0 (zv_fa a2).2 a3 a4 a5 a6 a7)
    · cases hr
  · split at hr
    · rename_i dflt ps x st hlen
      obtain ⟨len, hd1, -⟩ := cx.2.2.2.2.2.2.1 pc _ hi
      have q2 := zv_lsw_ok _ hr
      obtain ⟨tgt, ht, hg⟩ := zv_jp_ok q2
      refine ⟨(hgo _ _ _ _ hg).1, fun H locs cells slots lsR a1 a0 a2 a3 a4 a5 a6 a7 => ?_⟩
      have hx := (zv_fa a2).1
      exact lv_lookup cx.1.1 cx.1.2.1 hd1 hlen (by rw [zv_toInt hx]) ht ((hgo _ _ _ _ hg).2 H locs cells slots lsR a1 a0 (zv_fa a2).2 a3 a4 a5 a6 a7)
    · cases hr
  · exact zv_gf_ok cx hi hgo hr
  · exact zv_gs_ok cx hi hgo hr
  · exact zv_pf_ok cx hi hgo hr
  · exact zv_al_ok cx hi hgo hr
  · exact zv_aI_ok cx hi hgo hr
  · exact zv_aB_ok cx hi hgo hr
  · exact zv_aJ_ok cx hi hgo hr
  · exact zv_aR_ok cx hi hgo hr
  · exact zv_wI_ok cx hi hgo hr
  · exact zv_wB_ok cx hi hgo hr
  · exact zv_wJ_ok cx hi hgo hr
  · exact zv_wR_ok cx hi hgo hr
  · exact zv_nw_ok cx hi hgo hr
  · exact zv_nA_ok cx (at' := .int) (ty := .int) (t0 := 0) (cA := g 2) rfl zv_wA_int (by omega) rfl (fun C q => by cases q) (by decide) (fun h q => ⟨_, by rw [zv_el_2 (by rw [q]), q], fun cA => by rw [zv_mk_I]; rfl⟩) hi hgo hr
  · exact zv_nA_ok cx (at' := .boolean) (ty := .boolean) (t0 := 1) (cA := g 3) rfl zv_wA_boolean (by omega) rfl (fun C q => by cases q) (by decide) (fun h q => ⟨_, by rw [zv_el_3 (by rw [q]), q], fun cA => by rw [zv_mk_I]; rfl⟩) hi hgo hr
  · exact zv_nA_ok cx (at' := .byte) (ty := .byte) (t0 := 2) (cA := g 4) rfl zv_wA_byte (by omega) rfl (fun C q => by cases q) (by decide) (fun h q => ⟨_, by rw [zv_el_4 (by rw [q]), q], fun cA => by rw [zv_mk_I]; rfl⟩) hi hgo hr
  · exact zv_nA_ok cx (at' := .long) (ty := .long) (t0 := 3) (cA := g 5) rfl zv_wA_long (by omega) rfl (fun C q => by cases q) (by decide) (fun h q => ⟨_, by rw [zv_el_5 (by rw [q]), q], fun cA => by rw [zv_mk_J]; rfl⟩) hi hgo hr
  · exact zv_an_ok cx hi hgo hr
  · exact zv_ls_ok cx hi hgo hr
  · exact zv_li_ok cx hi hgo hr
  · exact zv_ll_ok cx hi hgo hr
  · exact zv_iv_ok cx hC hR1 hR2 hi hgo hr
  · exact zv_is_ok cx hC hR1 hR2 hR3 hi hgo hr
  · exact zv_ip_ok cx hC hR1 hR2 hi hgo hr
  · obtain ⟨rfl, rfl⟩ := zv_rt_mo hr
    refine ⟨zv_mo.rf _, fun H locs cells slots lsR a1 a0 a2 a3 a4 a5 a6 a7 => ?_⟩
    refine (he H locs lsR pc cells slots a3 a4 a5 a6).1 _ rfl (zv_fa a2).1 ?_ (zv_dg cx hi rfl)
    exact zv_rt_i hr
  · obtain ⟨rfl, rfl⟩ := zv_rt_mo hr
    refine ⟨zv_mo.rf _, fun H locs cells slots lsR a1 a0 a2 a3 a4 a5 a6 a7 => ?_⟩
    exact (he H locs lsR pc cells slots a3 a4 a5 a6).2.1 _ rfl (zv_rt_j hr) (zv_dg cx hi rfl)
  · obtain ⟨rfl, rfl⟩ := zv_rt_mo hr
    refine ⟨zv_mo.rf _, fun H locs cells slots lsR a1 a0 a2 a3 a4 a5 a6 a7 => ?_⟩
    obtain ⟨C, hCC⟩ := zv_rt_r hr
    exact (he H locs lsR pc cells slots a3 a4 a5 a6).2.2.1 _ C rfl hCC (zv_dg cx hi rfl)
  · obtain ⟨rfl, rfl⟩ := zv_rt_mo hr
    refine ⟨zv_mo.rf _, fun H locs cells slots lsR a1 a0 a2 a3 a4 a5 a6 a7 => ?_⟩
    exact (he H locs lsR pc cells slots a3 a4 a5 a6).2.2.2 rfl (zv_rt_n hr) (zv_dg cx hi rfl)
  · cases hr
end ZSND
end
section
/-! whole methods, by depth -/
section ZSND
variable {p : Program} {l : Launch} {e : Env} {R : Room} {s : State} {m : MethodId} {args : Array Value} {below : List Frame} {meth : Method} {c : Code} {Q : State → Prop} {M : zv_M} {D : va_G} {g : Nat → ClassId} {ba : Nat} {ak adV : Nat → Nat} {n0 s0 : Nat} {rv : Option zv_V} {hE : zv_H}
variable {pc : Nat} {ls : zv_Ls} {st : List zv_V} {h : zv_H}
theorem zv_op_sw {i : Instr} {q : zv_Ls × List zv_V} (hop : zv_op i ls st = some q) : zv_sw i = false := by
  cases hs : zv_sw i with
  | false => rfl
  | true =>
    unfold zv_sw at hs
    split at hs
    · unfold zv_op at hop
      cases hop
    · unfold zv_op at hop
      cases hop
    · cases hs
theorem zv_stp_ok (cx : zv_CX p l R s args m meth c M D g ba ak adV n0 s0 hE) (he : zv_HE p l e R s m args below meth c Q M D g ba ak n0 s0 rv hE) {oc : zv_C} {d : Nat} (hC : zv_HC oc l D g ba ak adV d) (hR1 : d + 9 ≤ R.frames) (hR2 : 60 * (d + 9) ≤ R.locals) (hR3 : 8 + (nativeFrameWords "java/lang/System" "arraycopy" 5 + 11) ≤ R.locals) {go : zv_G} (hgo : ∀ pc ls st h, go pc ls st h = some (rv, hE) → zv_ok p l e R s m args below meth c Q M D g ba ak n0 s0 hE pc ls st h) (hr : zv_stp oc M go pc ls st h = some (rv, hE)) : zv_ok p l e R s m args below meth c Q M D g ba ak n0 s0 hE pc ls st h := by
  unfold zv_stp at hr
  cases hi : zv_lk M.2.1 pc with
  | none => rw [hi] at hr; cases hr
  | some i =>
    rw [hi] at hr
    dsimp only at hr
    cases hop : zv_op i ls st with
    | none =>
      rw [hop] at hr
      exact zv_hp_ok cx he hC hR1 hR2 hR3 hi hgo hr
    | some q =>
      rw [hop] at hr
      obtain ⟨ls', st'⟩ := q
      dsimp only at hr
      refine ⟨(hgo _ _ _ _ hr).1, fun H locs cells slots lsR a1 a0 a2 a3 a4 a5 a6 a7 => ?_⟩
      exact zv_op_ok cx.1.1 cx.1.2.1 hop (zv_dg cx hi (zv_op_sw hop)) (fun lsR' b1 b2 => (hgo _ _ _ _ hr).2 H locs cells slots lsR' b1 ((zv_op_len hop).trans a0) b2 a3 a4 a5 a6 a7) lsR a1 a2
theorem zv_ok_msk (b : List Bool) (hk : zv_ok p l e R s m args below meth c Q M D g ba ak n0 s0 hE pc (zv_msk b ls) st h) : zv_ok p l e R s m args below meth c Q M D g ba ak n0 s0 hE pc ls st h :=
  ⟨hk.1, fun H locs cells slots lsR a1 a0 a2 a3 a4 a5 a6 a7 => hk.2 H locs cells slots lsR (a1.msk b) ((zv_msk_len b ls).trans a0) a2 a3 a4 a5 a6 a7⟩
theorem zv_seg_ok (cx : zv_CX p l R s args m meth c M D g ba ak adV n0 s0 hE) (he : zv_HE p l e R s m args below meth c Q M D g ba ak n0 s0 rv hE) {oc : zv_C} {d : Nat} (hC : zv_HC oc l D g ba ak adV d) (hR1 : d + 9 ≤ R.frames) (hR2 : 60 * (d + 9) ≤ R.locals) (hR3 : 8 + (nativeFrameWords "java/lang/System" "arraycopy" 5 + 11) ≤ R.locals) {kt : zv_G} (hkt : ∀ pc ls st h, kt pc ls st h = some (rv, hE) → zv_ok p l e R s m args below meth c Q M D g ba ak n0 s0 hE pc ls st h) : ∀ (n pc : Nat) (ls : zv_Ls) (st : List zv_V) (h : zv_H), zv_seg oc M kt n pc ls st h = some (rv, hE) → zv_ok p l e R s m args below meth c Q M D g ba ak n0 s0 hE pc ls st h
  | 0, pc, ls, st, h, hr => hkt _ _ _ _ hr
  | n + 1, pc, ls, st, h, hr => by
    unfold zv_seg at hr
    refine zv_stp_ok cx he hC hR1 hR2 hR3 (fun pc1 ls1 st1 h1 hg => ?_) hr
    cases hb : zv_lk M.2.2.1 pc1 with
    | some b =>
      simp only [hb] at hg
      exact zv_ok_msk b (hkt _ _ _ _ hg)
    | none =>
      simp only [hb] at hg
      exact zv_seg_ok cx he hC hR1 hR2 hR3 hkt n pc1 ls1 st1 h1 hg
theorem zv_it_ok (cx : zv_CX p l R s args m meth c M D g ba ak adV n0 s0 hE) (he : zv_HE p l e R s m args below meth c Q M D g ba ak n0 s0 rv hE) {oc : zv_C} {d : Nat} (hC : zv_HC oc l D g ba ak adV d) (hR1 : d + 9 ≤ R.frames) (hR2 : 60 * (d + 9) ≤ R.locals) (hR3 : 8 + (nativeFrameWords "java/lang/System" "arraycopy" 5 + 11) ≤ R.locals) : ∀ (n pc : Nat) (ls : zv_Ls) (st : List zv_V) (h : zv_H), zv_it oc M n pc ls st h = some (rv, hE) → zv_ok p l e R s m args below meth c Q M D g ba ak n0 s0 hE pc ls st h
  | 0, pc, ls, st, h, hr => by cases hr
  | n + 1, pc, ls, st, h, hr => zv_seg_ok cx he hC hR1 hR2 hR3 (zv_it_ok cx he hC hR1 hR2 hR3 n) 400 pc ls st h hr
theorem zv_lim_ok (cx : zv_CX p l R s args m meth c M D g ba ak adV n0 s0 hE) (he : zv_HE p l e R s m args below meth c Q M D g ba ak n0 s0 rv hE) {oc : zv_C} {d : Nat} (hC : zv_HC oc l D g ba ak adV d) (hR1 : d + 9 ≤ R.frames) (hR2 : 60 * (d + 9) ≤ R.locals) (hR3 : 8 + (nativeFrameWords "java/lang/System" "arraycopy" 5 + 11) ≤ R.locals) (hr : zv_lim oc M pc ls st h = some (rv, hE)) : zv_ok p l e R s m args below meth c Q M D g ba ak n0 s0 hE pc ls st h := by
  obtain ⟨n, hn⟩ := (zv_lim_iff _ _ _ _ _ _ _).mp hr
  exact zv_it_ok cx he hC hR1 hR2 hR3 n pc ls st h hn
end ZSND
theorem zv_en_len : ∀ (as : List zv_V) (n : Nat), zv_wd as ≤ n → (zv_en as n).length = n
  | [], n, _ => by simp [zv_en]
  | Sum.inl x :: t, 0, h => by simp [zv_wd] at h
  | Sum.inl x :: t, n + 1, h => by
    have := zv_en_len t n (by simp [zv_wd] at h; omega)
    simp [zv_en, this]
  | Sum.inr (Sum.inr x) :: t, 0, h => by simp [zv_wd] at h
  | Sum.inr (Sum.inr x) :: t, n + 1, h => by
    have := zv_en_len t n (by simp [zv_wd] at h; omega)
    simp [zv_en, this]
  | Sum.inr (Sum.inl x) :: t, 0, h => by simp [zv_wd] at h
  | Sum.inr (Sum.inl x) :: t, 1, h => by simp [zv_wd] at h
  | Sum.inr (Sum.inl x) :: t, n + 2, h => by
    have := zv_en_len t n (by simp [zv_wd] at h; omega)
    simp [zv_en, this]
theorem zv_ld_rep (n i : Nat) : zv_ld (List.replicate n none) i = none := by
  induction n generalizing i with
  | zero => rfl
  | succ n ih =>
    cases i with
    | zero => rfl
    | succ i => exact ih i
theorem zv_en_ld (ba : Nat) (ak : Nat → Nat) : ∀ (as : List zv_V) (n k i : Nat) (v : zv_V), zv_ld (zv_en as n) i = some v → (k + i, zv_cv ba ak v) ∈ lv_args k (as.map (zv_cv ba ak)) ∧ v ∈ as
  | [], n, k, i, v, h => by
    rw [zv_en, zv_ld_rep] at h
    cases h
  | Sum.inl x :: t, 0, k, i, v, h => by simp [zv_en, zv_ld] at h
  | Sum.inl x :: t, n + 1, k, 0, v, h => by
    simp only [zv_en, zv_ld, Option.some.injEq] at h
    subst h
    exact ⟨by simp [lv_args, zv_cv], by simp⟩
  | Sum.inl x :: t, n + 1, k, i + 1, v, h => by
    have := zv_en_ld ba ak t n (k + 1) i v h
    refine ⟨?_, List.mem_cons_of_mem _ this.2⟩
    rw [show k + (i + 1) = k + 1 + i by omega]
    simp only [List.map_cons, lv_args]
    exact List.mem_cons_of_mem _ this.1
  | Sum.inr (Sum.inr x) :: t, 0, k, i, v, h => by simp [zv_en, zv_ld] at h
  | Sum.inr (Sum.inr x) :: t, n + 1, k, 0, v, h => by
    simp only [zv_en, zv_ld, Option.some.injEq] at h
    subst h
    exact ⟨by simp [lv_args, zv_cv], by simp⟩
  | Sum.inr (Sum.inr x) :: t, n + 1, k, i + 1, v, h => by
    have := zv_en_ld ba ak t n (k + 1) i v h
    refine ⟨?_, List.mem_cons_of_mem _ this.2⟩
    rw [show k + (i + 1) = k + 1 + i by omega]
    have hc := zv_cat1 ba ak x
    simp only [List.map_cons, lv_args, zv_cv]
    rw [hc]
    exact List.mem_cons_of_mem _ this.1
  | Sum.inr (Sum.inl x) :: t, 0, k, i, v, h => by simp [zv_en, zv_ld] at h
  | Sum.inr (Sum.inl x) :: t, 1, k, i, v, h => by simp [zv_en, zv_ld] at h
  | Sum.inr (Sum.inl x) :: t, n + 2, k, 0, v, h => by
    simp only [zv_en, zv_ld, Option.some.injEq] at h
    subst h
    exact ⟨by simp [lv_args, zv_cv], by simp⟩
  | Sum.inr (Sum.inl x) :: t, n + 2, k, 1, v, h => by simp [zv_en, zv_ld] at h
  | Sum.inr (Sum.inl x) :: t, n + 2, k, i + 2, v, h => by
    have := zv_en_ld ba ak t n (k + 2) i v h
    refine ⟨?_, List.mem_cons_of_mem _ this.2⟩
    rw [show k + (i + 2) = k + 2 + i by omega]
    simp only [List.map_cons, lv_args, zv_cv]
    exact List.mem_cons_of_mem _ this.1
theorem zv_lg_len (ba : Nat) (ak : Nat → Nat) : ∀ as : List zv_V, (lg_sl (as.map (zv_cv ba ak))).length = zv_wd as
  | [] => rfl
  | Sum.inl x :: t => by
    have := zv_lg_len ba ak t
    unfold lg_sl at this ⊢
    simp only [List.map_cons, List.flatMap_cons, List.length_append, this, zv_wd, zv_cv]
    show 1 + zv_wd t = _
    omega
  | Sum.inr (Sum.inl x) :: t => by
    have := zv_lg_len ba ak t
    unfold lg_sl at this ⊢
    simp only [List.map_cons, List.flatMap_cons, List.length_append, this, zv_wd, zv_cv]
    show 2 + zv_wd t = _
    omega
  | Sum.inr (Sum.inr x) :: t => by
    have := zv_lg_len ba ak t
    have hc := zv_cat1 ba ak x
    unfold lg_sl at this ⊢
    simp only [List.map_cons, List.flatMap_cons, List.length_append, this, zv_wd, zv_cv]
    rw [if_neg (by omega)]
    show 1 + zv_wd t = _
    omega
end
section
/-! the contracts of the program's methods, by depth -/
def zv_vP (o : Option Nat) (M : zv_M) : Prop := M.1.1 = M.1.2.1.cls ∧ plainName M.1.2.1.cls = true ∧ ∀ ci, o = some ci → (ci = 10 ∧ M.1.2.1.cls = "java/lang/String") ∨ ∃ q, ¬ ci = 10 ∧ vwCl[ci]? = some q ∧ q.1 = M.1.2.1.cls
theorem zv_aw : nativeFrameWords "java/lang/System" "arraycopy" 5 ≤ 100 := by decide +kernel
theorem zv_nar_bool {x : Int} (hx : x = 0 ∨ x = 1) : narrow .boolean (.int (Int32.ofInt x)) = .int (Int32.ofInt x) := by
  rcases hx with rfl | rfl <;> rfl
theorem zv_nar_byte {x : Int} (hx : -128 ≤ x ∧ x ≤ 127) : narrow .byte (.int (Int32.ofInt x)) = .int (Int32.ofInt x) := by
  have h : (Int32.ofInt x).toInt8.toInt32 = Int32.ofInt x := by
    apply Int32.toInt_inj.mp
    rw [Int8.toInt_toInt32, Int32.toInt_toInt8, zv_toInt (by unfold zv_rg; omega)]
    rw [Int.bmod_def]
    split <;> omega
  show Value.int (Int32.ofInt x).toInt8.toInt32 = _
  rw [h]
theorem zv_nar_char {x : Int} (hx : 0 ≤ x ∧ x ≤ 65535) : narrow .char (.int (Int32.ofInt x)) = .int (Int32.ofInt x) := by
  have hn : (Int32.ofInt x).toUInt32.toNat = x.toNat := by
    have e : (Int32.ofInt x).toUInt32.toNat = (Int32.ofInt x).toBitVec.toNat := rfl
    rw [e, Int32.toBitVec_ofInt, BitVec.toNat_ofInt]
    have : ((2 ^ 32 : Nat) : Int) = 4294967296 := by decide
    omega
  have h0 : (Int32.ofInt x).toUInt32.toUInt16.toUInt32 = (Int32.ofInt x).toUInt32 := by
    apply UInt32.toNat_inj.mp
    rw [UInt16.toNat_toUInt32, UInt32.toNat_toUInt16, hn]
    omega
  have h : (Int32.ofInt x).toUInt32.toUInt16.toUInt32.toInt32 = Int32.ofInt x := by
    rw [h0]
    rfl
  show Value.int (Int32.ofInt x).toUInt32.toUInt16.toUInt32.toInt32 = _
  rw [h]
theorem zv_met_ok {l : Launch} {D : va_G} {g : Nat → ClassId} {ba : Nat} {ak adV : Nat → Nat} {d : Nat} {oc : zv_C} (hC : zv_HC oc l D g ba ak adV d) {M : zv_M} (hV : zv_vM M) {o : Option Nat} (hP : zv_vP o M) {as : List zv_V} (hw : zv_wd as ≤ M.1.2.2.2.1) {h : zv_H} {rv : Option zv_V} {hE : zv_H} (hr : zv_lim oc M 0 (zv_en as M.1.2.2.2.1) [] h = some (rv, hE)) (hmo : zv_mo h hE) :
    Met l M.1.2.1 (Cond.code M.1.2.1 M.1.2.2.1 M.1.2.2.2.1 M.1.2.2.2.2 :: zv_tb) (zv_rm (d + 1) h hE) (zv_Pc D g ba ak adV as h) (zv_Qc D g ba ak rv hE) (zv_n hE - zv_n h) (zv_s hE - zv_s h) (zv_Ac ba) := by
  refine Met.ofW (cc := M.1.2.2.1) (maxL := M.1.2.2.2.1) (ret := M.1.2.2.2.2) hP.2.1 rfl ?_
  intro p e s m args below meth c s₁ B hml hv
  obtain ⟨rfl, hg, hRH, hK, hNF, hNM, hAO, hSS, hSC⟩ := hv
  have hts : ∀ w ∈ zv_tb, w.before (as.map (zv_cv ba ak)).toArray s = true := fun w hw => atoms_spec (ws := Cond.code M.1.2.1 M.1.2.2.1 M.1.2.2.2.1 M.1.2.2.2.2 :: zv_tb) B.pre w (List.mem_cons_of_mem _ hw)
  have hown : s.vm.findClass M.1.1 = some m.cls := by
    rw [hP.1]
    exact findClass_of_methodNamed B.named
  have hlocks := B.notSynchronized
  have hret := B.returns
  have hname : meth.name = M.1.2.1.name := (name_of_methodNamed B.named B.method).1
  have cx : zv_CX p l (headSpec (Cond.code M.1.2.1 M.1.2.2.1 M.1.2.2.2.1 M.1.2.2.2.2 :: zv_tb) (zv_rm (d + 1) h hE)).room s (as.map (zv_cv ba ak)).toArray m meth c M D g ba ak adV (zv_n h) (zv_s h) hE :=
    ⟨⟨B.exec, B.bytes, hml, hown, hts⟩, ⟨hK, hNF, hNM, hAO, hSS⟩, fun q => hname.trans q, hRH.1, by show zv_n hE ≤ zv_n hE - zv_n h + zv_n h; omega, by show zv_s hE ≤ zv_s hE - zv_s h + zv_s h; omega, hV⟩
  have he : zv_HE p l e (headSpec (Cond.code M.1.2.1 M.1.2.2.1 M.1.2.2.2.1 M.1.2.2.2.2 :: zv_tb) (zv_rm (d + 1) h hE)).room s m (as.map (zv_cv ba ak)).toArray below meth c (MQ below (zv_Qc D g ba ak rv hE) (as.map (zv_cv ba ak)).toArray s (zv_n hE - zv_n h) (zv_s hE - zv_s h) (zv_Ac ba)) M D g ba ak (zv_n h) (zv_s h) rv hE := by
    intro H locs lsR pc cells slots b1 b2 b3 b4
    have e1 : zv_n hE - zv_n h = cells := by omega
    have e2 : zv_s hE - zv_s h = slots := by omega
    rw [e1, e2]
    refine ⟨fun x hx hrg ht hdg => ?_, fun x hx ht hdg => ?_, fun r C hx ht hdg => ?_, fun hx ht hdg => ?_⟩
    · subst hx
      rcases ht with ht | ⟨ht, h01⟩ | ⟨ht, h01⟩ | ⟨ht, h01⟩
      · exact W.zret B.exec B.bytes (hret.trans ht) rfl (fun t ht hW => ⟨rfl, hrg, by rw [ht]; exact b1, b2.F ht⟩) b2.2.2 hdg hlocks
      · exact W.zret B.exec B.bytes (hret.trans ht) (zv_nar_bool h01) (fun t ht hW => ⟨rfl, hrg, by rw [ht]; exact b1, b2.F ht⟩) b2.2.2 hdg hlocks
      · exact W.zret B.exec B.bytes (hret.trans ht) (zv_nar_char h01) (fun t ht hW => ⟨rfl, hrg, by rw [ht]; exact b1, b2.F ht⟩) b2.2.2 hdg hlocks
      · exact W.zret B.exec B.bytes (hret.trans ht) (zv_nar_byte h01) (fun t ht hW => ⟨rfl, hrg, by rw [ht]; exact b1, b2.F ht⟩) b2.2.2 hdg hlocks
    · subst hx
      exact W.lret B.exec B.bytes (hret.trans ht) (fun t ht hW => ⟨rfl, trivial, by rw [ht]; exact b1, b2.F ht⟩) b2.2.2 hdg hlocks
    · subst hx
      refine W.aret B.exec B.bytes (hret.trans ht) (Or.inl ⟨C, rfl⟩) ?_ (fun t ht hW => ⟨rfl, trivial, by rw [ht]; exact b1, b2.F ht⟩) b2.2.2 hdg hlocks
      rcases zv_ad_cases ba ak r with ⟨-, q⟩ | ⟨a, q⟩
      · exact Or.inl q
      · exact Or.inr ⟨a, q⟩
    · subst hx
      exact W.vret B.exec B.bytes (hret.trans ht) (fun t ht hW => ⟨rfl, trivial, by rw [ht]; exact b1, b2.F ht⟩) b2.2.2 hdg hlocks
  have haw := zv_aw
  have hok := zv_lim_ok cx he hC (by show d + 9 ≤ d + 1 + 8; omega) (by show 60 * (d + 9) ≤ 60 * (d + 1 + 8); omega) (by show _ ≤ 60 * (d + 1 + 8); omega) hr
  have hll := zv_lg_len ba ak as
  have hl := lv_entry (as.map (zv_cv ba ak)) (n := M.1.2.2.2.1) (by omega)
  rw [lg_entry_eq]
  refine hok.2 s.heap [] 0 0 _ ⟨by rw [hl.1, zv_en_len as _ hw], hl.2.1, fun i v hv => ?_⟩ (zv_en_len as _ hw) (fun v hv => by cases hv) hRH va_S.rf (Nat.zero_add _) (Nat.zero_add _) hSC
  have := zv_en_ld ba ak as M.1.2.2.2.1 0 i v hv
  rw [Nat.zero_add] at this
  exact ⟨hl.2.2 _ this.1, hg v this.2⟩
/-- the JDK's members -/
def zv_JOK (l : Launch) (D : va_G) (g : Nat → ClassId) (ba : Nat) (ak adV : Nat → Nat) : Prop := ∀ d id as h o h1, 900 ≤ id → zv_jd id as h = some (o, h1) → zv_cal l D g ba ak adV (d + 1) id as h o h1
theorem zv_sem_cal {l : Launch} {D : va_G} {g : Nat → ClassId} {ba : Nat} {ak adV : Nat → Nat} (hJ : zv_JOK l D g ba ak adV) (hV : ∀ id o M, zv_prog id = some (o, M) → zv_vM M ∧ zv_vP o M) {d : Nat} (hC : zv_HC (zv_cs zv_prog d) l D g ba ak adV d) {id : Nat} {as : List zv_V} {h : zv_H} {o : Option zv_V} {h1 : zv_H} (hr : zv_sem zv_prog (zv_cs zv_prog d) id as h = some (o, h1)) : zv_cal l D g ba ak adV (d + 1) id as h o h1 := by
  have hmo := zv_mn_sem (zv_HM_cs zv_prog d) hr
  unfold zv_sem at hr
  split at hr
  · exact hJ d id as h o h1 ‹_› hr
  · rename_i hid
    cases hp : zv_prog id with
    | none => rw [hp] at hr; cases hr
    | some q =>
      obtain ⟨oo, M⟩ := q
      rw [hp] at hr
      dsimp only at hr
      split at hr
      · rename_i hq
        obtain ⟨hrc, hwd⟩ := hq
        obtain ⟨hv, hP⟩ := hV id oo M hp
        have hinf : zv_inf id = some M.1.2 := by
          unfold zv_inf
          rw [if_neg hid, hp]
          rfl
        refine ⟨hmo, fun hI y bytes maxL ret e => ?_, fun y bytes maxL ret e => ?_⟩
        · rw [hinf] at e
          have e2 := Option.some.inj e
          have hy : M.1.2.1 = y := congrArg Prod.fst e2
          unfold zv_isI at hI
          rw [if_neg hid, hp] at hI
          cases oo with
          | none => cases hI
          | some ci =>
            unfold zv_rc at hrc
            split at hrc
            · rename_i e3; cases e3
            · rename_i ci' r t e3
              cases e3
              rcases hP.2.2 ci rfl with ⟨h10, hS⟩ | ⟨q, h10, hq1, hq2⟩
              · rw [if_pos h10] at hrc
                exact ⟨r, t, rfl, Or.inr ⟨hrc.1, hrc.2, by rw [← hy]; exact hS⟩⟩
              · rw [if_neg h10] at hrc
                exact ⟨r, t, rfl, Or.inl ⟨ci, q, hrc, hq1, hq2.trans (congrArg MethodName.cls hy)⟩⟩
            · exact hrc.elim
        · rw [hinf] at e
          have e2 := Option.some.inj e
          have := zv_met_ok hC hv hP hwd hr hmo
          have h1 : M.1.2.1 = y := congrArg Prod.fst e2
          have h2 : M.1.2.2.1 = bytes := congrArg (fun z => z.2.1) e2
          have h3 : M.1.2.2.2.1 = maxL := congrArg (fun z => z.2.2.1) e2
          have h4 : M.1.2.2.2.2 = ret := congrArg (fun z => z.2.2.2) e2
          rw [h1, h2, h3, h4] at this
          exact this
      · cases hr
theorem zv_HC_cs {l : Launch} {D : va_G} {g : Nat → ClassId} {ba : Nat} {ak adV : Nat → Nat} (hJ : zv_JOK l D g ba ak adV) (hV : ∀ id o M, zv_prog id = some (o, M) → zv_vM M ∧ zv_vP o M) : ∀ d, zv_HC (zv_cs zv_prog d) l D g ba ak adV d
  | 0 => ⟨fun _ _ _ _ e => (by cases e), fun _ _ _ _ _ e => (by cases e), fun _ _ _ _ _ e => (by cases e), fun _ _ _ _ _ e => (by cases e)⟩
  | d + 1 => ⟨fun _ _ _ _ e => zv_sem_cal hJ hV (zv_HC_cs hJ hV d) (zv_pjV_eq e), fun _ _ _ _ _ e => zv_sem_cal hJ hV (zv_HC_cs hJ hV d) (zv_pjI_eq e), fun _ _ _ _ _ e => zv_sem_cal hJ hV (zv_HC_cs hJ hV d) (zv_pjJ_eq e), fun _ _ _ _ _ e => zv_sem_cal hJ hV (zv_HC_cs hJ hV d) (zv_pjR_eq e)⟩
end
section
/-! the tables, checked: the words of this in general -/
theorem zv_lk_mem {α : Type} : ∀ (l : List (Nat × α)) (n : Nat) (a : α), zv_lk l n = some a → (n, a) ∈ l
  | [], n, a, h => by cases h
  | q :: l, n, a, h => by
    unfold zv_lk at h
    cases hb : Nat.beq q.1 n with
    | true =>
      rw [hb] at h
      have e1 : q.1 = n := Nat.eq_of_beq_eq_true hb
      have e2 : q.2 = a := Option.some.inj h
      rw [← e1, ← e2]
      exact List.mem_cons_self
    | false =>
      rw [hb] at h
      exact List.mem_cons_of_mem _ (zv_lk_mem l n a h)
/-- a class's pool says what is so -/
def zv_vPl (own : String) (P : zv_P) : Prop :=
  (∀ q ∈ P.1, (zv_ft q.2.1 q.2.2.1 = 4 ∧ Cond.fieldLink own q.1 "java/lang/String" "coder" "B" ∈ zv_tb) ∨ (zv_ft q.2.1 q.2.2.1 = 5 ∧ Cond.fieldLink own q.1 "java/lang/String" "value" "[B" ∈ zv_tb) ∨ ∃ C T N ty, zv_CF q.2.1 C T N ty ∧ q.2.2.1 < N ∧ (q.2.2.2 = false → Cond.fieldLink own q.1 C (T q.2.2.1).2.1 (T q.2.2.1).2.2.1 ∈ zv_tb) ∧ (q.2.2.2 = true → ∃ host, Cond.fieldLinkNest own q.1 C (T q.2.2.1).2.1 (T q.2.2.1).2.2.1 host ∈ tables_1)) ∧
  (∀ q ∈ P.2.1, (q.2.2.1 = 20 ∧ Cond.methodLink own q.1 Lib.objectInit ∈ zv_tb ∧ Cond.instanceMethod Lib.objectInit ∈ zv_tb ∧ Cond.code Lib.objectInit ⟨#[0xb1]⟩ 1 none ∈ zv_tb) ∨
    (q.2.2.1 = 21 ∧ Cond.methodLink own q.1 arraycopyName ∈ zv_tb ∧ Cond.native arraycopyName ∈ zv_tb ∧ Cond.static arraycopyName ∈ zv_tb ∧ Cond.initialized "java/lang/System" ∈ zv_tb) ∨
    (q.2.2.1 = 22 ∧ Cond.methodLink own q.1 Lib.Math.max.name ∈ zv_tb) ∨ (q.2.2.1 = 23 ∧ Cond.methodLink own q.1 Lib.Math.min.name ∈ zv_tb) ∨
    ∃ y bytes maxL ret, zv_inf q.2.1 = some (y, (bytes, (maxL, ret))) ∧ zv_vC own q.1 q.2 y bytes maxL ret) ∧
  (∀ q ∈ P.2.2.2.1, Cond.constantLong own q.1 q.2 ∈ zv_tb) ∧
  (∀ q ∈ P.2.2.2.2.1, q.2 < 24 ∧ zv_sown q.2 = own ∧ zv_six.getD q.2 0 = q.1) ∧
  (∀ q ∈ P.2.2.2.2.2, ∃ C T N ty, zv_CF q.2 C T N ty ∧ Cond.classLink own q.1 C ∈ zv_tb ∧ Cond.instantiable C N ∈ zv_tb ∧ Cond.initialized C ∈ zv_tb) ∧
  (∀ q ∈ P.2.2.1, q.2 = 1 ∧ Cond.fieldLink own q.1 "java/lang/String" "COMPACT_STRINGS" "Z" ∈ zv_tb)
def zv_fin (ci k : Nat) : Bool := match vwCl[ci]? with
  | some q => (q.2.1 k).2.2.2
  | none => true
def zv_chk (ci : Nat) (M : zv_M) : Bool :=
  (M.2.1.all fun q => match decode M.1.2.2.1 q.1 with
    | .ok (i, len) => decide (i = q.2) && (Nat.beq len (zv_len i) || zv_sw i)
    | .error _ => false) &&
  (M.2.1.all fun q => match q.2 with
    | .putfield ix => match zv_lk M.2.2.2.1 ix with
      | some f => !(zv_fin f.1 f.2.1) || (decide (M.1.2.1.name = "<init>") && (Nat.beq f.1 ci && !f.2.2))
      | none => true
    | _ => true) && Nat.ble M.1.2.2.2.1 40
theorem zv_vM_of {ci : Nat} {M : zv_M} {q : vw_C} (hq : vwCl[ci]? = some q) (hown : q.1 = M.1.1) (hpl : zv_vPl M.1.1 M.2.2.2) (hc : zv_chk ci M = true) : zv_vM M := by
  unfold zv_chk at hc
  simp only [Bool.and_eq_true] at hc
  obtain ⟨⟨h1, h2⟩, h3⟩ := hc
  obtain ⟨p1, p2, p3, p4, p5, p6⟩ := hpl
  refine ⟨fun pc i hi => ?_, fun ix f hf => ?_, fun ix e he => p2 _ (zv_lk_mem _ _ _ he), fun ix v hv => p3 _ (zv_lk_mem _ _ _ hv), fun ix k hk => p4 _ (zv_lk_mem _ _ _ hk), fun ix k hk => p5 _ (zv_lk_mem _ _ _ hk), Nat.le_of_ble_eq_true h3, fun ix v hv => p6 _ (zv_lk_mem _ _ _ hv)⟩
  · have := List.all_eq_true.mp h1 _ (zv_lk_mem _ _ _ hi)
    dsimp only at this
    split at this
    · rename_i i' len hd
      simp only [Bool.and_eq_true, Bool.or_eq_true, decide_eq_true_eq] at this
      refine ⟨len, by rw [hd, this.1], ?_⟩
      rw [← this.1]
      rcases this.2 with z | z
      · exact Or.inl (Nat.eq_of_beq_eq_true z)
      · exact Or.inr z
    · cases this
  · rcases p1 _ (zv_lk_mem _ _ _ hf) with z | z | ⟨C, T, N, ty, a1, a2, a3, a4⟩
    · exact Or.inl z
    · exact Or.inr (Or.inl z)
    refine Or.inr (Or.inr ⟨C, T, N, ty, a1, a2, ?_, fun pc hpc hfin => ?_⟩)
    · cases hb : f.2.2 with
      | false => exact Or.inl (a3 hb)
      | true => exact Or.inr (a4 hb)
    · have := List.all_eq_true.mp h2 _ (zv_lk_mem _ _ _ hpc)
      dsimp only at this
      rw [hf] at this
      dsimp only at this
      have hz : zv_fin f.1 f.2.1 = true := by
        unfold zv_fin
        rw [a1.1]
        exact hfin
      rw [hz] at this
      simp only [Bool.not_true, Bool.false_or, Bool.and_eq_true, decide_eq_true_eq, Bool.not_eq_true'] at this
      obtain ⟨b1, b2, b3⟩ := this
      refine ⟨a3 b3, b1, ?_⟩
      have e1 : f.1 = ci := Nat.eq_of_beq_eq_true b2
      have e2 := a1.1
      rw [e1] at e2
      have e3 := Option.some.inj (hq.symm.trans e2)
      rw [← hown, e3]
theorem zv_vM_of2 {M : zv_M} (hpl : zv_vPl M.1.1 M.2.2.2) (hf : ∀ q ∈ M.2.2.2.1, (zv_ft q.2.1 q.2.2.1 = 4 ∨ zv_ft q.2.1 q.2.2.1 = 5)) (hc : zv_chk 99 M = true) : zv_vM M := by
  unfold zv_chk at hc
  simp only [Bool.and_eq_true] at hc
  obtain ⟨⟨h1, h2⟩, h3⟩ := hc
  obtain ⟨p1, p2, p3, p4, p5, p6⟩ := hpl
  refine ⟨fun pc i hi => ?_, fun ix f hq => ?_, fun ix e he => p2 _ (zv_lk_mem _ _ _ he), fun ix v hv => p3 _ (zv_lk_mem _ _ _ hv), fun ix k hk => p4 _ (zv_lk_mem _ _ _ hk), fun ix k hk => p5 _ (zv_lk_mem _ _ _ hk), Nat.le_of_ble_eq_true h3, fun ix v hv => p6 _ (zv_lk_mem _ _ _ hv)⟩
  · have := List.all_eq_true.mp h1 _ (zv_lk_mem _ _ _ hi)
    dsimp only at this
    split at this
    · rename_i i' len hd
      simp only [Bool.and_eq_true, Bool.or_eq_true, decide_eq_true_eq] at this
      refine ⟨len, by rw [hd, this.1], ?_⟩
      rw [← this.1]
      rcases this.2 with z | z
      · exact Or.inl (Nat.eq_of_beq_eq_true z)
      · exact Or.inr z
    · cases this
  · rcases p1 _ (zv_lk_mem _ _ _ hq) with z | z | ⟨C, T, N, ty, a1, a2, a3, a4⟩
    · exact Or.inl z
    · exact Or.inr (Or.inl z)
    · exfalso
      have htk := a1.2.2.2.2.2.2 _ a2
      rcases hf _ (zv_lk_mem _ _ _ hq) with z | z <;> rw [z] at htk <;> exact htk.elim
end
section
def zv_tykb (n : Nat) (t : FieldType) : Bool := match n, t with
  | 0, .int => true
  | 1, .boolean => true
  | 2, .long => true
  | 3, .object _ => true
  | 3, .array _ => true
  | _, _ => false
theorem zv_tykb_ok {n : Nat} {t : FieldType} (h : zv_tykb n t = true) : zv_tyk n t := by
  unfold zv_tykb at h
  split at h
  · rfl
  · rfl
  · rfl
  · exact Or.inl ⟨_, rfl⟩
  · exact Or.inr ⟨_, rfl⟩
  · cases h
/-- what is so of a callee, whoever calls it -/
def zv_vD (y : MethodName) (bytes : ByteArray) (maxL : Nat) (ret : Option FieldType) : Prop := Cond.code y bytes maxL ret ∈ zv_tb ∧ Cond.initialized y.cls ∈ zv_tb ∧ (y.cls ≠ "java/lang/invoke/MethodHandle" ∧ y.cls ≠ "java/lang/invoke/VarHandle") ∧ maxL ≤ 40
theorem zv_CF_0 : zv_CF 0 RX0 TX0 14 tyX0 := ⟨rfl, (by decide +kernel), fun w hw => List.mem_filter.mpr ⟨inX0 w hw, (by
  have h : (wsX00).all goodWord = true := by decide +kernel
  exact List.all_eq_true.mp h w hw)⟩, tyX0_ok, nmX0, (by decide +kernel), fun k hk => (by
  have h : ∀ k, k < 14 → zv_tykb (zv_ft 0 k) (tyX0 k) = true := by decide +kernel
  exact zv_tykb_ok (h k hk))⟩
theorem zv_CF_1 : zv_CF 1 RX1 TX1 4 tyX1 := ⟨rfl, (by decide +kernel), fun w hw => List.mem_filter.mpr ⟨inX1 w hw, (by
  have h : (wsX10).all goodWord = true := by decide +kernel
  exact List.all_eq_true.mp h w hw)⟩, tyX1_ok, nmX1, (by decide +kernel), fun k hk => (by
  have h : ∀ k, k < 4 → zv_tykb (zv_ft 1 k) (tyX1 k) = true := by decide +kernel
  exact zv_tykb_ok (h k hk))⟩
theorem zv_CF_2 : zv_CF 2 RX2 TX2 3 tyX2 := ⟨rfl, (by decide +kernel), fun w hw => List.mem_filter.mpr ⟨inX2 w hw, (by
  have h : (wsX20).all goodWord = true := by decide +kernel
  exact List.all_eq_true.mp h w hw)⟩, tyX2_ok, nmX2, (by decide +kernel), fun k hk => (by
  have h : ∀ k, k < 3 → zv_tykb (zv_ft 2 k) (tyX2 k) = true := by decide +kernel
  exact zv_tykb_ok (h k hk))⟩
theorem zv_CF_3 : zv_CF 3 RX3 TX3 13 tyX3 := ⟨rfl, (by decide +kernel), fun w hw => List.mem_filter.mpr ⟨inX3 w hw, (by
  have h : (wsX30).all goodWord = true := by decide +kernel
  exact List.all_eq_true.mp h w hw)⟩, tyX3_ok, nmX3, (by decide +kernel), fun k hk => (by
  have h : ∀ k, k < 13 → zv_tykb (zv_ft 3 k) (tyX3 k) = true := by decide +kernel
  exact zv_tykb_ok (h k hk))⟩
theorem zv_CF_4 : zv_CF 4 RX4 TX4 10 tyX4 := ⟨rfl, (by decide +kernel), fun w hw => List.mem_filter.mpr ⟨inX4 w hw, (by
  have h : (wsX40).all goodWord = true := by decide +kernel
  exact List.all_eq_true.mp h w hw)⟩, tyX4_ok, nmX4, (by decide +kernel), fun k hk => (by
  have h : ∀ k, k < 10 → zv_tykb (zv_ft 4 k) (tyX4 k) = true := by decide +kernel
  exact zv_tykb_ok (h k hk))⟩
theorem zv_CF_5 : zv_CF 5 RX5 TX5 18 tyX5 := ⟨rfl, (by decide +kernel), fun w hw => List.mem_filter.mpr ⟨inX5 w hw, (by
  have h : (wsX50).all goodWord = true := by decide +kernel
  exact List.all_eq_true.mp h w hw)⟩, tyX5_ok, nmX5, (by decide +kernel), fun k hk => (by
  have h : ∀ k, k < 18 → zv_tykb (zv_ft 5 k) (tyX5 k) = true := by decide +kernel
  exact zv_tykb_ok (h k hk))⟩
theorem zv_CF_6 : zv_CF 6 RX6 TX6 6 tyX6 := ⟨rfl, (by decide +kernel), fun w hw => List.mem_filter.mpr ⟨inX6 w hw, (by
  have h : (wsX60).all goodWord = true := by decide +kernel
  exact List.all_eq_true.mp h w hw)⟩, tyX6_ok, nmX6, (by decide +kernel), fun k hk => (by
  have h : ∀ k, k < 6 → zv_tykb (zv_ft 6 k) (tyX6 k) = true := by decide +kernel
  exact zv_tykb_ok (h k hk))⟩
theorem zv_CF_7 : zv_CF 7 RX7 TX7 2 tyX7 := ⟨rfl, (by decide +kernel), fun w hw => List.mem_filter.mpr ⟨inX7 w hw, (by
  have h : (wsX70).all goodWord = true := by decide +kernel
  exact List.all_eq_true.mp h w hw)⟩, tyX7_ok, nmX7, (by decide +kernel), fun k hk => (by
  have h : ∀ k, k < 2 → zv_tykb (zv_ft 7 k) (tyX7 k) = true := by decide +kernel
  exact zv_tykb_ok (h k hk))⟩
theorem zv_CF_8 : zv_CF 8 RX8 TX8 8 tyX8 := ⟨rfl, (by decide +kernel), fun w hw => List.mem_filter.mpr ⟨inX8 w hw, (by
  have h : (wsX80).all goodWord = true := by decide +kernel
  exact List.all_eq_true.mp h w hw)⟩, tyX8_ok, nmX8, (by decide +kernel), fun k hk => (by
  have h : ∀ k, k < 8 → zv_tykb (zv_ft 8 k) (tyX8 k) = true := by decide +kernel
  exact zv_tykb_ok (h k hk))⟩
theorem zv_CF_9 : zv_CF 9 RX9 TX9 48 tyX9 := ⟨rfl, (by decide +kernel), fun w hw => List.mem_filter.mpr ⟨inX9 w hw, (by
  have h : (wsX90).all goodWord = true := by decide +kernel
  exact List.all_eq_true.mp h w hw)⟩, tyX9_ok, nmX9, (by decide +kernel), fun k hk => (by
  have h : ∀ k, k < 48 → zv_tykb (zv_ft 9 k) (tyX9 k) = true := by decide +kernel
  exact zv_tykb_ok (h k hk))⟩
end
section
/-! String.checkIndex, by hand -/
def zj_P : MethodName := ⟨"jdk/internal/util/Preconditions", "checkIndex", "(IILjava/util/function/BiFunction;)I"⟩
def zj_S : MethodName := ⟨"java/lang/String", "checkIndex", "(II)V"⟩
theorem zj_p0 : decode prog_19_method_11_code 0 = .ok (.iload_n 0, 1) := by decide +kernel
theorem zj_p1 : decode prog_19_method_11_code 1 = .ok (.ifCond .lt 8, 3) := by decide +kernel
theorem zj_p4 : decode prog_19_method_11_code 4 = .ok (.iload_n 0, 1) := by decide +kernel
theorem zj_p5 : decode prog_19_method_11_code 5 = .ok (.iload_n 1, 1) := by decide +kernel
theorem zj_p6 : decode prog_19_method_11_code 6 = .ok (.if_icmp .lt 10, 3) := by decide +kernel
theorem zj_p16 : decode prog_19_method_11_code 16 = .ok (.iload_n 0, 1) := by decide +kernel
theorem zj_p17 : decode prog_19_method_11_code 17 = .ok (.ireturn, 1) := by decide +kernel
theorem zj_s0 : decode prog_15_method_155_code 0 = .ok (.iload_n 0, 1) := by decide +kernel
theorem zj_s1 : decode prog_15_method_155_code 1 = .ok (.iload_n 1, 1) := by decide +kernel
theorem zj_s2 : decode prog_15_method_155_code 2 = .ok (.getstatic 1053, 3) := by decide +kernel
theorem zj_s5 : decode prog_15_method_155_code 5 = .ok (.invokestatic 1059, 3) := by decide +kernel
theorem zj_s8 : decode prog_15_method_155_code 8 = .ok (.pop, 1) := by decide +kernel
theorem zj_s9 : decode prog_15_method_155_code 9 = .ok (.return_, 1) := by decide +kernel
def zj_Pc (x y : Int) (v : Value) : Array Value → State → Prop := fun a _ => a = ([.int (Int32.ofInt x), .int (Int32.ofInt y), v] : List Value).toArray
theorem zj_pre (l : Launch) (ba : Nat) {x y : Int} (hx : zv_rg x) (hy : zv_rg y) (hxy : 0 ≤ x ∧ x < y) {v : Value} (hv : v.category = 1) :
    Met l zj_P (Cond.code zj_P prog_19_method_11_code 3 (some .int) :: zv_tb) { frames := 1, cells := 0, slots := 0, locals := 30 } (zj_Pc x y v) (vp_Si (fun r => r = Int32.ofInt x)) 0 0 (zv_Ac ba) := by
  refine Met.ofW (cc := prog_19_method_11_code) (maxL := 3) (ret := some .int) (by decide) rfl ?_
  intro p e s m args below meth c s₁ B hml hP
  have hP : args = _ := hP
  subst hP
  have hx1 := B.exec
  have hb := B.bytes
  have hr := B.returns
  have hlocks := B.notSynchronized
  have hl := lv_entry ([.int (Int32.ofInt x), .int (Int32.ofInt y), v]) (n := 3) (by
    unfold lg_sl
    simp only [List.flatMap_cons, List.flatMap_nil, List.length_append, List.length_nil]
    rw [if_neg (by omega : ¬ v.category = 2)]
    show 1 + (1 + (1 + 0)) ≤ 3
    omega)
  rw [lg_entry_eq]
  generalize ((lg_sl ([.int (Int32.ofInt x), .int (Int32.ofInt y), v]) ++ List.replicate (3 - (lg_sl ([.int (Int32.ofInt x), .int (Int32.ofInt y), v])).length) Slot.unset).toArray) = ls at hl ⊢
  refine lv_iload_n hx1 hb zj_p0 rfl (lv_at hl 0 rfl) ?_
  refine lv_if_lt (tgt := 9) hx1 hb zj_p1 (by decide) (fun q => absurd ((zv_lt0 hx).mp q) (by omega)) (fun _ => ?_)
  refine lv_iload_n hx1 hb zj_p4 rfl (lv_at hl 0 rfl) ?_
  refine lv_iload_n hx1 hb zj_p5 rfl (lv_at hl 1 rfl) ?_
  refine lv_icmp_lt (tgt := 16) hx1 hb zj_p6 (by decide) (fun _ => ?_) (fun q => absurd ((zv_lt hx hy).mpr hxy.2) q)
  refine lv_iload_n hx1 hb zj_p16 rfl (lv_at hl 0 rfl) ?_
  exact W.iret hx1 hb hr (fun t ht hW => ⟨_, rfl, rfl, ht⟩) (fun q h => by cases h) zj_p17 hlocks
theorem zj_str {l : Launch} {D : va_G} {g : Nat → ClassId} {ba : Nat} {ak adV : Nat → Nat} {d : Nat} {x y : Int} (hxy : 0 ≤ x ∧ x < y) {h : zv_H} :
    Met l zj_S (Cond.code zj_S prog_15_method_155_code 2 none :: zv_tb) (zv_rm (d + 1) h h) (zv_Pc D g ba ak adV [zv_i x, zv_i y] h) (zv_Qc D g ba ak none h) (zv_n h - zv_n h) (zv_s h - zv_s h) (zv_Ac ba) := by
  refine Met.ofW (cc := prog_15_method_155_code) (maxL := 2) (ret := none) (by decide) rfl ?_
  intro p e s m args below meth c s₁ B hml hv
  obtain ⟨rfl, hg, hRH, hK, hNF, hNM, hAO, ⟨-, -, -, hZq⟩, hSC⟩ := hv
  have hts : ∀ w ∈ zv_tb, w.before (([zv_i x, zv_i y] : List zv_V).map (zv_cv ba ak)).toArray s = true := fun w hw => atoms_spec (ws := Cond.code zj_S prog_15_method_155_code 2 none :: zv_tb) B.pre w (List.mem_cons_of_mem _ hw)
  have hx : zv_rg x := (zv_fa hg).1
  have hy : zv_rg y := (zv_fa (zv_fa hg).2).1
  have hx1 := B.exec
  have hb := B.bytes
  have hr := B.returns
  have hlocks := B.notSynchronized
  have hown : s.vm.findClass "java/lang/String" = some m.cls := findClass_of_methodNamed B.named
  have hl := lv_entry (([zv_i x, zv_i y] : List zv_V).map (zv_cv ba ak)) (n := 2) (by rw [zv_lg_len]; exact Nat.le_refl 2)
  rw [lg_entry_eq]
  generalize ((lg_sl (([zv_i x, zv_i y] : List zv_V).map (zv_cv ba ak)) ++ List.replicate (2 - (lg_sl (([zv_i x, zv_i y] : List zv_V).map (zv_cv ba ak))).length) Slot.unset).toArray) = ls at hl ⊢
  have hl : lv_has ls 2 [(0, .int (Int32.ofInt x)), (1, .int (Int32.ofInt y))] := hl
  refine lv_iload_n hx1 hb zj_s0 rfl (lv_at hl 0 rfl) ?_
  refine lv_iload_n hx1 hb zj_s1 rfl (lv_at hl 1 rfl) ?_
  have key : ∀ v : Value, v.category = 1 → va_Z "jdk/internal/util/Preconditions" "SIOOBE_FORMATTER" "Ljava/util/function/BiFunction;" v (zv_Ac ba) s s.heap → W p l e (headSpec (Cond.code zj_S prog_15_method_155_code 2 none :: zv_tb) (zv_rm (d + 1) h h)).room s m (([zv_i x, zv_i y] : List zv_V).map (zv_cv ba ak)).toArray below meth c s.heap [] 0 0 (MQ below (zv_Qc D g ba ak none h) (([zv_i x, zv_i y] : List zv_V).map (zv_cv ba ak)).toArray s (zv_n h - zv_n h) (zv_s h - zv_s h) (zv_Ac ba)) (F0 m 2 ls [.int (Int32.ofInt y), .int (Int32.ofInt x)]) := by
    intro v hc hZ
    refine va_gets hx1 hb hZ va_S.rf hown (hts _ (zv_tbk_3 42 rfl rfl)) (fun _ q => q) zj_s2 ?_
    have hrun := va_runS (l := l) (R := (headSpec (Cond.code zj_S prog_15_method_155_code 2 none :: zv_tb) (zv_rm (d + 1) h h)).room) (e := e) (below := below) (meth := meth) (H := s.heap) (locs := []) (cells := 0) (slots := 0) (g := F0 m 5 ls [v, .int (Int32.ofInt y), .int (Int32.ofInt x)]) (As := [.int (Int32.ofInt x), .int (Int32.ofInt y), v]) (rest := []) (n := 3) (own := "java/lang/String") (Ts := zv_tb) ⟨hx1, hb, hml, hown, hts⟩ (zj_pre l ba hx hy hxy hc) (va_cwS (index := 1059) 3 hts (zv_tb_good (fun w hw => by
        simp only [va_wsS, List.mem_append, List.mem_cons, List.not_mem_nil, or_false] at hw
        rcases hw with (rfl | rfl | rfl) | rfl | hw
        · exact (zv_tbk_3 44 rfl rfl)
        · exact (zv_tbk_3 45 rfl rfl)
        · exact (zv_tbk_1 14 rfl rfl)
        · exact (zv_tbk_3 46 rfl rfl)
        · exact hw)) rfl rfl rfl ⟨by decide, by decide, by decide +kernel⟩ ⟨by show 1 + 1 ≤ d + 1 + 8; omega, by show 8 + (3 + 11) + 30 ≤ 60 * (d + 1 + 8); omega⟩) ⟨fun _ _ _ _ q => q, fun U hU hW => rfl⟩ rfl rfl hl.1 rfl (lv_room (by decide)) zj_s5 ⟨Nat.zero_le _, Nat.zero_le _⟩
    intro T hT X
    obtain ⟨v1, st₀, t, T', L, h0, X', hL, e1, e2, ⟨r, hv1, hrx, hh⟩, stp⟩ := hrun T hT X
    cases hv1
    rw [h0] at hh
    have kk : W p l e (headSpec (Cond.code zj_S prog_15_method_155_code 2 none :: zv_tb) (zv_rm (d + 1) h h)).room s m (([zv_i x, zv_i y] : List zv_V).map (zv_cv ba ak)).toArray below meth c s.heap ([] ++ L) (0 + 0) (0 + 0) (MQ below (zv_Qc D g ba ak none h) (([zv_i x, zv_i y] : List zv_V).map (zv_cv ba ak)).toArray s (zv_n h - zv_n h) (zv_s h - zv_s h) (zv_Ac ba)) (F0 m 8 ls [.int r]) := by
      refine lv_pop hx1 hb zj_s8 rfl ?_
      rw [Nat.sub_self, Nat.sub_self]
      exact W.vret hx1 hb hr (fun t ht hW => ⟨rfl, trivial, by rw [ht]; exact hRH, ⟨by rw [ht]; exact Nat.le_refl _, fun q _ _ => by rw [ht]⟩⟩) (fun q hq => hL q (by simpa using hq)) zj_s9 hlocks
    obtain ⟨t2, a1, b1⟩ := kk T' (by rw [e1, hh]) X'
    exact ⟨t2, stp t2 a1, b1⟩
  rcases hZq with hZ | ⟨a, hZ⟩
  · exact key .null rfl hZ
  · exact key (.ref a) rfl hZ
theorem zv_JOK_ok (l : Launch) (D : va_G) (g : Nat → ClassId) (ba : Nat) (ak adV : Nat → Nat) : zv_JOK l D g ba ak adV := by
  intro d id as h o h1 hid hr
  unfold zv_jd at hr
  split at hr
  · split at hr <;> cases hr
    rename_i x y hxy
    refine ⟨zv_mo.rf h, fun hI => (by cases hI), fun y' bytes maxL ret e => ?_⟩
    cases e
    exact zj_str hxy
  · cases hr
end
