theorem zv_tb_of {w : Cond} (i : Nat) (h : tables_1[i]? = some w) (hg : goodWord w = true) : w ∈ zv_tb := List.mem_filter.mpr ⟨List.mem_append_right _ (List.mem_of_getElem? h), hg⟩
theorem zv_tb_sel {w : Cond} (h : w ∈ k2_sels lw_privs) (hg : goodWord w = true) : w ∈ zv_tb := List.mem_filter.mpr ⟨List.mem_append_left _ h, hg⟩
theorem zv_tb_good {ws : List Cond} (h : ∀ w ∈ ws, w ∈ zv_tb) : GoodIn zv_tb ws := fun w hw => ⟨h w hw, good_of_word (List.mem_filter.mp (h w hw)).2⟩
theorem zv_tb_lw {w : Cond} (h : w ∈ zv_tb) : w ∈ lw_tbl := (List.mem_filter.mp h).1
theorem zv_t1_1 {w : Cond} (i : Nat) (h : tables_1_1[i]? = some w) : w ∈ tables_1 := (List.mem_append_left _ (List.mem_of_getElem? h))
theorem zv_tbk_1 {w : Cond} (i : Nat) (h : tables_1_1[i]? = some w) (hg : goodWord w = true) : w ∈ zv_tb := List.mem_filter.mpr ⟨List.mem_append_right _ (zv_t1_1 i h), hg⟩
theorem zv_t1_2 {w : Cond} (i : Nat) (h : tables_1_2[i]? = some w) : w ∈ tables_1 := (List.mem_append_right _ (List.mem_append_left _ (List.mem_of_getElem? h)))
theorem zv_tbk_2 {w : Cond} (i : Nat) (h : tables_1_2[i]? = some w) (hg : goodWord w = true) : w ∈ zv_tb := List.mem_filter.mpr ⟨List.mem_append_right _ (zv_t1_2 i h), hg⟩
theorem zv_t1_3 {w : Cond} (i : Nat) (h : tables_1_3[i]? = some w) : w ∈ tables_1 := (List.mem_append_right _ (List.mem_append_right _ (List.mem_append_left _ (List.mem_of_getElem? h))))
theorem zv_tbk_3 {w : Cond} (i : Nat) (h : tables_1_3[i]? = some w) (hg : goodWord w = true) : w ∈ zv_tb := List.mem_filter.mpr ⟨List.mem_append_right _ (zv_t1_3 i h), hg⟩
theorem zv_t1_4 {w : Cond} (i : Nat) (h : tables_1_4[i]? = some w) : w ∈ tables_1 := (List.mem_append_right _ (List.mem_append_right _ (List.mem_append_right _ (List.mem_append_left _ (List.mem_of_getElem? h)))))
theorem zv_tbk_4 {w : Cond} (i : Nat) (h : tables_1_4[i]? = some w) (hg : goodWord w = true) : w ∈ zv_tb := List.mem_filter.mpr ⟨List.mem_append_right _ (zv_t1_4 i h), hg⟩
theorem zv_t1_5 {w : Cond} (i : Nat) (h : tables_1_5[i]? = some w) : w ∈ tables_1 := (List.mem_append_right _ (List.mem_append_right _ (List.mem_append_right _ (List.mem_append_right _ (List.mem_append_left _ (List.mem_of_getElem? h))))))
theorem zv_tbk_5 {w : Cond} (i : Nat) (h : tables_1_5[i]? = some w) (hg : goodWord w = true) : w ∈ zv_tb := List.mem_filter.mpr ⟨List.mem_append_right _ (zv_t1_5 i h), hg⟩
theorem zv_t1_6 {w : Cond} (i : Nat) (h : tables_1_6[i]? = some w) : w ∈ tables_1 := (List.mem_append_right _ (List.mem_append_right _ (List.mem_append_right _ (List.mem_append_right _ (List.mem_append_right _ (List.mem_append_left _ (List.mem_of_getElem? h)))))))
theorem zv_tbk_6 {w : Cond} (i : Nat) (h : tables_1_6[i]? = some w) (hg : goodWord w = true) : w ∈ zv_tb := List.mem_filter.mpr ⟨List.mem_append_right _ (zv_t1_6 i h), hg⟩
theorem zv_t1_7 {w : Cond} (i : Nat) (h : tables_1_7[i]? = some w) : w ∈ tables_1 := (List.mem_append_right _ (List.mem_append_right _ (List.mem_append_right _ (List.mem_append_right _ (List.mem_append_right _ (List.mem_append_right _ (List.mem_append_left _ (List.mem_of_getElem? h))))))))
theorem zv_tbk_7 {w : Cond} (i : Nat) (h : tables_1_7[i]? = some w) (hg : goodWord w = true) : w ∈ zv_tb := List.mem_filter.mpr ⟨List.mem_append_right _ (zv_t1_7 i h), hg⟩
theorem zv_t1_8 {w : Cond} (i : Nat) (h : tables_1_8[i]? = some w) : w ∈ tables_1 := (List.mem_append_right _ (List.mem_append_right _ (List.mem_append_right _ (List.mem_append_right _ (List.mem_append_right _ (List.mem_append_right _ (List.mem_append_right _ (List.mem_append_left _ (List.mem_of_getElem? h)))))))))
theorem zv_tbk_8 {w : Cond} (i : Nat) (h : tables_1_8[i]? = some w) (hg : goodWord w = true) : w ∈ zv_tb := List.mem_filter.mpr ⟨List.mem_append_right _ (zv_t1_8 i h), hg⟩
theorem zv_t1_9 {w : Cond} (i : Nat) (h : tables_1_9[i]? = some w) : w ∈ tables_1 := (List.mem_append_right _ (List.mem_append_right _ (List.mem_append_right _ (List.mem_append_right _ (List.mem_append_right _ (List.mem_append_right _ (List.mem_append_right _ (List.mem_append_right _ (List.mem_of_getElem? h)))))))))
theorem zv_tbk_9 {w : Cond} (i : Nat) (h : tables_1_9[i]? = some w) (hg : goodWord w = true) : w ∈ zv_tb := List.mem_filter.mpr ⟨List.mem_append_right _ (zv_t1_9 i h), hg⟩
theorem zv_wA_int : Cond.arrayClass .int ∈ zv_tb := zv_tb_of 42 (by decide +kernel) (by decide +kernel)
theorem zv_wA_boolean : Cond.arrayClass .boolean ∈ zv_tb := zv_tb_of 251 (by decide +kernel) (by decide +kernel)
theorem zv_wA_byte : Cond.arrayClass .byte ∈ zv_tb := zv_tb_of 920 (by decide +kernel) (by decide +kernel)
theorem zv_wA_long : Cond.arrayClass .long ∈ zv_tb := zv_tb_of 1406 (by decide +kernel) (by decide +kernel)
theorem zv_wMx : Cond.static Lib.Math.max.name ∈ zv_tb ∧ Cond.initialized "java/lang/Math" ∈ zv_tb ∧ Cond.code Lib.Math.max.name Lib.Math.max.code 2 (some .int) ∈ zv_tb := ⟨(zv_tbk_4 0 (by decide +kernel) (by decide +kernel)), (zv_tbk_1 11 (by decide +kernel) (by decide +kernel)), (zv_tbk_4 1 (by decide +kernel) (by decide +kernel))⟩
theorem zv_wMn : Cond.static Lib.Math.min.name ∈ zv_tb ∧ Cond.initialized "java/lang/Math" ∈ zv_tb ∧ Cond.code Lib.Math.min.name Lib.Math.min.code 2 (some .int) ∈ zv_tb := ⟨(zv_tbk_2 229 (by decide +kernel) (by decide +kernel)), (zv_tbk_1 11 (by decide +kernel) (by decide +kernel)), (zv_tbk_2 230 (by decide +kernel) (by decide +kernel))⟩
