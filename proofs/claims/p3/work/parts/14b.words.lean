theorem zv_tb_of {w : Cond} (i : Nat) (h : tables_1[i]? = some w) (hg : goodWord w = true) : w ∈ zv_tb := List.mem_filter.mpr ⟨List.mem_append_right _ (List.mem_of_getElem? h), hg⟩
theorem zv_tb_sel {w : Cond} (h : w ∈ k2_sels lw_privs) (hg : goodWord w = true) : w ∈ zv_tb := List.mem_filter.mpr ⟨List.mem_append_left _ h, hg⟩
theorem zv_tb_good {ws : List Cond} (h : ∀ w ∈ ws, w ∈ zv_tb) : GoodIn zv_tb ws := fun w hw => ⟨h w hw, good_of_word (List.mem_filter.mp (h w hw)).2⟩
theorem zv_tb_lw {w : Cond} (h : w ∈ zv_tb) : w ∈ lw_tbl := (List.mem_filter.mp h).1
theorem zv_wA_int : Cond.arrayClass .int ∈ zv_tb := zv_tb_of 42 (by decide +kernel) (by decide +kernel)
theorem zv_wA_boolean : Cond.arrayClass .boolean ∈ zv_tb := zv_tb_of 251 (by decide +kernel) (by decide +kernel)
theorem zv_wA_byte : Cond.arrayClass .byte ∈ zv_tb := zv_tb_of 920 (by decide +kernel) (by decide +kernel)
theorem zv_wA_long : Cond.arrayClass .long ∈ zv_tb := zv_tb_of 1406 (by decide +kernel) (by decide +kernel)
