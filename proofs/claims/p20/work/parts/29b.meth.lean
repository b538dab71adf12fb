theorem zk_165 : zv_chk 8 mc8_merge = true := zy_chk_ok (by decide +kernel)
theorem zq_165 : zv_vM mc8_merge ∧ zv_vP (some 8) mc8_merge := ⟨zv_vM_of (ci := 8) rfl rfl zv_vPl_8 zk_165, rfl, (by decide +kernel), fun ci h => (by cases h; exact Or.inr ⟨_, (by decide), rfl, rfl⟩)⟩
theorem zk_166 : zv_chk 8 mc8_prune = true := zy_chk_ok (by decide +kernel)
theorem zq_166 : zv_vM mc8_prune ∧ zv_vP (some 8) mc8_prune := ⟨zv_vM_of (ci := 8) rfl rfl zv_vPl_8 zk_166, rfl, (by decide +kernel), fun ci h => (by cases h; exact Or.inr ⟨_, (by decide), rfl, rfl⟩)⟩
theorem zk_167 : zv_chk 8 mc8_common = true := zy_chk_ok (by decide +kernel)
theorem zq_167 : zv_vM mc8_common ∧ zv_vP (some 8) mc8_common := ⟨zv_vM_of (ci := 8) rfl rfl zv_vPl_8 zk_167, rfl, (by decide +kernel), fun ci h => (by cases h; exact Or.inr ⟨_, (by decide), rfl, rfl⟩)⟩
theorem zk_168 : zv_chk 8 mc8_way = true := zy_chk_ok (by decide +kernel)
theorem zq_168 : zv_vM mc8_way ∧ zv_vP (some 8) mc8_way := ⟨zv_vM_of (ci := 8) rfl rfl zv_vPl_8 zk_168, rfl, (by decide +kernel), fun ci h => (by cases h; exact Or.inr ⟨_, (by decide), rfl, rfl⟩)⟩
theorem zk_169 : zv_chk 8 mc8_between = true := zy_chk_ok (by decide +kernel)
theorem zq_169 : zv_vM mc8_between ∧ zv_vP (some 8) mc8_between := ⟨zv_vM_of (ci := 8) rfl rfl zv_vPl_8 zk_169, rfl, (by decide +kernel), fun ci h => (by cases h; exact Or.inr ⟨_, (by decide), rfl, rfl⟩)⟩
theorem zk_170 : zv_chk 8 mc8_least = true := zy_chk_ok (by decide +kernel)
theorem zq_170 : zv_vM mc8_least ∧ zv_vP (some 8) mc8_least := ⟨zv_vM_of (ci := 8) rfl rfl zv_vPl_8 zk_170, rfl, (by decide +kernel), fun ci h => (by cases h; exact Or.inr ⟨_, (by decide), rfl, rfl⟩)⟩
theorem zk_171 : zv_chk 8 mc8_merges = true := zy_chk_ok (by decide +kernel)
theorem zq_171 : zv_vM mc8_merges ∧ zv_vP (some 8) mc8_merges := ⟨zv_vM_of (ci := 8) rfl rfl zv_vPl_8 zk_171, rfl, (by decide +kernel), fun ci h => (by cases h; exact Or.inr ⟨_, (by decide), rfl, rfl⟩)⟩
theorem zk_172 : zv_chk 8 mc8_tell = true := zy_chk_ok (by decide +kernel)
theorem zq_172 : zv_vM mc8_tell ∧ zv_vP (some 8) mc8_tell := ⟨zv_vM_of (ci := 8) rfl rfl zv_vPl_8 zk_172, rfl, (by decide +kernel), fun ci h => (by cases h; exact Or.inr ⟨_, (by decide), rfl, rfl⟩)⟩
theorem zk_173 : zv_chk 8 mc8_tellDocument = true := zy_chk_ok (by decide +kernel)
theorem zq_173 : zv_vM mc8_tellDocument ∧ zv_vP (some 8) mc8_tellDocument := ⟨zv_vM_of (ci := 8) rfl rfl zv_vPl_8 zk_173, rfl, (by decide +kernel), fun ci h => (by cases h; exact Or.inr ⟨_, (by decide), rfl, rfl⟩)⟩
theorem zk_174 : zv_chk 8 mc8_tellLine = true := zy_chk_ok (by decide +kernel)
theorem zq_174 : zv_vM mc8_tellLine ∧ zv_vP (some 8) mc8_tellLine := ⟨zv_vM_of (ci := 8) rfl rfl zv_vPl_8 zk_174, rfl, (by decide +kernel), fun ci h => (by cases h; exact Or.inr ⟨_, (by decide), rfl, rfl⟩)⟩
theorem zk_175 : zv_chk 8 mc8_tellNames = true := zy_chk_ok (by decide +kernel)
theorem zq_175 : zv_vM mc8_tellNames ∧ zv_vP (some 8) mc8_tellNames := ⟨zv_vM_of (ci := 8) rfl rfl zv_vPl_8 zk_175, rfl, (by decide +kernel), fun ci h => (by cases h; exact Or.inr ⟨_, (by decide), rfl, rfl⟩)⟩
theorem zk_176 : zv_chk 8 mc8_tellNumber = true := zy_chk_ok (by decide +kernel)
theorem zq_176 : zv_vM mc8_tellNumber ∧ zv_vP (some 8) mc8_tellNumber := ⟨zv_vM_of (ci := 8) rfl rfl zv_vPl_8 zk_176, rfl, (by decide +kernel), fun ci h => (by cases h; exact Or.inr ⟨_, (by decide), rfl, rfl⟩)⟩
theorem zk_177 : zv_chk 8 mc8_tellByte = true := zy_chk_ok (by decide +kernel)
theorem zq_177 : zv_vM mc8_tellByte ∧ zv_vP (some 8) mc8_tellByte := ⟨zv_vM_of (ci := 8) rfl rfl zv_vPl_8 zk_177, rfl, (by decide +kernel), fun ci h => (by cases h; exact Or.inr ⟨_, (by decide), rfl, rfl⟩)⟩
theorem zk_178 : zv_chk 8 mc8_out = true := zy_chk_ok (by decide +kernel)
theorem zq_178 : zv_vM mc8_out ∧ zv_vP (some 8) mc8_out := ⟨zv_vM_of (ci := 8) rfl rfl zv_vPl_8 zk_178, rfl, (by decide +kernel), fun ci h => (by cases h; exact Or.inr ⟨_, (by decide), rfl, rfl⟩)⟩
theorem zk_179 : zv_chk 8 mc8_leaning = true := zy_chk_ok (by decide +kernel)
theorem zq_179 : zv_vM mc8_leaning ∧ zv_vP (some 8) mc8_leaning := ⟨zv_vM_of (ci := 8) rfl rfl zv_vPl_8 zk_179, rfl, (by decide +kernel), fun ci h => (by cases h; exact Or.inr ⟨_, (by decide), rfl, rfl⟩)⟩
theorem zk_180 : zv_chk 8 mc8_find = true := zy_chk_ok (by decide +kernel)
theorem zq_180 : zv_vM mc8_find ∧ zv_vP (some 8) mc8_find := ⟨zv_vM_of (ci := 8) rfl rfl zv_vPl_8 zk_180, rfl, (by decide +kernel), fun ci h => (by cases h; exact Or.inr ⟨_, (by decide), rfl, rfl⟩)⟩
theorem zk_181 : zv_chk 8 mc8_first = true := zy_chk_ok (by decide +kernel)
theorem zq_181 : zv_vM mc8_first ∧ zv_vP (some 8) mc8_first := ⟨zv_vM_of (ci := 8) rfl rfl zv_vPl_8 zk_181, rfl, (by decide +kernel), fun ci h => (by cases h; exact Or.inr ⟨_, (by decide), rfl, rfl⟩)⟩
theorem zk_182 : zv_chk 8 mc8_twin = true := zy_chk_ok (by decide +kernel)
theorem zq_182 : zv_vM mc8_twin ∧ zv_vP (some 8) mc8_twin := ⟨zv_vM_of (ci := 8) rfl rfl zv_vPl_8 zk_182, rfl, (by decide +kernel), fun ci h => (by cases h; exact Or.inr ⟨_, (by decide), rfl, rfl⟩)⟩
theorem zk_183 : zv_chk 8 mc8_back = true := zy_chk_ok (by decide +kernel)
theorem zq_183 : zv_vM mc8_back ∧ zv_vP (some 8) mc8_back := ⟨zv_vM_of (ci := 8) rfl rfl zv_vPl_8 zk_183, rfl, (by decide +kernel), fun ci h => (by cases h; exact Or.inr ⟨_, (by decide), rfl, rfl⟩)⟩
theorem zk_184 : zv_chk 9 mc9_init = true := zy_chk_ok (by decide +kernel)
theorem zq_184 : zv_vM mc9_init ∧ zv_vP (some 9) mc9_init := ⟨zv_vM_of (ci := 9) rfl rfl zv_vPl_9 zk_184, rfl, (by decide +kernel), fun ci h => (by cases h; exact Or.inr ⟨_, (by decide), rfl, rfl⟩)⟩
theorem zk_185 : zv_chk 9 mc9_status = true := zy_chk_ok (by decide +kernel)
theorem zq_185 : zv_vM mc9_status ∧ zv_vP (some 9) mc9_status := ⟨zv_vM_of (ci := 9) rfl rfl zv_vPl_9 zk_185, rfl, (by decide +kernel), fun ci h => (by cases h; exact Or.inr ⟨_, (by decide), rfl, rfl⟩)⟩
theorem zk_186 : zv_chk 9 mc9_refuse = true := zy_chk_ok (by decide +kernel)
theorem zq_186 : zv_vM mc9_refuse ∧ zv_vP (some 9) mc9_refuse := ⟨zv_vM_of (ci := 9) rfl rfl zv_vPl_9 zk_186, rfl, (by decide +kernel), fun ci h => (by cases h; exact Or.inr ⟨_, (by decide), rfl, rfl⟩)⟩
theorem zk_187 : zv_chk 9 mc9_is = true := zy_chk_ok (by decide +kernel)
theorem zq_187 : zv_vM mc9_is ∧ zv_vP (some 9) mc9_is := ⟨zv_vM_of (ci := 9) rfl rfl zv_vPl_9 zk_187, rfl, (by decide +kernel), fun ci h => (by cases h; exact Or.inr ⟨_, (by decide), rfl, rfl⟩)⟩
theorem zk_188 : zv_chk 9 mc9_isIn = true := zy_chk_ok (by decide +kernel)
theorem zq_188 : zv_vM mc9_isIn ∧ zv_vP none mc9_isIn := ⟨zv_vM_of (ci := 9) rfl rfl zv_vPl_9 zk_188, rfl, (by decide +kernel), fun ci h => (by cases h)⟩
theorem zk_189 : zv_chk 9 mc9_clears = true := zy_chk_ok (by decide +kernel)
theorem zq_189 : zv_vM mc9_clears ∧ zv_vP (some 9) mc9_clears := ⟨zv_vM_of (ci := 9) rfl rfl zv_vPl_9 zk_189, rfl, (by decide +kernel), fun ci h => (by cases h; exact Or.inr ⟨_, (by decide), rfl, rfl⟩)⟩
theorem zk_190 : zv_chk 9 mc9_of = true := zy_chk_ok (by decide +kernel)
theorem zq_190 : zv_vM mc9_of ∧ zv_vP (some 9) mc9_of := ⟨zv_vM_of (ci := 9) rfl rfl zv_vPl_9 zk_190, rfl, (by decide +kernel), fun ci h => (by cases h; exact Or.inr ⟨_, (by decide), rfl, rfl⟩)⟩
theorem zk_191 : zv_chk 9 mc9_sets = true := zy_chk_ok (by decide +kernel)
theorem zq_191 : zv_vM mc9_sets ∧ zv_vP (some 9) mc9_sets := ⟨zv_vM_of (ci := 9) rfl rfl zv_vPl_9 zk_191, rfl, (by decide +kernel), fun ci h => (by cases h; exact Or.inr ⟨_, (by decide), rfl, rfl⟩)⟩
theorem zk_192 : zv_chk 9 mc9_isState = true := zy_chk_ok (by decide +kernel)
theorem zq_192 : zv_vM mc9_isState ∧ zv_vP (some 9) mc9_isState := ⟨zv_vM_of (ci := 9) rfl rfl zv_vPl_9 zk_192, rfl, (by decide +kernel), fun ci h => (by cases h; exact Or.inr ⟨_, (by decide), rfl, rfl⟩)⟩
theorem zk_193 : zv_chk 9 mc9_isEdit = true := zy_chk_ok (by decide +kernel)
theorem zq_193 : zv_vM mc9_isEdit ∧ zv_vP (some 9) mc9_isEdit := ⟨zv_vM_of (ci := 9) rfl rfl zv_vPl_9 zk_193, rfl, (by decide +kernel), fun ci h => (by cases h; exact Or.inr ⟨_, (by decide), rfl, rfl⟩)⟩
theorem zk_194 : zv_chk 9 mc9_here = true := zy_chk_ok (by decide +kernel)
theorem zq_194 : zv_vM mc9_here ∧ zv_vP (some 9) mc9_here := ⟨zv_vM_of (ci := 9) rfl rfl zv_vPl_9 zk_194, rfl, (by decide +kernel), fun ci h => (by cases h; exact Or.inr ⟨_, (by decide), rfl, rfl⟩)⟩
theorem zk_195 : zv_chk 9 mc9_states = true := zy_chk_ok (by decide +kernel)
theorem zq_195 : zv_vM mc9_states ∧ zv_vP (some 9) mc9_states := ⟨zv_vM_of (ci := 9) rfl rfl zv_vPl_9 zk_195, rfl, (by decide +kernel), fun ci h => (by cases h; exact Or.inr ⟨_, (by decide), rfl, rfl⟩)⟩
theorem zk_196 : zv_chk 9 mc9_names = true := zy_chk_ok (by decide +kernel)
theorem zq_196 : zv_vM mc9_names ∧ zv_vP (some 9) mc9_names := ⟨zv_vM_of (ci := 9) rfl rfl zv_vPl_9 zk_196, rfl, (by decide +kernel), fun ci h => (by cases h; exact Or.inr ⟨_, (by decide), rfl, rfl⟩)⟩
theorem zk_197 : zv_chk 9 mc9_namesToo = true := zy_chk_ok (by decide +kernel)
theorem zq_197 : zv_vM mc9_namesToo ∧ zv_vP (some 9) mc9_namesToo := ⟨zv_vM_of (ci := 9) rfl rfl zv_vPl_9 zk_197, rfl, (by decide +kernel), fun ci h => (by cases h; exact Or.inr ⟨_, (by decide), rfl, rfl⟩)⟩
theorem zk_198 : zv_chk 9 mc9_isOfLine = true := zy_chk_ok (by decide +kernel)
theorem zq_198 : zv_vM mc9_isOfLine ∧ zv_vP (some 9) mc9_isOfLine := ⟨zv_vM_of (ci := 9) rfl rfl zv_vPl_9 zk_198, rfl, (by decide +kernel), fun ci h => (by cases h; exact Or.inr ⟨_, (by decide), rfl, rfl⟩)⟩
theorem zk_199 : zv_chk 9 mc9_depthOf = true := zy_chk_ok (by decide +kernel)
theorem zq_199 : zv_vM mc9_depthOf ∧ zv_vP (some 9) mc9_depthOf := ⟨zv_vM_of (ci := 9) rfl rfl zv_vPl_9 zk_199, rfl, (by decide +kernel), fun ci h => (by cases h; exact Or.inr ⟨_, (by decide), rfl, rfl⟩)⟩
theorem zk_200 : zv_chk 9 mc9_rowOf = true := zy_chk_ok (by decide +kernel)
theorem zq_200 : zv_vM mc9_rowOf ∧ zv_vP (some 9) mc9_rowOf := ⟨zv_vM_of (ci := 9) rfl rfl zv_vPl_9 zk_200, rfl, (by decide +kernel), fun ci h => (by cases h; exact Or.inr ⟨_, (by decide), rfl, rfl⟩)⟩
theorem zk_201 : zv_chk 9 mc9_letsIn = true := zy_chk_ok (by decide +kernel)
theorem zq_201 : zv_vM mc9_letsIn ∧ zv_vP (some 9) mc9_letsIn := ⟨zv_vM_of (ci := 9) rfl rfl zv_vPl_9 zk_201, rfl, (by decide +kernel), fun ci h => (by cases h; exact Or.inr ⟨_, (by decide), rfl, rfl⟩)⟩
theorem zk_202 : zv_chk 9 mc9_turns = true := zy_chk_ok (by decide +kernel)
theorem zq_202 : zv_vM mc9_turns ∧ zv_vP (some 9) mc9_turns := ⟨zv_vM_of (ci := 9) rfl rfl zv_vPl_9 zk_202, rfl, (by decide +kernel), fun ci h => (by cases h; exact Or.inr ⟨_, (by decide), rfl, rfl⟩)⟩
theorem zk_203 : zv_chk 9 mc9_sees = true := zy_chk_ok (by decide +kernel)
theorem zq_203 : zv_vM mc9_sees ∧ zv_vP (some 9) mc9_sees := ⟨zv_vM_of (ci := 9) rfl rfl zv_vPl_9 zk_203, rfl, (by decide +kernel), fun ci h => (by cases h; exact Or.inr ⟨_, (by decide), rfl, rfl⟩)⟩
theorem zk_204 : zv_chk 9 mc9_rowPlace = true := zy_chk_ok (by decide +kernel)
theorem zq_204 : zv_vM mc9_rowPlace ∧ zv_vP (some 9) mc9_rowPlace := ⟨zv_vM_of (ci := 9) rfl rfl zv_vPl_9 zk_204, rfl, (by decide +kernel), fun ci h => (by cases h; exact Or.inr ⟨_, (by decide), rfl, rfl⟩)⟩
theorem zk_205 : zv_chk 9 mc9_letterIn = true := zy_chk_ok (by decide +kernel)
theorem zq_205 : zv_vM mc9_letterIn ∧ zv_vP (some 9) mc9_letterIn := ⟨zv_vM_of (ci := 9) rfl rfl zv_vPl_9 zk_205, rfl, (by decide +kernel), fun ci h => (by cases h; exact Or.inr ⟨_, (by decide), rfl, rfl⟩)⟩
theorem zk_206 : zv_chk 9 mc9_lettersOf = true := zy_chk_ok (by decide +kernel)
theorem zq_206 : zv_vM mc9_lettersOf ∧ zv_vP (some 9) mc9_lettersOf := ⟨zv_vM_of (ci := 9) rfl rfl zv_vPl_9 zk_206, rfl, (by decide +kernel), fun ci h => (by cases h; exact Or.inr ⟨_, (by decide), rfl, rfl⟩)⟩
theorem zk_207 : zv_chk 9 mc9_copies = true := zy_chk_ok (by decide +kernel)
theorem zq_207 : zv_vM mc9_copies ∧ zv_vP (some 9) mc9_copies := ⟨zv_vM_of (ci := 9) rfl rfl zv_vPl_9 zk_207, rfl, (by decide +kernel), fun ci h => (by cases h; exact Or.inr ⟨_, (by decide), rfl, rfl⟩)⟩
theorem zk_208 : zv_chk 9 mc9_visits = true := zy_chk_ok (by decide +kernel)
theorem zq_208 : zv_vM mc9_visits ∧ zv_vP (some 9) mc9_visits := ⟨zv_vM_of (ci := 9) rfl rfl zv_vPl_9 zk_208, rfl, (by decide +kernel), fun ci h => (by cases h; exact Or.inr ⟨_, (by decide), rfl, rfl⟩)⟩
theorem zk_209 : zv_chk 9 mc9_latestIn = true := zy_chk_ok (by decide +kernel)
theorem zq_209 : zv_vM mc9_latestIn ∧ zv_vP (some 9) mc9_latestIn := ⟨zv_vM_of (ci := 9) rfl rfl zv_vPl_9 zk_209, rfl, (by decide +kernel), fun ci h => (by cases h; exact Or.inr ⟨_, (by decide), rfl, rfl⟩)⟩
theorem zk_210 : zv_chk 9 mc9_childOf = true := zy_chk_ok (by decide +kernel)
theorem zq_210 : zv_vM mc9_childOf ∧ zv_vP (some 9) mc9_childOf := ⟨zv_vM_of (ci := 9) rfl rfl zv_vPl_9 zk_210, rfl, (by decide +kernel), fun ci h => (by cases h; exact Or.inr ⟨_, (by decide), rfl, rfl⟩)⟩
theorem zk_211 : zv_chk 9 mc9_childrenOf = true := zy_chk_ok (by decide +kernel)
theorem zq_211 : zv_vM mc9_childrenOf ∧ zv_vP (some 9) mc9_childrenOf := ⟨zv_vM_of (ci := 9) rfl rfl zv_vPl_9 zk_211, rfl, (by decide +kernel), fun ci h => (by cases h; exact Or.inr ⟨_, (by decide), rfl, rfl⟩)⟩
theorem zk_212 : zv_chk 9 mc9_freeState = true := zy_chk_ok (by decide +kernel)
theorem zq_212 : zv_vM mc9_freeState ∧ zv_vP (some 9) mc9_freeState := ⟨zv_vM_of (ci := 9) rfl rfl zv_vPl_9 zk_212, rfl, (by decide +kernel), fun ci h => (by cases h; exact Or.inr ⟨_, (by decide), rfl, rfl⟩)⟩
theorem zk_213 : zv_chk 9 mc9_isNear = true := zy_chk_ok (by decide +kernel)
theorem zq_213 : zv_vM mc9_isNear ∧ zv_vP (some 9) mc9_isNear := ⟨zv_vM_of (ci := 9) rfl rfl zv_vPl_9 zk_213, rfl, (by decide +kernel), fun ci h => (by cases h; exact Or.inr ⟨_, (by decide), rfl, rfl⟩)⟩
theorem zk_214 : zv_chk 9 mc9_compares = true := zy_chk_ok (by decide +kernel)
theorem zq_214 : zv_vM mc9_compares ∧ zv_vP none mc9_compares := ⟨zv_vM_of (ci := 9) rfl rfl zv_vPl_9 zk_214, rfl, (by decide +kernel), fun ci h => (by cases h)⟩
theorem zk_215 : zv_chk 9 mc9_holds = true := zy_chk_ok (by decide +kernel)
theorem zq_215 : zv_vM mc9_holds ∧ zv_vP (some 9) mc9_holds := ⟨zv_vM_of (ci := 9) rfl rfl zv_vPl_9 zk_215, rfl, (by decide +kernel), fun ci h => (by cases h; exact Or.inr ⟨_, (by decide), rfl, rfl⟩)⟩
theorem zk_216 : zv_chk 9 mc9_joins = true := zy_chk_ok (by decide +kernel)
theorem zq_216 : zv_vM mc9_joins ∧ zv_vP (some 9) mc9_joins := ⟨zv_vM_of (ci := 9) rfl rfl zv_vPl_9 zk_216, rfl, (by decide +kernel), fun ci h => (by cases h; exact Or.inr ⟨_, (by decide), rfl, rfl⟩)⟩
theorem zk_217 : zv_chk 9 mc9_begins = true := zy_chk_ok (by decide +kernel)
theorem zq_217 : zv_vM mc9_begins ∧ zv_vP (some 9) mc9_begins := ⟨zv_vM_of (ci := 9) rfl rfl zv_vPl_9 zk_217, rfl, (by decide +kernel), fun ci h => (by cases h; exact Or.inr ⟨_, (by decide), rfl, rfl⟩)⟩
theorem zk_218 : zv_chk 9 mc9_packed = true := zy_chk_ok (by decide +kernel)
theorem zq_218 : zv_vM mc9_packed ∧ zv_vP none mc9_packed := ⟨zv_vM_of (ci := 9) rfl rfl zv_vPl_9 zk_218, rfl, (by decide +kernel), fun ci h => (by cases h)⟩
theorem zk_219 : zv_chk 9 mc9_nameAt = true := zy_chk_ok (by decide +kernel)
theorem zq_219 : zv_vM mc9_nameAt ∧ zv_vP (some 9) mc9_nameAt := ⟨zv_vM_of (ci := 9) rfl rfl zv_vPl_9 zk_219, rfl, (by decide +kernel), fun ci h => (by cases h; exact Or.inr ⟨_, (by decide), rfl, rfl⟩)⟩
theorem zk_220 : zv_chk 9 mc9_type = true := zy_chk_ok (by decide +kernel)
theorem zq_220 : zv_vM mc9_type ∧ zv_vP (some 9) mc9_type := ⟨zv_vM_of (ci := 9) rfl rfl zv_vPl_9 zk_220, rfl, (by decide +kernel), fun ci h => (by cases h; exact Or.inr ⟨_, (by decide), rfl, rfl⟩)⟩
theorem zk_221 : zv_chk 9 mc9_hand = true := zy_chk_ok (by decide +kernel)
theorem zq_221 : zv_vM mc9_hand ∧ zv_vP (some 9) mc9_hand := ⟨zv_vM_of (ci := 9) rfl rfl zv_vPl_9 zk_221, rfl, (by decide +kernel), fun ci h => (by cases h; exact Or.inr ⟨_, (by decide), rfl, rfl⟩)⟩
theorem zk_222 : zv_chk 9 mc9_putNow = true := zy_chk_ok (by decide +kernel)
theorem zq_222 : zv_vM mc9_putNow ∧ zv_vP (some 9) mc9_putNow := ⟨zv_vM_of (ci := 9) rfl rfl zv_vPl_9 zk_222, rfl, (by decide +kernel), fun ci h => (by cases h; exact Or.inr ⟨_, (by decide), rfl, rfl⟩)⟩
theorem zk_223 : zv_chk 9 mc9_cutNow = true := zy_chk_ok (by decide +kernel)
theorem zq_223 : zv_vM mc9_cutNow ∧ zv_vP (some 9) mc9_cutNow := ⟨zv_vM_of (ci := 9) rfl rfl zv_vPl_9 zk_223, rfl, (by decide +kernel), fun ci h => (by cases h; exact Or.inr ⟨_, (by decide), rfl, rfl⟩)⟩
theorem zk_224 : zv_chk 9 mc9_plain = true := zy_chk_ok (by decide +kernel)
theorem zq_224 : zv_vM mc9_plain ∧ zv_vP (some 9) mc9_plain := ⟨zv_vM_of (ci := 9) rfl rfl zv_vPl_9 zk_224, rfl, (by decide +kernel), fun ci h => (by cases h; exact Or.inr ⟨_, (by decide), rfl, rfl⟩)⟩
theorem zk_225 : zv_chk 9 mc9_carries = true := zy_chk_ok (by decide +kernel)
theorem zq_225 : zv_vM mc9_carries ∧ zv_vP (some 9) mc9_carries := ⟨zv_vM_of (ci := 9) rfl rfl zv_vPl_9 zk_225, rfl, (by decide +kernel), fun ci h => (by cases h; exact Or.inr ⟨_, (by decide), rfl, rfl⟩)⟩
theorem zk_226 : zv_chk 9 mc9_isTaken = true := zy_chk_ok (by decide +kernel)
theorem zq_226 : zv_vM mc9_isTaken ∧ zv_vP (some 9) mc9_isTaken := ⟨zv_vM_of (ci := 9) rfl rfl zv_vPl_9 zk_226, rfl, (by decide +kernel), fun ci h => (by cases h; exact Or.inr ⟨_, (by decide), rfl, rfl⟩)⟩
theorem zk_227 : zv_chk 9 mc9_carriesCut = true := zy_chk_ok (by decide +kernel)
theorem zq_227 : zv_vM mc9_carriesCut ∧ zv_vP (some 9) mc9_carriesCut := ⟨zv_vM_of (ci := 9) rfl rfl zv_vPl_9 zk_227, rfl, (by decide +kernel), fun ci h => (by cases h; exact Or.inr ⟨_, (by decide), rfl, rfl⟩)⟩
theorem zk_228 : zv_chk 9 mc9_carryNow = true := zy_chk_ok (by decide +kernel)
theorem zq_228 : zv_vM mc9_carryNow ∧ zv_vP (some 9) mc9_carryNow := ⟨zv_vM_of (ci := 9) rfl rfl zv_vPl_9 zk_228, rfl, (by decide +kernel), fun ci h => (by cases h; exact Or.inr ⟨_, (by decide), rfl, rfl⟩)⟩
theorem zk_229 : zv_chk 9 mc9_mergeNow = true := zy_chk_ok (by decide +kernel)
theorem zq_229 : zv_vM mc9_mergeNow ∧ zv_vP (some 9) mc9_mergeNow := ⟨zv_vM_of (ci := 9) rfl rfl zv_vPl_9 zk_229, rfl, (by decide +kernel), fun ci h => (by cases h; exact Or.inr ⟨_, (by decide), rfl, rfl⟩)⟩
theorem zk_230 : zv_chk 9 mc9_undoNow = true := zy_chk_ok (by decide +kernel)
theorem zq_230 : zv_vM mc9_undoNow ∧ zv_vP (some 9) mc9_undoNow := ⟨zv_vM_of (ci := 9) rfl rfl zv_vPl_9 zk_230, rfl, (by decide +kernel), fun ci h => (by cases h; exact Or.inr ⟨_, (by decide), rfl, rfl⟩)⟩
theorem zk_231 : zv_chk 9 mc9_redoNow = true := zy_chk_ok (by decide +kernel)
theorem zq_231 : zv_vM mc9_redoNow ∧ zv_vP (some 9) mc9_redoNow := ⟨zv_vM_of (ci := 9) rfl rfl zv_vPl_9 zk_231, rfl, (by decide +kernel), fun ci h => (by cases h; exact Or.inr ⟨_, (by decide), rfl, rfl⟩)⟩
theorem zk_232 : zv_chk 9 mc9_commonOf = true := zy_chk_ok (by decide +kernel)
theorem zq_232 : zv_vM mc9_commonOf ∧ zv_vP (some 9) mc9_commonOf := ⟨zv_vM_of (ci := 9) rfl rfl zv_vPl_9 zk_232, rfl, (by decide +kernel), fun ci h => (by cases h; exact Or.inr ⟨_, (by decide), rfl, rfl⟩)⟩
theorem zk_233 : zv_chk 9 mc9_wayMany = true := zy_chk_ok (by decide +kernel)
theorem zq_233 : zv_vM mc9_wayMany ∧ zv_vP (some 9) mc9_wayMany := ⟨zv_vM_of (ci := 9) rfl rfl zv_vPl_9 zk_233, rfl, (by decide +kernel), fun ci h => (by cases h; exact Or.inr ⟨_, (by decide), rfl, rfl⟩)⟩
theorem zk_234 : zv_chk 9 mc9_goNow = true := zy_chk_ok (by decide +kernel)
theorem zq_234 : zv_vM mc9_goNow ∧ zv_vP (some 9) mc9_goNow := ⟨zv_vM_of (ci := 9) rfl rfl zv_vPl_9 zk_234, rfl, (by decide +kernel), fun ci h => (by cases h; exact Or.inr ⟨_, (by decide), rfl, rfl⟩)⟩
theorem zk_235 : zv_chk 9 mc9_nameNow = true := zy_chk_ok (by decide +kernel)
theorem zq_235 : zv_vM mc9_nameNow ∧ zv_vP (some 9) mc9_nameNow := ⟨zv_vM_of (ci := 9) rfl rfl zv_vPl_9 zk_235, rfl, (by decide +kernel), fun ci h => (by cases h; exact Or.inr ⟨_, (by decide), rfl, rfl⟩)⟩
theorem zk_236 : zv_chk 9 mc9_leansOn = true := zy_chk_ok (by decide +kernel)
theorem zq_236 : zv_vM mc9_leansOn ∧ zv_vP (some 9) mc9_leansOn := ⟨zv_vM_of (ci := 9) rfl rfl zv_vPl_9 zk_236, rfl, (by decide +kernel), fun ci h => (by cases h; exact Or.inr ⟨_, (by decide), rfl, rfl⟩)⟩
theorem zk_237 : zv_chk 9 mc9_marks = true := zy_chk_ok (by decide +kernel)
theorem zq_237 : zv_vM mc9_marks ∧ zv_vP (some 9) mc9_marks := ⟨zv_vM_of (ci := 9) rfl rfl zv_vPl_9 zk_237, rfl, (by decide +kernel), fun ci h => (by cases h; exact Or.inr ⟨_, (by decide), rfl, rfl⟩)⟩
theorem zk_238 : zv_chk 9 mc9_triesNames = true := zy_chk_ok (by decide +kernel)
theorem zq_238 : zv_vM mc9_triesNames ∧ zv_vP (some 9) mc9_triesNames := ⟨zv_vM_of (ci := 9) rfl rfl zv_vPl_9 zk_238, rfl, (by decide +kernel), fun ci h => (by cases h; exact Or.inr ⟨_, (by decide), rfl, rfl⟩)⟩
theorem zk_239 : zv_chk 9 mc9_turnNow = true := zy_chk_ok (by decide +kernel)
theorem zq_239 : zv_vM mc9_turnNow ∧ zv_vP (some 9) mc9_turnNow := ⟨zv_vM_of (ci := 9) rfl rfl zv_vPl_9 zk_239, rfl, (by decide +kernel), fun ci h => (by cases h; exact Or.inr ⟨_, (by decide), rfl, rfl⟩)⟩
theorem zk_240 : zv_chk 9 mc9_lays = true := zy_chk_ok (by decide +kernel)
theorem zq_240 : zv_vM mc9_lays ∧ zv_vP (some 9) mc9_lays := ⟨zv_vM_of (ci := 9) rfl rfl zv_vPl_9 zk_240, rfl, (by decide +kernel), fun ci h => (by cases h; exact Or.inr ⟨_, (by decide), rfl, rfl⟩)⟩
theorem zk_241 : zv_chk 9 mc9_feed = true := zy_chk_ok (by decide +kernel)
theorem zq_241 : zv_vM mc9_feed ∧ zv_vP (some 9) mc9_feed := ⟨zv_vM_of (ci := 9) rfl rfl zv_vPl_9 zk_241, rfl, (by decide +kernel), fun ci h => (by cases h; exact Or.inr ⟨_, (by decide), rfl, rfl⟩)⟩
theorem zk_242 : zv_chk 9 mc9_isOf = true := zy_chk_ok (by decide +kernel)
theorem zq_242 : zv_vM mc9_isOf ∧ zv_vP (some 9) mc9_isOf := ⟨zv_vM_of (ci := 9) rfl rfl zv_vPl_9 zk_242, rfl, (by decide +kernel), fun ci h => (by cases h; exact Or.inr ⟨_, (by decide), rfl, rfl⟩)⟩
theorem zk_243 : zv_chk 9 mc9_reads = true := zy_chk_ok (by decide +kernel)
theorem zq_243 : zv_vM mc9_reads ∧ zv_vP (some 9) mc9_reads := ⟨zv_vM_of (ci := 9) rfl rfl zv_vPl_9 zk_243, rfl, (by decide +kernel), fun ci h => (by cases h; exact Or.inr ⟨_, (by decide), rfl, rfl⟩)⟩
theorem zk_244 : zv_chk 9 mc9_must = true := zy_chk_ok (by decide +kernel)
theorem zq_244 : zv_vM mc9_must ∧ zv_vP (some 9) mc9_must := ⟨zv_vM_of (ci := 9) rfl rfl zv_vPl_9 zk_244, rfl, (by decide +kernel), fun ci h => (by cases h; exact Or.inr ⟨_, (by decide), rfl, rfl⟩)⟩
theorem zk_245 : zv_chk 9 mc9_which = true := zy_chk_ok (by decide +kernel)
theorem zq_245 : zv_vM mc9_which ∧ zv_vP (some 9) mc9_which := ⟨zv_vM_of (ci := 9) rfl rfl zv_vPl_9 zk_245, rfl, (by decide +kernel), fun ci h => (by cases h; exact Or.inr ⟨_, (by decide), rfl, rfl⟩)⟩
theorem zk_246 : zv_chk 9 mc9_isSign = true := zy_chk_ok (by decide +kernel)
theorem zq_246 : zv_vM mc9_isSign ∧ zv_vP (some 9) mc9_isSign := ⟨zv_vM_of (ci := 9) rfl rfl zv_vPl_9 zk_246, rfl, (by decide +kernel), fun ci h => (by cases h; exact Or.inr ⟨_, (by decide), rfl, rfl⟩)⟩
theorem zk_247 : zv_chk 9 mc9_takes = true := zy_chk_ok (by decide +kernel)
theorem zq_247 : zv_vM mc9_takes ∧ zv_vP (some 9) mc9_takes := ⟨zv_vM_of (ci := 9) rfl rfl zv_vPl_9 zk_247, rfl, (by decide +kernel), fun ci h => (by cases h; exact Or.inr ⟨_, (by decide), rfl, rfl⟩)⟩
theorem zk_248 : zv_chk 9 mc9_takesNumber = true := zy_chk_ok (by decide +kernel)
theorem zq_248 : zv_vM mc9_takesNumber ∧ zv_vP (some 9) mc9_takesNumber := ⟨zv_vM_of (ci := 9) rfl rfl zv_vPl_9 zk_248, rfl, (by decide +kernel), fun ci h => (by cases h; exact Or.inr ⟨_, (by decide), rfl, rfl⟩)⟩
theorem zk_249 : zv_chk 9 mc9_takesWord = true := zy_chk_ok (by decide +kernel)
theorem zq_249 : zv_vM mc9_takesWord ∧ zv_vP (some 9) mc9_takesWord := ⟨zv_vM_of (ci := 9) rfl rfl zv_vPl_9 zk_249, rfl, (by decide +kernel), fun ci h => (by cases h; exact Or.inr ⟨_, (by decide), rfl, rfl⟩)⟩
theorem zk_250 : zv_chk 9 mc9_emits = true := zy_chk_ok (by decide +kernel)
theorem zq_250 : zv_vM mc9_emits ∧ zv_vP (some 9) mc9_emits := ⟨zv_vM_of (ci := 9) rfl rfl zv_vPl_9 zk_250, rfl, (by decide +kernel), fun ci h => (by cases h; exact Or.inr ⟨_, (by decide), rfl, rfl⟩)⟩
theorem zk_251 : zv_chk 9 mc9_test = true := zy_chk_ok (by decide +kernel)
theorem zq_251 : zv_vM mc9_test ∧ zv_vP (some 9) mc9_test := ⟨zv_vM_of (ci := 9) rfl rfl zv_vPl_9 zk_251, rfl, (by decide +kernel), fun ci h => (by cases h; exact Or.inr ⟨_, (by decide), rfl, rfl⟩)⟩
theorem zk_252 : zv_chk 9 mc9_side = true := zy_chk_ok (by decide +kernel)
theorem zq_252 : zv_vM mc9_side ∧ zv_vP (some 9) mc9_side := ⟨zv_vM_of (ci := 9) rfl rfl zv_vPl_9 zk_252, rfl, (by decide +kernel), fun ci h => (by cases h; exact Or.inr ⟨_, (by decide), rfl, rfl⟩)⟩
theorem zk_253 : zv_chk 9 mc9_fact = true := zy_chk_ok (by decide +kernel)
theorem zq_253 : zv_vM mc9_fact ∧ zv_vP (some 9) mc9_fact := ⟨zv_vM_of (ci := 9) rfl rfl zv_vPl_9 zk_253, rfl, (by decide +kernel), fun ci h => (by cases h; exact Or.inr ⟨_, (by decide), rfl, rfl⟩)⟩
theorem zk_254 : zv_chk 9 mc9_readsLine = true := zy_chk_ok (by decide +kernel)
theorem zq_254 : zv_vM mc9_readsLine ∧ zv_vP (some 9) mc9_readsLine := ⟨zv_vM_of (ci := 9) rfl rfl zv_vPl_9 zk_254, rfl, (by decide +kernel), fun ci h => (by cases h; exact Or.inr ⟨_, (by decide), rfl, rfl⟩)⟩
theorem zk_255 : zv_chk 9 mc9_does = true := zy_chk_ok (by decide +kernel)
theorem zq_255 : zv_vM mc9_does ∧ zv_vP (some 9) mc9_does := ⟨zv_vM_of (ci := 9) rfl rfl zv_vPl_9 zk_255, rfl, (by decide +kernel), fun ci h => (by cases h; exact Or.inr ⟨_, (by decide), rfl, rfl⟩)⟩
theorem zk_256 : zv_chk 9 mc9_load = true := zy_chk_ok (by decide +kernel)
theorem zq_256 : zv_vM mc9_load ∧ zv_vP (some 9) mc9_load := ⟨zv_vM_of (ci := 9) rfl rfl zv_vPl_9 zk_256, rfl, (by decide +kernel), fun ci h => (by cases h; exact Or.inr ⟨_, (by decide), rfl, rfl⟩)⟩
theorem zk_257 : zv_chk 9 mc9_fault = true := zy_chk_ok (by decide +kernel)
theorem zq_257 : zv_vM mc9_fault ∧ zv_vP (some 9) mc9_fault := ⟨zv_vM_of (ci := 9) rfl rfl zv_vPl_9 zk_257, rfl, (by decide +kernel), fun ci h => (by cases h; exact Or.inr ⟨_, (by decide), rfl, rfl⟩)⟩
theorem zk_258 : zv_chk 9 mc9_leaves = true := zy_chk_ok (by decide +kernel)
theorem zq_258 : zv_vM mc9_leaves ∧ zv_vP (some 9) mc9_leaves := ⟨zv_vM_of (ci := 9) rfl rfl zv_vPl_9 zk_258, rfl, (by decide +kernel), fun ci h => (by cases h; exact Or.inr ⟨_, (by decide), rfl, rfl⟩)⟩
theorem zk_259 : zv_chk 9 mc9_groups = true := zy_chk_ok (by decide +kernel)
theorem zq_259 : zv_vM mc9_groups ∧ zv_vP (some 9) mc9_groups := ⟨zv_vM_of (ci := 9) rfl rfl zv_vPl_9 zk_259, rfl, (by decide +kernel), fun ci h => (by cases h; exact Or.inr ⟨_, (by decide), rfl, rfl⟩)⟩
theorem zk_260 : zv_chk 9 mc9_gone = true := zy_chk_ok (by decide +kernel)
theorem zq_260 : zv_vM mc9_gone ∧ zv_vP (some 9) mc9_gone := ⟨zv_vM_of (ci := 9) rfl rfl zv_vPl_9 zk_260, rfl, (by decide +kernel), fun ci h => (by cases h; exact Or.inr ⟨_, (by decide), rfl, rfl⟩)⟩
theorem zk_261 : zv_chk 9 mc9_many = true := zy_chk_ok (by decide +kernel)
theorem zq_261 : zv_vM mc9_many ∧ zv_vP (some 9) mc9_many := ⟨zv_vM_of (ci := 9) rfl rfl zv_vPl_9 zk_261, rfl, (by decide +kernel), fun ci h => (by cases h; exact Or.inr ⟨_, (by decide), rfl, rfl⟩)⟩
theorem zk_262 : zv_chk 9 mc9_letter = true := zy_chk_ok (by decide +kernel)
theorem zq_262 : zv_vM mc9_letter ∧ zv_vP (some 9) mc9_letter := ⟨zv_vM_of (ci := 9) rfl rfl zv_vPl_9 zk_262, rfl, (by decide +kernel), fun ci h => (by cases h; exact Or.inr ⟨_, (by decide), rfl, rfl⟩)⟩
theorem zk_263 : zv_chk 9 mc9_namesOf = true := zy_chk_ok (by decide +kernel)
theorem zq_263 : zv_vM mc9_namesOf ∧ zv_vP (some 9) mc9_namesOf := ⟨zv_vM_of (ci := 9) rfl rfl zv_vPl_9 zk_263, rfl, (by decide +kernel), fun ci h => (by cases h; exact Or.inr ⟨_, (by decide), rfl, rfl⟩)⟩
theorem zk_264 : zv_chk 9 mc9_state = true := zy_chk_ok (by decide +kernel)
theorem zq_264 : zv_vM mc9_state ∧ zv_vP (some 9) mc9_state := ⟨zv_vM_of (ci := 9) rfl rfl zv_vPl_9 zk_264, rfl, (by decide +kernel), fun ci h => (by cases h; exact Or.inr ⟨_, (by decide), rfl, rfl⟩)⟩
theorem zk_265 : zv_chk 9 mc9_child = true := zy_chk_ok (by decide +kernel)
theorem zq_265 : zv_vM mc9_child ∧ zv_vP (some 9) mc9_child := ⟨zv_vM_of (ci := 9) rfl rfl zv_vPl_9 zk_265, rfl, (by decide +kernel), fun ci h => (by cases h; exact Or.inr ⟨_, (by decide), rfl, rfl⟩)⟩
theorem zk_266 : zv_chk 9 mc9_force = true := zy_chk_ok (by decide +kernel)
theorem zq_266 : zv_vM mc9_force ∧ zv_vP (some 9) mc9_force := ⟨zv_vM_of (ci := 9) rfl rfl zv_vPl_9 zk_266, rfl, (by decide +kernel), fun ci h => (by cases h; exact Or.inr ⟨_, (by decide), rfl, rfl⟩)⟩
theorem zk_267 : zv_chk 9 mc9_blame = true := zy_chk_ok (by decide +kernel)
theorem zq_267 : zv_vM mc9_blame ∧ zv_vP (some 9) mc9_blame := ⟨zv_vM_of (ci := 9) rfl rfl zv_vPl_9 zk_267, rfl, (by decide +kernel), fun ci h => (by cases h; exact Or.inr ⟨_, (by decide), rfl, rfl⟩)⟩
theorem zk_268 : zv_chk 9 mc9_cutsOf = true := zy_chk_ok (by decide +kernel)
theorem zq_268 : zv_vM mc9_cutsOf ∧ zv_vP (some 9) mc9_cutsOf := ⟨zv_vM_of (ci := 9) rfl rfl zv_vPl_9 zk_268, rfl, (by decide +kernel), fun ci h => (by cases h; exact Or.inr ⟨_, (by decide), rfl, rfl⟩)⟩
theorem zk_269 : zv_chk 9 mc9_row = true := zy_chk_ok (by decide +kernel)
theorem zq_269 : zv_vM mc9_row ∧ zv_vP (some 9) mc9_row := ⟨zv_vM_of (ci := 9) rfl rfl zv_vPl_9 zk_269, rfl, (by decide +kernel), fun ci h => (by cases h; exact Or.inr ⟨_, (by decide), rfl, rfl⟩)⟩
theorem zk_270 : zv_chk 9 mc9_visit = true := zy_chk_ok (by decide +kernel)
theorem zq_270 : zv_vM mc9_visit ∧ zv_vP (some 9) mc9_visit := ⟨zv_vM_of (ci := 9) rfl rfl zv_vPl_9 zk_270, rfl, (by decide +kernel), fun ci h => (by cases h; exact Or.inr ⟨_, (by decide), rfl, rfl⟩)⟩
theorem zk_271 : zv_chk 9 mc9_named = true := zy_chk_ok (by decide +kernel)
theorem zq_271 : zv_vM mc9_named ∧ zv_vP (some 9) mc9_named := ⟨zv_vM_of (ci := 9) rfl rfl zv_vPl_9 zk_271, rfl, (by decide +kernel), fun ci h => (by cases h; exact Or.inr ⟨_, (by decide), rfl, rfl⟩)⟩
theorem zk_272 : zv_chk 9 mc9_leans = true := zy_chk_ok (by decide +kernel)
theorem zq_272 : zv_vM mc9_leans ∧ zv_vP (some 9) mc9_leans := ⟨zv_vM_of (ci := 9) rfl rfl zv_vPl_9 zk_272, rfl, (by decide +kernel), fun ci h => (by cases h; exact Or.inr ⟨_, (by decide), rfl, rfl⟩)⟩
theorem zk_273 : zv_chk 9 mc9_put = true := zy_chk_ok (by decide +kernel)
theorem zq_273 : zv_vM mc9_put ∧ zv_vP (some 9) mc9_put := ⟨zv_vM_of (ci := 9) rfl rfl zv_vPl_9 zk_273, rfl, (by decide +kernel), fun ci h => (by cases h; exact Or.inr ⟨_, (by decide), rfl, rfl⟩)⟩
theorem zk_274 : zv_chk 9 mc9_cut = true := zy_chk_ok (by decide +kernel)
theorem zq_274 : zv_vM mc9_cut ∧ zv_vP (some 9) mc9_cut := ⟨zv_vM_of (ci := 9) rfl rfl zv_vPl_9 zk_274, rfl, (by decide +kernel), fun ci h => (by cases h; exact Or.inr ⟨_, (by decide), rfl, rfl⟩)⟩
theorem zk_275 : zv_chk 9 mc9_wait = true := zy_chk_ok (by decide +kernel)
theorem zq_275 : zv_vM mc9_wait ∧ zv_vP (some 9) mc9_wait := ⟨zv_vM_of (ci := 9) rfl rfl zv_vPl_9 zk_275, rfl, (by decide +kernel), fun ci h => (by cases h; exact Or.inr ⟨_, (by decide), rfl, rfl⟩)⟩
theorem zk_276 : zv_chk 9 mc9_undo = true := zy_chk_ok (by decide +kernel)
theorem zq_276 : zv_vM mc9_undo ∧ zv_vP (some 9) mc9_undo := ⟨zv_vM_of (ci := 9) rfl rfl zv_vPl_9 zk_276, rfl, (by decide +kernel), fun ci h => (by cases h; exact Or.inr ⟨_, (by decide), rfl, rfl⟩)⟩
theorem zk_277 : zv_chk 9 mc9_redo = true := zy_chk_ok (by decide +kernel)
theorem zq_277 : zv_vM mc9_redo ∧ zv_vP (some 9) mc9_redo := ⟨zv_vM_of (ci := 9) rfl rfl zv_vPl_9 zk_277, rfl, (by decide +kernel), fun ci h => (by cases h; exact Or.inr ⟨_, (by decide), rfl, rfl⟩)⟩
theorem zk_278 : zv_chk 9 mc9_go = true := zy_chk_ok (by decide +kernel)
theorem zq_278 : zv_vM mc9_go ∧ zv_vP (some 9) mc9_go := ⟨zv_vM_of (ci := 9) rfl rfl zv_vPl_9 zk_278, rfl, (by decide +kernel), fun ci h => (by cases h; exact Or.inr ⟨_, (by decide), rfl, rfl⟩)⟩
theorem zk_279 : zv_chk 9 mc9_name = true := zy_chk_ok (by decide +kernel)
theorem zq_279 : zv_vM mc9_name ∧ zv_vP (some 9) mc9_name := ⟨zv_vM_of (ci := 9) rfl rfl zv_vPl_9 zk_279, rfl, (by decide +kernel), fun ci h => (by cases h; exact Or.inr ⟨_, (by decide), rfl, rfl⟩)⟩
theorem zk_280 : zv_chk 9 mc9_unname = true := zy_chk_ok (by decide +kernel)
theorem zq_280 : zv_vM mc9_unname ∧ zv_vP (some 9) mc9_unname := ⟨zv_vM_of (ci := 9) rfl rfl zv_vPl_9 zk_280, rfl, (by decide +kernel), fun ci h => (by cases h; exact Or.inr ⟨_, (by decide), rfl, rfl⟩)⟩
theorem zk_281 : zv_chk 9 mc9_withdraw = true := zy_chk_ok (by decide +kernel)
theorem zq_281 : zv_vM mc9_withdraw ∧ zv_vP (some 9) mc9_withdraw := ⟨zv_vM_of (ci := 9) rfl rfl zv_vPl_9 zk_281, rfl, (by decide +kernel), fun ci h => (by cases h; exact Or.inr ⟨_, (by decide), rfl, rfl⟩)⟩
theorem zk_282 : zv_chk 9 mc9_restore = true := zy_chk_ok (by decide +kernel)
theorem zq_282 : zv_vM mc9_restore ∧ zv_vP (some 9) mc9_restore := ⟨zv_vM_of (ci := 9) rfl rfl zv_vPl_9 zk_282, rfl, (by decide +kernel), fun ci h => (by cases h; exact Or.inr ⟨_, (by decide), rfl, rfl⟩)⟩
theorem zk_283 : zv_chk 9 mc9_firstOut = true := zy_chk_ok (by decide +kernel)
theorem zq_283 : zv_vM mc9_firstOut ∧ zv_vP (some 9) mc9_firstOut := ⟨zv_vM_of (ci := 9) rfl rfl zv_vPl_9 zk_283, rfl, (by decide +kernel), fun ci h => (by cases h; exact Or.inr ⟨_, (by decide), rfl, rfl⟩)⟩
theorem zk_284 : zv_chk 9 mc9_carry = true := zy_chk_ok (by decide +kernel)
theorem zq_284 : zv_vM mc9_carry ∧ zv_vP (some 9) mc9_carry := ⟨zv_vM_of (ci := 9) rfl rfl zv_vPl_9 zk_284, rfl, (by decide +kernel), fun ci h => (by cases h; exact Or.inr ⟨_, (by decide), rfl, rfl⟩)⟩
theorem zk_285 : zv_chk 9 mc9_merge = true := zy_chk_ok (by decide +kernel)
theorem zq_285 : zv_vM mc9_merge ∧ zv_vP (some 9) mc9_merge := ⟨zv_vM_of (ci := 9) rfl rfl zv_vPl_9 zk_285, rfl, (by decide +kernel), fun ci h => (by cases h; exact Or.inr ⟨_, (by decide), rfl, rfl⟩)⟩
theorem zk_286 : zv_chk 9 mc9_prune = true := zy_chk_ok (by decide +kernel)
theorem zq_286 : zv_vM mc9_prune ∧ zv_vP (some 9) mc9_prune := ⟨zv_vM_of (ci := 9) rfl rfl zv_vPl_9 zk_286, rfl, (by decide +kernel), fun ci h => (by cases h; exact Or.inr ⟨_, (by decide), rfl, rfl⟩)⟩
theorem zk_287 : zv_chk 9 mc9_pruneNow = true := zy_chk_ok (by decide +kernel)
theorem zq_287 : zv_vM mc9_pruneNow ∧ zv_vP (some 9) mc9_pruneNow := ⟨zv_vM_of (ci := 9) rfl rfl zv_vPl_9 zk_287, rfl, (by decide +kernel), fun ci h => (by cases h; exact Or.inr ⟨_, (by decide), rfl, rfl⟩)⟩
theorem zk_288 : zv_chk 9 mc9_common = true := zy_chk_ok (by decide +kernel)
theorem zq_288 : zv_vM mc9_common ∧ zv_vP (some 9) mc9_common := ⟨zv_vM_of (ci := 9) rfl rfl zv_vPl_9 zk_288, rfl, (by decide +kernel), fun ci h => (by cases h; exact Or.inr ⟨_, (by decide), rfl, rfl⟩)⟩
theorem zk_289 : zv_chk 9 mc9_way = true := zy_chk_ok (by decide +kernel)
theorem zq_289 : zv_vM mc9_way ∧ zv_vP (some 9) mc9_way := ⟨zv_vM_of (ci := 9) rfl rfl zv_vPl_9 zk_289, rfl, (by decide +kernel), fun ci h => (by cases h; exact Or.inr ⟨_, (by decide), rfl, rfl⟩)⟩
theorem zk_290 : zv_chk 9 mc9_keysOf = true := zy_chk_ok (by decide +kernel)
theorem zq_290 : zv_vM mc9_keysOf ∧ zv_vP (some 9) mc9_keysOf := ⟨zv_vM_of (ci := 9) rfl rfl zv_vPl_9 zk_290, rfl, (by decide +kernel), fun ci h => (by cases h; exact Or.inr ⟨_, (by decide), rfl, rfl⟩)⟩
theorem zk_291 : zv_chk 9 mc9_keptOf = true := zy_chk_ok (by decide +kernel)
theorem zq_291 : zv_vM mc9_keptOf ∧ zv_vP (some 9) mc9_keptOf := ⟨zv_vM_of (ci := 9) rfl rfl zv_vPl_9 zk_291, rfl, (by decide +kernel), fun ci h => (by cases h; exact Or.inr ⟨_, (by decide), rfl, rfl⟩)⟩
theorem zk_292 : zv_chk 9 mc9_differ = true := zy_chk_ok (by decide +kernel)
theorem zq_292 : zv_vM mc9_differ ∧ zv_vP (some 9) mc9_differ := ⟨zv_vM_of (ci := 9) rfl rfl zv_vPl_9 zk_292, rfl, (by decide +kernel), fun ci h => (by cases h; exact Or.inr ⟨_, (by decide), rfl, rfl⟩)⟩
theorem zk_293 : zv_chk 9 mc9_between = true := zy_chk_ok (by decide +kernel)
theorem zq_293 : zv_vM mc9_between ∧ zv_vP (some 9) mc9_between := ⟨zv_vM_of (ci := 9) rfl rfl zv_vPl_9 zk_293, rfl, (by decide +kernel), fun ci h => (by cases h; exact Or.inr ⟨_, (by decide), rfl, rfl⟩)⟩
theorem zk_294 : zv_chk 9 mc9_least = true := zy_chk_ok (by decide +kernel)
theorem zq_294 : zv_vM mc9_least ∧ zv_vP (some 9) mc9_least := ⟨zv_vM_of (ci := 9) rfl rfl zv_vPl_9 zk_294, rfl, (by decide +kernel), fun ci h => (by cases h; exact Or.inr ⟨_, (by decide), rfl, rfl⟩)⟩
theorem zk_295 : zv_chk 9 mc9_merges = true := zy_chk_ok (by decide +kernel)
theorem zq_295 : zv_vM mc9_merges ∧ zv_vP (some 9) mc9_merges := ⟨zv_vM_of (ci := 9) rfl rfl zv_vPl_9 zk_295, rfl, (by decide +kernel), fun ci h => (by cases h; exact Or.inr ⟨_, (by decide), rfl, rfl⟩)⟩
theorem zk_296 : zv_chk 9 mc9_tells = true := zy_chk_ok (by decide +kernel)
theorem zq_296 : zv_vM mc9_tells ∧ zv_vP (some 9) mc9_tells := ⟨zv_vM_of (ci := 9) rfl rfl zv_vPl_9 zk_296, rfl, (by decide +kernel), fun ci h => (by cases h; exact Or.inr ⟨_, (by decide), rfl, rfl⟩)⟩
theorem zk_297 : zv_chk 9 mc9_tellsNumber = true := zy_chk_ok (by decide +kernel)
theorem zq_297 : zv_vM mc9_tellsNumber ∧ zv_vP (some 9) mc9_tellsNumber := ⟨zv_vM_of (ci := 9) rfl rfl zv_vPl_9 zk_297, rfl, (by decide +kernel), fun ci h => (by cases h; exact Or.inr ⟨_, (by decide), rfl, rfl⟩)⟩
theorem zk_298 : zv_chk 9 mc9_tellsNames = true := zy_chk_ok (by decide +kernel)
theorem zq_298 : zv_vM mc9_tellsNames ∧ zv_vP (some 9) mc9_tellsNames := ⟨zv_vM_of (ci := 9) rfl rfl zv_vPl_9 zk_298, rfl, (by decide +kernel), fun ci h => (by cases h; exact Or.inr ⟨_, (by decide), rfl, rfl⟩)⟩
theorem zk_299 : zv_chk 9 mc9_tell = true := zy_chk_ok (by decide +kernel)
theorem zq_299 : zv_vM mc9_tell ∧ zv_vP (some 9) mc9_tell := ⟨zv_vM_of (ci := 9) rfl rfl zv_vPl_9 zk_299, rfl, (by decide +kernel), fun ci h => (by cases h; exact Or.inr ⟨_, (by decide), rfl, rfl⟩)⟩
theorem zk_300 : zv_chk 9 mc9_out = true := zy_chk_ok (by decide +kernel)
theorem zq_300 : zv_vM mc9_out ∧ zv_vP (some 9) mc9_out := ⟨zv_vM_of (ci := 9) rfl rfl zv_vPl_9 zk_300, rfl, (by decide +kernel), fun ci h => (by cases h; exact Or.inr ⟨_, (by decide), rfl, rfl⟩)⟩
theorem zk_301 : zv_chk 9 mc9_leaning = true := zy_chk_ok (by decide +kernel)
theorem zq_301 : zv_vM mc9_leaning ∧ zv_vP (some 9) mc9_leaning := ⟨zv_vM_of (ci := 9) rfl rfl zv_vPl_9 zk_301, rfl, (by decide +kernel), fun ci h => (by cases h; exact Or.inr ⟨_, (by decide), rfl, rfl⟩)⟩
theorem zk_302 : zv_chk 9 mc9_placeIn = true := zy_chk_ok (by decide +kernel)
theorem zq_302 : zv_vM mc9_placeIn ∧ zv_vP (some 9) mc9_placeIn := ⟨zv_vM_of (ci := 9) rfl rfl zv_vPl_9 zk_302, rfl, (by decide +kernel), fun ci h => (by cases h; exact Or.inr ⟨_, (by decide), rfl, rfl⟩)⟩
theorem zk_303 : zv_chk 9 mc9_find = true := zy_chk_ok (by decide +kernel)
theorem zq_303 : zv_vM mc9_find ∧ zv_vP (some 9) mc9_find := ⟨zv_vM_of (ci := 9) rfl rfl zv_vPl_9 zk_303, rfl, (by decide +kernel), fun ci h => (by cases h; exact Or.inr ⟨_, (by decide), rfl, rfl⟩)⟩
theorem zk_304 : zv_chk 9 mc9_first = true := zy_chk_ok (by decide +kernel)
theorem zq_304 : zv_vM mc9_first ∧ zv_vP (some 9) mc9_first := ⟨zv_vM_of (ci := 9) rfl rfl zv_vPl_9 zk_304, rfl, (by decide +kernel), fun ci h => (by cases h; exact Or.inr ⟨_, (by decide), rfl, rfl⟩)⟩
theorem zk_305 : zv_chk 9 mc9_twin = true := zy_chk_ok (by decide +kernel)
theorem zq_305 : zv_vM mc9_twin ∧ zv_vP (some 9) mc9_twin := ⟨zv_vM_of (ci := 9) rfl rfl zv_vPl_9 zk_305, rfl, (by decide +kernel), fun ci h => (by cases h; exact Or.inr ⟨_, (by decide), rfl, rfl⟩)⟩
theorem zk_306 : zv_chk 9 mc9_back = true := zy_chk_ok (by decide +kernel)
theorem zq_306 : zv_vM mc9_back ∧ zv_vP (some 9) mc9_back := ⟨zv_vM_of (ci := 9) rfl rfl zv_vPl_9 zk_306, rfl, (by decide +kernel), fun ci h => (by cases h; exact Or.inr ⟨_, (by decide), rfl, rfl⟩)⟩
theorem zk_307 : zv_chk 99 mc12_bitCount = true := zy_chk_ok (by decide +kernel)
theorem zq_307 : zv_vM mc12_bitCount ∧ zv_vP none mc12_bitCount := ⟨zv_vM_of2 zv_vPl_12 (fun q hq => absurd hq List.not_mem_nil) zk_307, rfl, (by decide +kernel), fun ci h => (by cases h)⟩
theorem zk_308 : zv_chk 99 mc13_coder = true := zy_chk_ok (by decide +kernel)
theorem zq_308 : zv_vM mc13_coder ∧ zv_vP (some 10) mc13_coder := ⟨zv_vM_of2 zv_vPl_13 (List.forall_mem_cons.mpr ⟨Or.inr rfl, List.forall_mem_cons.mpr ⟨Or.inl rfl, fun _ h => absurd h List.not_mem_nil⟩⟩) zk_308, rfl, (by decide +kernel), fun ci h => (by cases h; exact Or.inl ⟨rfl, rfl⟩)⟩
theorem zk_309 : zv_chk 99 mc13_isLatin1 = true := zy_chk_ok (by decide +kernel)
theorem zq_309 : zv_vM mc13_isLatin1 ∧ zv_vP (some 10) mc13_isLatin1 := ⟨zv_vM_of2 zv_vPl_13 (List.forall_mem_cons.mpr ⟨Or.inr rfl, List.forall_mem_cons.mpr ⟨Or.inl rfl, fun _ h => absurd h List.not_mem_nil⟩⟩) zk_309, rfl, (by decide +kernel), fun ci h => (by cases h; exact Or.inl ⟨rfl, rfl⟩)⟩
theorem zk_310 : zv_chk 99 mc13_length = true := zy_chk_ok (by decide +kernel)
theorem zq_310 : zv_vM mc13_length ∧ zv_vP (some 10) mc13_length := ⟨zv_vM_of2 zv_vPl_13 (List.forall_mem_cons.mpr ⟨Or.inr rfl, List.forall_mem_cons.mpr ⟨Or.inl rfl, fun _ h => absurd h List.not_mem_nil⟩⟩) zk_310, rfl, (by decide +kernel), fun ci h => (by cases h; exact Or.inl ⟨rfl, rfl⟩)⟩
theorem zk_311 : zv_chk 99 mc14_charAt = true := zy_chk_ok (by decide +kernel)
theorem zq_311 : zv_vM mc14_charAt ∧ zv_vP none mc14_charAt := ⟨zv_vM_of2 zv_vPl_14 (fun q hq => absurd hq List.not_mem_nil) zk_311, rfl, (by decide +kernel), fun ci h => (by cases h)⟩
theorem zk_312 : zv_chk 99 mc13_charAt = true := zy_chk_ok (by decide +kernel)
theorem zq_312 : zv_vM mc13_charAt ∧ zv_vP (some 10) mc13_charAt := ⟨zv_vM_of2 zv_vPl_13 (List.forall_mem_cons.mpr ⟨Or.inr rfl, List.forall_mem_cons.mpr ⟨Or.inl rfl, fun _ h => absurd h List.not_mem_nil⟩⟩) zk_312, rfl, (by decide +kernel), fun ci h => (by cases h; exact Or.inl ⟨rfl, rfl⟩)⟩
theorem zk_313 : zv_chk 99 mc14_canEncode = true := zy_chk_ok (by decide +kernel)
theorem zq_313 : zv_vM mc14_canEncode ∧ zv_vP none mc14_canEncode := ⟨zv_vM_of2 zv_vPl_14 (fun q hq => absurd hq List.not_mem_nil) zk_313, rfl, (by decide +kernel), fun ci h => (by cases h)⟩
theorem zk_314 : zv_chk 99 mc14_indexOfChar = true := zy_chk_ok (by decide +kernel)
theorem zq_314 : zv_vM mc14_indexOfChar ∧ zv_vP none mc14_indexOfChar := ⟨zv_vM_of2 zv_vPl_14 (fun q hq => absurd hq List.not_mem_nil) zk_314, rfl, (by decide +kernel), fun ci h => (by cases h)⟩
theorem zk_315 : zv_chk 99 mc14_indexOf = true := zy_chk_ok (by decide +kernel)
theorem zq_315 : zv_vM mc14_indexOf ∧ zv_vP none mc14_indexOf := ⟨zv_vM_of2 zv_vPl_14 (fun q hq => absurd hq List.not_mem_nil) zk_315, rfl, (by decide +kernel), fun ci h => (by cases h)⟩
theorem zk_316 : zv_chk 99 mc13_indexOf2 = true := zy_chk_ok (by decide +kernel)
theorem zq_316 : zv_vM mc13_indexOf2 ∧ zv_vP (some 10) mc13_indexOf2 := ⟨zv_vM_of2 zv_vPl_13 (List.forall_mem_cons.mpr ⟨Or.inr rfl, List.forall_mem_cons.mpr ⟨Or.inl rfl, fun _ h => absurd h List.not_mem_nil⟩⟩) zk_316, rfl, (by decide +kernel), fun ci h => (by cases h; exact Or.inl ⟨rfl, rfl⟩)⟩
theorem zk_317 : zv_chk 99 mc13_indexOf = true := zy_chk_ok (by decide +kernel)
theorem zq_317 : zv_vM mc13_indexOf ∧ zv_vP (some 10) mc13_indexOf := ⟨zv_vM_of2 zv_vPl_13 (List.forall_mem_cons.mpr ⟨Or.inr rfl, List.forall_mem_cons.mpr ⟨Or.inl rfl, fun _ h => absurd h List.not_mem_nil⟩⟩) zk_317, rfl, (by decide +kernel), fun ci h => (by cases h; exact Or.inl ⟨rfl, rfl⟩)⟩
theorem zu_0 : ∀ q ∈ zp_c0, zv_vM q.2 ∧ zv_vP q.1 q.2 := (List.forall_mem_cons.mpr ⟨zq_0, (List.forall_mem_cons.mpr ⟨zq_1, (List.forall_mem_cons.mpr ⟨zq_2, (List.forall_mem_cons.mpr ⟨zq_3, (List.forall_mem_cons.mpr ⟨zq_4, (List.forall_mem_cons.mpr ⟨zq_5, (List.forall_mem_cons.mpr ⟨zq_6, (List.forall_mem_cons.mpr ⟨zq_7, (List.forall_mem_cons.mpr ⟨zq_8, (List.forall_mem_cons.mpr ⟨zq_9, (List.forall_mem_cons.mpr ⟨zq_10, (List.forall_mem_cons.mpr ⟨zq_11, (List.forall_mem_cons.mpr ⟨zq_12, (List.forall_mem_cons.mpr ⟨zq_13, (List.forall_mem_cons.mpr ⟨zq_14, (List.forall_mem_cons.mpr ⟨zq_15, (fun _ h => absurd h List.not_mem_nil)⟩)⟩)⟩)⟩)⟩)⟩)⟩)⟩)⟩)⟩)⟩)⟩)⟩)⟩)⟩)⟩)
theorem zu_1 : ∀ q ∈ zp_c1, zv_vM q.2 ∧ zv_vP q.1 q.2 := (List.forall_mem_cons.mpr ⟨zq_16, (List.forall_mem_cons.mpr ⟨zq_17, (List.forall_mem_cons.mpr ⟨zq_18, (List.forall_mem_cons.mpr ⟨zq_19, (List.forall_mem_cons.mpr ⟨zq_20, (List.forall_mem_cons.mpr ⟨zq_21, (List.forall_mem_cons.mpr ⟨zq_22, (List.forall_mem_cons.mpr ⟨zq_23, (List.forall_mem_cons.mpr ⟨zq_24, (List.forall_mem_cons.mpr ⟨zq_25, (List.forall_mem_cons.mpr ⟨zq_26, (List.forall_mem_cons.mpr ⟨zq_27, (List.forall_mem_cons.mpr ⟨zq_28, (List.forall_mem_cons.mpr ⟨zq_29, (List.forall_mem_cons.mpr ⟨zq_30, (List.forall_mem_cons.mpr ⟨zq_31, (fun _ h => absurd h List.not_mem_nil)⟩)⟩)⟩)⟩)⟩)⟩)⟩)⟩)⟩)⟩)⟩)⟩)⟩)⟩)⟩)⟩)
theorem zu_2 : ∀ q ∈ zp_c2, zv_vM q.2 ∧ zv_vP q.1 q.2 := (List.forall_mem_cons.mpr ⟨zq_32, (List.forall_mem_cons.mpr ⟨zq_33, (List.forall_mem_cons.mpr ⟨zq_34, (List.forall_mem_cons.mpr ⟨zq_35, (List.forall_mem_cons.mpr ⟨zq_36, (List.forall_mem_cons.mpr ⟨zq_37, (List.forall_mem_cons.mpr ⟨zq_38, (List.forall_mem_cons.mpr ⟨zq_39, (List.forall_mem_cons.mpr ⟨zq_40, (List.forall_mem_cons.mpr ⟨zq_41, (List.forall_mem_cons.mpr ⟨zq_42, (List.forall_mem_cons.mpr ⟨zq_43, (List.forall_mem_cons.mpr ⟨zq_44, (List.forall_mem_cons.mpr ⟨zq_45, (List.forall_mem_cons.mpr ⟨zq_46, (List.forall_mem_cons.mpr ⟨zq_47, (fun _ h => absurd h List.not_mem_nil)⟩)⟩)⟩)⟩)⟩)⟩)⟩)⟩)⟩)⟩)⟩)⟩)⟩)⟩)⟩)⟩)
theorem zu_3 : ∀ q ∈ zp_c3, zv_vM q.2 ∧ zv_vP q.1 q.2 := (List.forall_mem_cons.mpr ⟨zq_48, (List.forall_mem_cons.mpr ⟨zq_49, (List.forall_mem_cons.mpr ⟨zq_50, (List.forall_mem_cons.mpr ⟨zq_51, (List.forall_mem_cons.mpr ⟨zq_52, (List.forall_mem_cons.mpr ⟨zq_53, (List.forall_mem_cons.mpr ⟨zq_54, (List.forall_mem_cons.mpr ⟨zq_55, (List.forall_mem_cons.mpr ⟨zq_56, (List.forall_mem_cons.mpr ⟨zq_57, (List.forall_mem_cons.mpr ⟨zq_58, (List.forall_mem_cons.mpr ⟨zq_59, (List.forall_mem_cons.mpr ⟨zq_60, (List.forall_mem_cons.mpr ⟨zq_61, (List.forall_mem_cons.mpr ⟨zq_62, (List.forall_mem_cons.mpr ⟨zq_63, (fun _ h => absurd h List.not_mem_nil)⟩)⟩)⟩)⟩)⟩)⟩)⟩)⟩)⟩)⟩)⟩)⟩)⟩)⟩)⟩)⟩)
theorem zu_4 : ∀ q ∈ zp_c4, zv_vM q.2 ∧ zv_vP q.1 q.2 := (List.forall_mem_cons.mpr ⟨zq_64, (List.forall_mem_cons.mpr ⟨zq_65, (List.forall_mem_cons.mpr ⟨zq_66, (List.forall_mem_cons.mpr ⟨zq_67, (List.forall_mem_cons.mpr ⟨zq_68, (List.forall_mem_cons.mpr ⟨zq_69, (List.forall_mem_cons.mpr ⟨zq_70, (List.forall_mem_cons.mpr ⟨zq_71, (List.forall_mem_cons.mpr ⟨zq_72, (List.forall_mem_cons.mpr ⟨zq_73, (List.forall_mem_cons.mpr ⟨zq_74, (List.forall_mem_cons.mpr ⟨zq_75, (List.forall_mem_cons.mpr ⟨zq_76, (List.forall_mem_cons.mpr ⟨zq_77, (List.forall_mem_cons.mpr ⟨zq_78, (List.forall_mem_cons.mpr ⟨zq_79, (fun _ h => absurd h List.not_mem_nil)⟩)⟩)⟩)⟩)⟩)⟩)⟩)⟩)⟩)⟩)⟩)⟩)⟩)⟩)⟩)⟩)
theorem zu_5 : ∀ q ∈ zp_c5, zv_vM q.2 ∧ zv_vP q.1 q.2 := (List.forall_mem_cons.mpr ⟨zq_80, (List.forall_mem_cons.mpr ⟨zq_81, (List.forall_mem_cons.mpr ⟨zq_82, (List.forall_mem_cons.mpr ⟨zq_83, (List.forall_mem_cons.mpr ⟨zq_84, (List.forall_mem_cons.mpr ⟨zq_85, (List.forall_mem_cons.mpr ⟨zq_86, (List.forall_mem_cons.mpr ⟨zq_87, (List.forall_mem_cons.mpr ⟨zq_88, (List.forall_mem_cons.mpr ⟨zq_89, (List.forall_mem_cons.mpr ⟨zq_90, (List.forall_mem_cons.mpr ⟨zq_91, (List.forall_mem_cons.mpr ⟨zq_92, (List.forall_mem_cons.mpr ⟨zq_93, (List.forall_mem_cons.mpr ⟨zq_94, (List.forall_mem_cons.mpr ⟨zq_95, (fun _ h => absurd h List.not_mem_nil)⟩)⟩)⟩)⟩)⟩)⟩)⟩)⟩)⟩)⟩)⟩)⟩)⟩)⟩)⟩)⟩)
theorem zu_6 : ∀ q ∈ zp_c6, zv_vM q.2 ∧ zv_vP q.1 q.2 := (List.forall_mem_cons.mpr ⟨zq_96, (List.forall_mem_cons.mpr ⟨zq_97, (List.forall_mem_cons.mpr ⟨zq_98, (List.forall_mem_cons.mpr ⟨zq_99, (List.forall_mem_cons.mpr ⟨zq_100, (List.forall_mem_cons.mpr ⟨zq_101, (List.forall_mem_cons.mpr ⟨zq_102, (List.forall_mem_cons.mpr ⟨zq_103, (List.forall_mem_cons.mpr ⟨zq_104, (List.forall_mem_cons.mpr ⟨zq_105, (List.forall_mem_cons.mpr ⟨zq_106, (List.forall_mem_cons.mpr ⟨zq_107, (List.forall_mem_cons.mpr ⟨zq_108, (List.forall_mem_cons.mpr ⟨zq_109, (List.forall_mem_cons.mpr ⟨zq_110, (List.forall_mem_cons.mpr ⟨zq_111, (fun _ h => absurd h List.not_mem_nil)⟩)⟩)⟩)⟩)⟩)⟩)⟩)⟩)⟩)⟩)⟩)⟩)⟩)⟩)⟩)⟩)
theorem zu_7 : ∀ q ∈ zp_c7, zv_vM q.2 ∧ zv_vP q.1 q.2 := (List.forall_mem_cons.mpr ⟨zq_112, (List.forall_mem_cons.mpr ⟨zq_113, (List.forall_mem_cons.mpr ⟨zq_114, (List.forall_mem_cons.mpr ⟨zq_115, (List.forall_mem_cons.mpr ⟨zq_116, (List.forall_mem_cons.mpr ⟨zq_117, (List.forall_mem_cons.mpr ⟨zq_118, (List.forall_mem_cons.mpr ⟨zq_119, (List.forall_mem_cons.mpr ⟨zq_120, (List.forall_mem_cons.mpr ⟨zq_121, (List.forall_mem_cons.mpr ⟨zq_122, (List.forall_mem_cons.mpr ⟨zq_123, (List.forall_mem_cons.mpr ⟨zq_124, (List.forall_mem_cons.mpr ⟨zq_125, (List.forall_mem_cons.mpr ⟨zq_126, (List.forall_mem_cons.mpr ⟨zq_127, (fun _ h => absurd h List.not_mem_nil)⟩)⟩)⟩)⟩)⟩)⟩)⟩)⟩)⟩)⟩)⟩)⟩)⟩)⟩)⟩)⟩)
theorem zu_8 : ∀ q ∈ zp_c8, zv_vM q.2 ∧ zv_vP q.1 q.2 := (List.forall_mem_cons.mpr ⟨zq_128, (List.forall_mem_cons.mpr ⟨zq_129, (List.forall_mem_cons.mpr ⟨zq_130, (List.forall_mem_cons.mpr ⟨zq_131, (List.forall_mem_cons.mpr ⟨zq_132, (List.forall_mem_cons.mpr ⟨zq_133, (List.forall_mem_cons.mpr ⟨zq_134, (List.forall_mem_cons.mpr ⟨zq_135, (List.forall_mem_cons.mpr ⟨zq_136, (List.forall_mem_cons.mpr ⟨zq_137, (List.forall_mem_cons.mpr ⟨zq_138, (List.forall_mem_cons.mpr ⟨zq_139, (List.forall_mem_cons.mpr ⟨zq_140, (List.forall_mem_cons.mpr ⟨zq_141, (List.forall_mem_cons.mpr ⟨zq_142, (List.forall_mem_cons.mpr ⟨zq_143, (fun _ h => absurd h List.not_mem_nil)⟩)⟩)⟩)⟩)⟩)⟩)⟩)⟩)⟩)⟩)⟩)⟩)⟩)⟩)⟩)⟩)
theorem zu_9 : ∀ q ∈ zp_c9, zv_vM q.2 ∧ zv_vP q.1 q.2 := (List.forall_mem_cons.mpr ⟨zq_144, (List.forall_mem_cons.mpr ⟨zq_145, (List.forall_mem_cons.mpr ⟨zq_146, (List.forall_mem_cons.mpr ⟨zq_147, (List.forall_mem_cons.mpr ⟨zq_148, (List.forall_mem_cons.mpr ⟨zq_149, (List.forall_mem_cons.mpr ⟨zq_150, (List.forall_mem_cons.mpr ⟨zq_151, (List.forall_mem_cons.mpr ⟨zq_152, (List.forall_mem_cons.mpr ⟨zq_153, (List.forall_mem_cons.mpr ⟨zq_154, (List.forall_mem_cons.mpr ⟨zq_155, (List.forall_mem_cons.mpr ⟨zq_156, (List.forall_mem_cons.mpr ⟨zq_157, (List.forall_mem_cons.mpr ⟨zq_158, (List.forall_mem_cons.mpr ⟨zq_159, (fun _ h => absurd h List.not_mem_nil)⟩)⟩)⟩)⟩)⟩)⟩)⟩)⟩)⟩)⟩)⟩)⟩)⟩)⟩)⟩)⟩)
theorem zu_10 : ∀ q ∈ zp_c10, zv_vM q.2 ∧ zv_vP q.1 q.2 := (List.forall_mem_cons.mpr ⟨zq_160, (List.forall_mem_cons.mpr ⟨zq_161, (List.forall_mem_cons.mpr ⟨zq_162, (List.forall_mem_cons.mpr ⟨zq_163, (List.forall_mem_cons.mpr ⟨zq_164, (List.forall_mem_cons.mpr ⟨zq_165, (List.forall_mem_cons.mpr ⟨zq_166, (List.forall_mem_cons.mpr ⟨zq_167, (List.forall_mem_cons.mpr ⟨zq_168, (List.forall_mem_cons.mpr ⟨zq_169, (List.forall_mem_cons.mpr ⟨zq_170, (List.forall_mem_cons.mpr ⟨zq_171, (List.forall_mem_cons.mpr ⟨zq_172, (List.forall_mem_cons.mpr ⟨zq_173, (List.forall_mem_cons.mpr ⟨zq_174, (List.forall_mem_cons.mpr ⟨zq_175, (fun _ h => absurd h List.not_mem_nil)⟩)⟩)⟩)⟩)⟩)⟩)⟩)⟩)⟩)⟩)⟩)⟩)⟩)⟩)⟩)⟩)
theorem zu_11 : ∀ q ∈ zp_c11, zv_vM q.2 ∧ zv_vP q.1 q.2 := (List.forall_mem_cons.mpr ⟨zq_176, (List.forall_mem_cons.mpr ⟨zq_177, (List.forall_mem_cons.mpr ⟨zq_178, (List.forall_mem_cons.mpr ⟨zq_179, (List.forall_mem_cons.mpr ⟨zq_180, (List.forall_mem_cons.mpr ⟨zq_181, (List.forall_mem_cons.mpr ⟨zq_182, (List.forall_mem_cons.mpr ⟨zq_183, (List.forall_mem_cons.mpr ⟨zq_184, (List.forall_mem_cons.mpr ⟨zq_185, (List.forall_mem_cons.mpr ⟨zq_186, (List.forall_mem_cons.mpr ⟨zq_187, (List.forall_mem_cons.mpr ⟨zq_188, (List.forall_mem_cons.mpr ⟨zq_189, (List.forall_mem_cons.mpr ⟨zq_190, (List.forall_mem_cons.mpr ⟨zq_191, (fun _ h => absurd h List.not_mem_nil)⟩)⟩)⟩)⟩)⟩)⟩)⟩)⟩)⟩)⟩)⟩)⟩)⟩)⟩)⟩)⟩)
theorem zu_12 : ∀ q ∈ zp_c12, zv_vM q.2 ∧ zv_vP q.1 q.2 := (List.forall_mem_cons.mpr ⟨zq_192, (List.forall_mem_cons.mpr ⟨zq_193, (List.forall_mem_cons.mpr ⟨zq_194, (List.forall_mem_cons.mpr ⟨zq_195, (List.forall_mem_cons.mpr ⟨zq_196, (List.forall_mem_cons.mpr ⟨zq_197, (List.forall_mem_cons.mpr ⟨zq_198, (List.forall_mem_cons.mpr ⟨zq_199, (List.forall_mem_cons.mpr ⟨zq_200, (List.forall_mem_cons.mpr ⟨zq_201, (List.forall_mem_cons.mpr ⟨zq_202, (List.forall_mem_cons.mpr ⟨zq_203, (List.forall_mem_cons.mpr ⟨zq_204, (List.forall_mem_cons.mpr ⟨zq_205, (List.forall_mem_cons.mpr ⟨zq_206, (List.forall_mem_cons.mpr ⟨zq_207, (fun _ h => absurd h List.not_mem_nil)⟩)⟩)⟩)⟩)⟩)⟩)⟩)⟩)⟩)⟩)⟩)⟩)⟩)⟩)⟩)⟩)
theorem zu_13 : ∀ q ∈ zp_c13, zv_vM q.2 ∧ zv_vP q.1 q.2 := (List.forall_mem_cons.mpr ⟨zq_208, (List.forall_mem_cons.mpr ⟨zq_209, (List.forall_mem_cons.mpr ⟨zq_210, (List.forall_mem_cons.mpr ⟨zq_211, (List.forall_mem_cons.mpr ⟨zq_212, (List.forall_mem_cons.mpr ⟨zq_213, (List.forall_mem_cons.mpr ⟨zq_214, (List.forall_mem_cons.mpr ⟨zq_215, (List.forall_mem_cons.mpr ⟨zq_216, (List.forall_mem_cons.mpr ⟨zq_217, (List.forall_mem_cons.mpr ⟨zq_218, (List.forall_mem_cons.mpr ⟨zq_219, (List.forall_mem_cons.mpr ⟨zq_220, (List.forall_mem_cons.mpr ⟨zq_221, (List.forall_mem_cons.mpr ⟨zq_222, (List.forall_mem_cons.mpr ⟨zq_223, (fun _ h => absurd h List.not_mem_nil)⟩)⟩)⟩)⟩)⟩)⟩)⟩)⟩)⟩)⟩)⟩)⟩)⟩)⟩)⟩)⟩)
theorem zu_14 : ∀ q ∈ zp_c14, zv_vM q.2 ∧ zv_vP q.1 q.2 := (List.forall_mem_cons.mpr ⟨zq_224, (List.forall_mem_cons.mpr ⟨zq_225, (List.forall_mem_cons.mpr ⟨zq_226, (List.forall_mem_cons.mpr ⟨zq_227, (List.forall_mem_cons.mpr ⟨zq_228, (List.forall_mem_cons.mpr ⟨zq_229, (List.forall_mem_cons.mpr ⟨zq_230, (List.forall_mem_cons.mpr ⟨zq_231, (List.forall_mem_cons.mpr ⟨zq_232, (List.forall_mem_cons.mpr ⟨zq_233, (List.forall_mem_cons.mpr ⟨zq_234, (List.forall_mem_cons.mpr ⟨zq_235, (List.forall_mem_cons.mpr ⟨zq_236, (List.forall_mem_cons.mpr ⟨zq_237, (List.forall_mem_cons.mpr ⟨zq_238, (List.forall_mem_cons.mpr ⟨zq_239, (fun _ h => absurd h List.not_mem_nil)⟩)⟩)⟩)⟩)⟩)⟩)⟩)⟩)⟩)⟩)⟩)⟩)⟩)⟩)⟩)⟩)
theorem zu_15 : ∀ q ∈ zp_c15, zv_vM q.2 ∧ zv_vP q.1 q.2 := (List.forall_mem_cons.mpr ⟨zq_240, (List.forall_mem_cons.mpr ⟨zq_241, (List.forall_mem_cons.mpr ⟨zq_242, (List.forall_mem_cons.mpr ⟨zq_243, (List.forall_mem_cons.mpr ⟨zq_244, (List.forall_mem_cons.mpr ⟨zq_245, (List.forall_mem_cons.mpr ⟨zq_246, (List.forall_mem_cons.mpr ⟨zq_247, (List.forall_mem_cons.mpr ⟨zq_248, (List.forall_mem_cons.mpr ⟨zq_249, (List.forall_mem_cons.mpr ⟨zq_250, (List.forall_mem_cons.mpr ⟨zq_251, (List.forall_mem_cons.mpr ⟨zq_252, (List.forall_mem_cons.mpr ⟨zq_253, (List.forall_mem_cons.mpr ⟨zq_254, (List.forall_mem_cons.mpr ⟨zq_255, (fun _ h => absurd h List.not_mem_nil)⟩)⟩)⟩)⟩)⟩)⟩)⟩)⟩)⟩)⟩)⟩)⟩)⟩)⟩)⟩)⟩)
theorem zu_16 : ∀ q ∈ zp_c16, zv_vM q.2 ∧ zv_vP q.1 q.2 := (List.forall_mem_cons.mpr ⟨zq_256, (List.forall_mem_cons.mpr ⟨zq_257, (List.forall_mem_cons.mpr ⟨zq_258, (List.forall_mem_cons.mpr ⟨zq_259, (List.forall_mem_cons.mpr ⟨zq_260, (List.forall_mem_cons.mpr ⟨zq_261, (List.forall_mem_cons.mpr ⟨zq_262, (List.forall_mem_cons.mpr ⟨zq_263, (List.forall_mem_cons.mpr ⟨zq_264, (List.forall_mem_cons.mpr ⟨zq_265, (List.forall_mem_cons.mpr ⟨zq_266, (List.forall_mem_cons.mpr ⟨zq_267, (List.forall_mem_cons.mpr ⟨zq_268, (List.forall_mem_cons.mpr ⟨zq_269, (List.forall_mem_cons.mpr ⟨zq_270, (List.forall_mem_cons.mpr ⟨zq_271, (fun _ h => absurd h List.not_mem_nil)⟩)⟩)⟩)⟩)⟩)⟩)⟩)⟩)⟩)⟩)⟩)⟩)⟩)⟩)⟩)⟩)
theorem zu_17 : ∀ q ∈ zp_c17, zv_vM q.2 ∧ zv_vP q.1 q.2 := (List.forall_mem_cons.mpr ⟨zq_272, (List.forall_mem_cons.mpr ⟨zq_273, (List.forall_mem_cons.mpr ⟨zq_274, (List.forall_mem_cons.mpr ⟨zq_275, (List.forall_mem_cons.mpr ⟨zq_276, (List.forall_mem_cons.mpr ⟨zq_277, (List.forall_mem_cons.mpr ⟨zq_278, (List.forall_mem_cons.mpr ⟨zq_279, (List.forall_mem_cons.mpr ⟨zq_280, (List.forall_mem_cons.mpr ⟨zq_281, (List.forall_mem_cons.mpr ⟨zq_282, (List.forall_mem_cons.mpr ⟨zq_283, (List.forall_mem_cons.mpr ⟨zq_284, (List.forall_mem_cons.mpr ⟨zq_285, (List.forall_mem_cons.mpr ⟨zq_286, (List.forall_mem_cons.mpr ⟨zq_287, (fun _ h => absurd h List.not_mem_nil)⟩)⟩)⟩)⟩)⟩)⟩)⟩)⟩)⟩)⟩)⟩)⟩)⟩)⟩)⟩)⟩)
theorem zu_18 : ∀ q ∈ zp_c18, zv_vM q.2 ∧ zv_vP q.1 q.2 := (List.forall_mem_cons.mpr ⟨zq_288, (List.forall_mem_cons.mpr ⟨zq_289, (List.forall_mem_cons.mpr ⟨zq_290, (List.forall_mem_cons.mpr ⟨zq_291, (List.forall_mem_cons.mpr ⟨zq_292, (List.forall_mem_cons.mpr ⟨zq_293, (List.forall_mem_cons.mpr ⟨zq_294, (List.forall_mem_cons.mpr ⟨zq_295, (List.forall_mem_cons.mpr ⟨zq_296, (List.forall_mem_cons.mpr ⟨zq_297, (List.forall_mem_cons.mpr ⟨zq_298, (List.forall_mem_cons.mpr ⟨zq_299, (List.forall_mem_cons.mpr ⟨zq_300, (List.forall_mem_cons.mpr ⟨zq_301, (List.forall_mem_cons.mpr ⟨zq_302, (List.forall_mem_cons.mpr ⟨zq_303, (fun _ h => absurd h List.not_mem_nil)⟩)⟩)⟩)⟩)⟩)⟩)⟩)⟩)⟩)⟩)⟩)⟩)⟩)⟩)⟩)⟩)
theorem zu_19 : ∀ q ∈ zp_c19, zv_vM q.2 ∧ zv_vP q.1 q.2 := (List.forall_mem_cons.mpr ⟨zq_304, (List.forall_mem_cons.mpr ⟨zq_305, (List.forall_mem_cons.mpr ⟨zq_306, (List.forall_mem_cons.mpr ⟨zq_307, (List.forall_mem_cons.mpr ⟨zq_308, (List.forall_mem_cons.mpr ⟨zq_309, (List.forall_mem_cons.mpr ⟨zq_310, (List.forall_mem_cons.mpr ⟨zq_311, (List.forall_mem_cons.mpr ⟨zq_312, (List.forall_mem_cons.mpr ⟨zq_313, (List.forall_mem_cons.mpr ⟨zq_314, (List.forall_mem_cons.mpr ⟨zq_315, (List.forall_mem_cons.mpr ⟨zq_316, (List.forall_mem_cons.mpr ⟨zq_317, (fun _ h => absurd h List.not_mem_nil)⟩)⟩)⟩)⟩)⟩)⟩)⟩)⟩)⟩)⟩)⟩)⟩)⟩)⟩)
theorem zv_allP : ∀ id o M, zv_prog id = some (o, M) → zv_vM M ∧ zv_vP o M := by
  intro id o M h
  unfold zv_prog at h
  have hm := List.mem_of_getElem? h
  unfold zp_ch at hm
  split at hm
  · exact zu_0 _ hm
  · exact zu_1 _ hm
  · exact zu_2 _ hm
  · exact zu_3 _ hm
  · exact zu_4 _ hm
  · exact zu_5 _ hm
  · exact zu_6 _ hm
  · exact zu_7 _ hm
  · exact zu_8 _ hm
  · exact zu_9 _ hm
  · exact zu_10 _ hm
  · exact zu_11 _ hm
  · exact zu_12 _ hm
  · exact zu_13 _ hm
  · exact zu_14 _ hm
  · exact zu_15 _ hm
  · exact zu_16 _ hm
  · exact zu_17 _ hm
  · exact zu_18 _ hm
  · exact zu_19 _ hm
  · cases hm
