/-! the instructions on locals and stack alone -/
section ZOP
variable {p : Program} {l : Launch} {e : Env} {R : Room} {s : State} {m : MethodId} {args : Array Value} {below : List Frame} {meth : Method} {c : Code} {H : Heap} {locs : List Loc} {cells slots : Nat} {Q : State → Prop}
variable {cc : ByteArray} {pc : Nat} {ba : Nat} {ak : Nat → Nat}
theorem zv_ad_cases (ba : Nat) (ak : Nat → Nat) (r : Nat) : (r = 0 ∧ va_rf (zv_ad ba ak r) = .null) ∨ ∃ a, va_rf (zv_ad ba ak r) = .ref a := by
  unfold zv_ad
  by_cases h : r = 0
  · exact Or.inl ⟨h, by rw [if_pos h]; rfl⟩
  · exact Or.inr ⟨_, by rw [if_neg h]; rfl⟩
theorem zv_cat1 (ba : Nat) (ak : Nat → Nat) (r : Nat) : (va_rf (zv_ad ba ak r)).category = 1 := by
  rcases zv_ad_cases ba ak r with ⟨-, h⟩ | ⟨a, h⟩ <;> rw [h] <;> rfl
/-- loading a reference -/
theorem zv_aload_n (hx : p.tables.exec = Jvm.exec) (hb : c.code = cc) {k : Fin 4} {r : Nat} {ls : Array Slot} {rest : List Value} (hdg : decode cc pc = .ok (.aload_n k, 1)) (hl : ls[k.val]? = some (.val (va_rf (zv_ad ba ak r))))
    (kk : W p l e R s m args below meth c H locs cells slots Q (F0 m (pc + 1) ls (va_rf (zv_ad ba ak r) :: rest))) : W p l e R s m args below meth c H locs cells slots Q (F0 m pc ls rest) := by
  rcases zv_ad_cases ba ak r with ⟨-, h⟩ | ⟨a, h⟩
  · rw [h] at hl kk
    exact lv_aload_nN hx hb hdg rfl hl kk
  · rw [h] at hl kk
    exact lv_aload_n hx hb hdg rfl hl kk
theorem zv_aload (hx : p.tables.exec = Jvm.exec) (hb : c.code = cc) {k : Nat} {r : Nat} {ls : Array Slot} {rest : List Value} (hdg : decode cc pc = .ok (.aload k, 2)) (hl : ls[k]? = some (.val (va_rf (zv_ad ba ak r))))
    (kk : W p l e R s m args below meth c H locs cells slots Q (F0 m (pc + 2) ls (va_rf (zv_ad ba ak r) :: rest))) : W p l e R s m args below meth c H locs cells slots Q (F0 m pc ls rest) := by
  rcases zv_ad_cases ba ak r with ⟨-, h⟩ | ⟨a, h⟩
  · rw [h] at hl kk
    exact lv_aloadN hx hb hdg hl kk
  · rw [h] at hl kk
    exact lv_aload hx hb hdg hl kk
theorem zv_astore_n (hx : p.tables.exec = Jvm.exec) (hb : c.code = cc) {k : Fin 4} {nL r : Nat} {lv : List (Nat × Value)} {ls : Array Slot} {rest : List Value} (hdg : decode cc pc = .ok (.astore_n k, 1)) (h : lv_has ls nL lv) (hn : k.val < nL)
    (kk : ∀ ls' : Array Slot, lv_has ls' nL ((k.val, va_rf (zv_ad ba ak r)) :: lv.filter (fun q => !(q.1 == k.val) && !(q.1 + 1 == k.val && q.2.category == 2))) → W p l e R s m args below meth c H locs cells slots Q (F0 m (pc + 1) ls' rest)) : W p l e R s m args below meth c H locs cells slots Q (F0 m pc ls (va_rf (zv_ad ba ak r) :: rest)) := by
  rcases zv_ad_cases ba ak r with ⟨-, q⟩ | ⟨a, q⟩
  · rw [q] at kk ⊢
    exact lv_astore_nN hx hb hdg rfl h hn rfl kk
  · rw [q] at kk ⊢
    exact lv_astore_n hx hb hdg rfl h hn rfl kk
theorem zv_astore (hx : p.tables.exec = Jvm.exec) (hb : c.code = cc) {k : Nat} {nL r : Nat} {lv : List (Nat × Value)} {ls : Array Slot} {rest : List Value} (hdg : decode cc pc = .ok (.astore k, 2)) (h : lv_has ls nL lv) (hn : k < nL)
    (kk : ∀ ls' : Array Slot, lv_has ls' nL ((k, va_rf (zv_ad ba ak r)) :: lv.filter (fun q => !(q.1 == k) && !(q.1 + 1 == k && q.2.category == 2))) → W p l e R s m args below meth c H locs cells slots Q (F0 m (pc + 2) ls' rest)) : W p l e R s m args below meth c H locs cells slots Q (F0 m pc ls (va_rf (zv_ad ba ak r) :: rest)) := by
  rcases zv_ad_cases ba ak r with ⟨-, q⟩ | ⟨a, q⟩
  · rw [q] at kk ⊢
    exact lv_astoreN hx hb hdg h hn rfl kk
  · rw [q] at kk ⊢
    exact lv_astore hx hb hdg h hn rfl kk
/-- what lies behind: any locals that stand for the new ones -/
def zv_WK (p : Program) (l : Launch) (e : Env) (R : Room) (s : State) (m : MethodId) (args : Array Value) (below : List Frame) (meth : Method) (c : Code) (H : Heap) (locs : List Loc) (cells slots : Nat) (Q : State → Prop) (ba : Nat) (ak : Nat → Nat) (pc : Nat) (ls : zv_Ls) (st : List zv_V) : Prop :=
  ∀ lsR, zv_RL ba ak lsR ls → (∀ v ∈ st, zv_vg v) → W p l e R s m args below meth c H locs cells slots Q (F0 m pc lsR (st.map (zv_cv ba ak)))
theorem zv_fa {P : zv_V → Prop} {a : zv_V} {t : List zv_V} (h : ∀ v ∈ a :: t, P v) : P a ∧ ∀ v ∈ t, P v := ⟨h a List.mem_cons_self, fun v hv => h v (List.mem_cons_of_mem _ hv)⟩
theorem zv_fc {P : zv_V → Prop} {a : zv_V} {t : List zv_V} (h1 : P a) (h : ∀ v ∈ t, P v) : ∀ v ∈ a :: t, P v := fun v hv => by
  rcases List.mem_cons.mp hv with q | q
  · rw [q]; exact h1
  · exact h v q
set_option maxHeartbeats 4000000 in
theorem zv_op_ok (hx : p.tables.exec = Jvm.exec) (hb : c.code = cc) {i : Instr} {ls ls' : zv_Ls} {st st' : List zv_V} (hop : zv_op i ls st = some (ls', st')) (hdg : decode cc pc = .ok (i, zv_len i))
    (kk : zv_WK p l e R s m args below meth c H locs cells slots Q ba ak (pc + zv_len i) ls' st') : zv_WK p l e R s m args below meth c H locs cells slots Q ba ak pc ls st := by
  intro lsR hL hg
  unfold zv_op at hop
  split at hop
  all_goals try (cases hop; done)
  · split at hop <;> cases hop
    rename_i n _ _
    exact lv_iconst hx hb hdg rfl (kk lsR hL (zv_fc (by unfold zv_vg zv_rg; dsimp only; omega) hg))
  · split at hop <;> cases hop
    rename_i n _ q
    exact lv_bipush hx hb hdg (zv_byte q.1 q.2) (kk lsR hL (zv_fc (by unfold zv_vg zv_rg; dsimp only; omega) hg))
  · split at hop <;> cases hop
    rename_i n _ q
    exact lv_sipush hx hb hdg (zv_short q.1 q.2) (kk lsR hL (zv_fc (by unfold zv_vg zv_rg; dsimp only; omega) hg))
  · cases hop
    exact lv_lconst hx hb hdg rfl (kk lsR hL (zv_fc trivial hg))
  · cases hop
    exact lv_null hx hb hdg (kk lsR hL (zv_fc trivial hg))
  · split at hop <;> cases hop
    rename_i q
    exact lv_iload_n hx hb hdg rfl (hL.2.2 _ _ q).1 (kk lsR hL (zv_fc (hL.2.2 _ _ q).2 hg))
  · split at hop <;> cases hop
    rename_i q
    exact lv_iload hx hb hdg (hL.2.2 _ _ q).1 (kk lsR hL (zv_fc (hL.2.2 _ _ q).2 hg))
  · split at hop <;> cases hop
    rename_i q
    exact lv_lload_n hx hb hdg rfl (hL.2.2 _ _ q).1 (kk lsR hL (zv_fc (hL.2.2 _ _ q).2 hg))
  · split at hop <;> cases hop
    rename_i q
    exact lv_lload hx hb hdg (hL.2.2 _ _ q).1 (kk lsR hL (zv_fc (hL.2.2 _ _ q).2 hg))
  · split at hop <;> cases hop
    rename_i q
    exact zv_aload_n hx hb hdg (hL.2.2 _ _ q).1 (kk lsR hL (zv_fc (hL.2.2 _ _ q).2 hg))
  · split at hop <;> cases hop
    rename_i q
    exact zv_aload hx hb hdg (hL.2.2 _ _ q).1 (kk lsR hL (zv_fc (hL.2.2 _ _ q).2 hg))
  · split at hop <;> cases hop
    rename_i q
    exact lv_istore_n hx hb hdg rfl hL.has q rfl (fun ls' h' => kk ls' (hL.s1 (zv_fa hg).1 h') (zv_fa hg).2)
  · split at hop <;> cases hop
    rename_i q
    exact lv_istore hx hb hdg hL.has q rfl (fun ls' h' => kk ls' (hL.s1 (zv_fa hg).1 h') (zv_fa hg).2)
  · split at hop <;> cases hop
    rename_i q
    exact lv_lstore_n hx hb hdg rfl hL.has q rfl (fun ls' h' => kk ls' (hL.s2 h') (zv_fa hg).2)
  · split at hop <;> cases hop
    rename_i q
    exact lv_lstore hx hb hdg hL.has q rfl (fun ls' h' => kk ls' (hL.s2 h') (zv_fa hg).2)
  · split at hop <;> cases hop
    rename_i q
    exact zv_astore_n hx hb hdg hL.has q (fun ls' h' => kk ls' (hL.s1 (zv_fa hg).1 h') (zv_fa hg).2)
  · split at hop <;> cases hop
    rename_i q
    exact zv_astore hx hb hdg hL.has q (fun ls' h' => kk ls' (hL.s1 (zv_fa hg).1 h') (zv_fa hg).2)
  · split at hop
    · rename_i q
      split at hop <;> cases hop
      rename_i q2
      have hm := zv_lst_of ba ak ls 0 _ _ q
      rw [Nat.zero_add] at hm
      obtain ⟨k, hk⟩ := List.getElem?_of_mem hm
      exact lv_iinc hx hb hdg hL.has (k := k) hk (by rw [zv_of_w, Int32.ofInt_add]) q2 rfl (fun ls' h' => kk ls' (hL.s1 (v := zv_i _) (zv_rg_w _) h') hg)
    · cases hop
  · cases hop
    exact lv_iadd hx hb hdg (by rw [zv_add]; exact kk lsR hL (zv_fc (zv_rg_w _) (zv_fa (zv_fa hg).2).2))
  · cases hop
    exact lv_isub hx hb hdg (by rw [zv_sub]; exact kk lsR hL (zv_fc (zv_rg_w _) (zv_fa (zv_fa hg).2).2))
  · cases hop
    exact lv_imul hx hb hdg (by rw [zv_mul]; exact kk lsR hL (zv_fc (zv_rg_w _) (zv_fa (zv_fa hg).2).2))
  · cases hop
    exact lv_ineg hx hb hdg (by rw [zv_neg]; exact kk lsR hL (zv_fc (zv_rg_w _) (zv_fa hg).2))
  · split at hop <;> cases hop
    rename_i q
    have hy := (zv_fa hg).1
    have hx1 := (zv_fa (zv_fa hg).2).1
    exact lv_idiv hx hb hdg (fun z => q ((zv_eq0 hy).mp z)) (by rw [zv_div hx1 hy]; exact kk lsR hL (zv_fc (zv_rg_w _) (zv_fa (zv_fa hg).2).2))
  · split at hop <;> cases hop
    rename_i q
    have hy := (zv_fa hg).1
    have hx1 := (zv_fa (zv_fa hg).2).1
    exact lv_irem hx hb hdg (fun z => q ((zv_eq0 hy).mp z)) (by rw [zv_rem hx1 hy]; exact kk lsR hL (zv_fc (zv_rg_tmod hx1) (zv_fa (zv_fa hg).2).2))
  · cases hop
    exact lv_iand hx hb hdg (by have := kk lsR hL (zv_fc (zv_rg_toInt _) (zv_fa (zv_fa hg).2).2); simpa only [List.map_cons, zv_cv, zv_and, zv_ofto, zv_len] using this)
  · cases hop
    exact lv_ior hx hb hdg (by have := kk lsR hL (zv_fc (zv_rg_toInt _) (zv_fa (zv_fa hg).2).2); simpa only [List.map_cons, zv_cv, zv_or, zv_ofto, zv_len] using this)
  · cases hop
    exact lv_ishl hx hb hdg (by have := kk lsR hL (zv_fc (zv_rg_toInt _) (zv_fa (zv_fa hg).2).2); simpa only [List.map_cons, zv_cv, zv_shl, zv_ofto, zv_len] using this)
  · cases hop
    exact lv_ishr hx hb hdg (by have := kk lsR hL (zv_fc (zv_rg_toInt _) (zv_fa (zv_fa hg).2).2); simpa only [List.map_cons, zv_cv, zv_shr, zv_ofto, zv_len] using this)
  · cases hop
    exact lv_iushr hx hb hdg (zv_ofto _).symm (kk lsR hL (zv_fc (zv_rg_toInt _) (zv_fa (zv_fa hg).2).2))
  · cases hop
    exact lv_i2b hx hb hdg (zv_ofto _).symm (kk lsR hL (zv_fc (zv_rg_toInt _) (zv_fa hg).2))
  · cases hop
    exact lv_i2c hx hb hdg (zv_ofto _).symm (kk lsR hL (zv_fc (zv_rg_toInt _) (zv_fa hg).2))
  · cases hop
    exact lv_i2l hx hb hdg rfl (kk lsR hL (zv_fc trivial (zv_fa hg).2))
  · cases hop
    exact lv_l2i hx hb hdg (zv_ofto _).symm (kk lsR hL (zv_fc (zv_rg_toInt _) (zv_fa hg).2))
  · cases hop
    exact lv_ladd hx hb hdg (kk lsR hL (zv_fc trivial (zv_fa (zv_fa hg).2).2))
  · cases hop
    exact lv_lsub hx hb hdg (kk lsR hL (zv_fc trivial (zv_fa (zv_fa hg).2).2))
  · cases hop
    exact lv_lmul hx hb hdg (kk lsR hL (zv_fc trivial (zv_fa (zv_fa hg).2).2))
  · cases hop
    exact lv_land hx hb hdg (kk lsR hL (zv_fc trivial (zv_fa (zv_fa hg).2).2))
  · cases hop
    exact lv_lor hx hb hdg (kk lsR hL (zv_fc trivial (zv_fa (zv_fa hg).2).2))
  · cases hop
    exact lv_lxor hx hb hdg (kk lsR hL (zv_fc trivial (zv_fa (zv_fa hg).2).2))
  · cases hop
    exact lv_lshl hx hb hdg rfl (kk lsR hL (zv_fc trivial (zv_fa (zv_fa hg).2).2))
  · cases hop
    exact lv_lushr hx hb hdg rfl (kk lsR hL (zv_fc trivial (zv_fa (zv_fa hg).2).2))
  · cases hop
    exact W.lcmp hx hb hdg (by rw [zv_lcmp_eq]; exact kk lsR hL (zv_fc (zv_rg_lcmp _ _) (zv_fa (zv_fa hg).2).2))
  · cases hop
    exact lv_dup hx hb hdg rfl (kk lsR hL (zv_fc (zv_fa hg).1 hg))
  · cases hop
    refine lv_dup hx hb hdg ?_ (kk lsR hL (zv_fc (zv_fa hg).1 hg))
    exact zv_cat1 ba ak _
  · cases hop
    refine lv_dup2_11 hx hb hdg rfl ?_ (kk lsR hL (zv_fc (zv_fa hg).1 (zv_fc (zv_fa (zv_fa hg).2).1 hg)))
    exact zv_cat1 ba ak _
  · cases hop
    exact lv_pop hx hb hdg rfl (kk lsR hL (zv_fa hg).2)
  · cases hop
    refine lv_pop hx hb hdg ?_ (kk lsR hL (zv_fa hg).2)
    exact zv_cat1 ba ak _
end ZOP
