/-! 05.sem -/
section
/-! What a method answers: calls by depth; a limit over the stretches between heads. -/
def zv_lin (f : zv_G → zv_O) : Prop := ∀ go r, f go = some r → (∀ go', f go' = some r) ∨ ∃ pc ls st h, go pc ls st h = some r ∧ ∀ go', go' pc ls st h = some r → f go' = some r
theorem zv_lin_go (pc : Nat) (ls : zv_Ls) (st : List zv_V) (h : zv_H) : zv_lin (fun go => go pc ls st h) := fun _ _ hr => Or.inr ⟨pc, ls, st, h, hr, fun _ hg => hg⟩
theorem zv_lin_c (o : zv_O) : zv_lin (fun _ => o) := fun _ _ hr => Or.inl fun _ => hr
theorem zv_lin_if {p : Prop} [Decidable p] {f g : zv_G → zv_O} (hf : zv_lin f) (hg : zv_lin g) : zv_lin (fun go => if p then f go else g go) := by
  intro go r hr
  by_cases h : p
  · simp only [if_pos h] at hr ⊢
    exact hf go r hr
  · simp only [if_neg h] at hr ⊢
    exact hg go r hr
theorem zv_lin_b {α : Type} (o : Option α) {f : α → zv_G → zv_O} (hf : ∀ v, zv_lin (f v)) : zv_lin (fun go => o.bind fun v => f v go) := by
  intro go r hr
  cases o with
  | none => exact absurd hr (by simp)
  | some v => exact hf v go r hr
theorem zv_lin_jp (pc : Nat) (off : Int) (ls : zv_Ls) (st : List zv_V) (h : zv_H) : zv_lin (fun go => zv_jp go pc off ls st h) := zv_lin_if (zv_lin_c none) (zv_lin_go _ _ _ _)
theorem zv_lin_bc (pc : Nat) (off : Int) (ls : zv_Ls) (st : List zv_V) (h : zv_H) (P : Prop) [Decidable P] : zv_lin (fun go => zv_bc go pc off ls st h P) := zv_lin_if (zv_lin_c none) (zv_lin_if (zv_lin_go _ _ _ _) (zv_lin_go _ _ _ _))
theorem zv_lin_bn (pc : Nat) (off : Int) (ls : zv_Ls) (st : List zv_V) (h : zv_H) (P : Prop) [Decidable P] : zv_lin (fun go => zv_bn go pc off ls st h P) := zv_lin_if (zv_lin_c none) (zv_lin_if (zv_lin_go _ _ _ _) (zv_lin_go _ _ _ _))
theorem zv_lin_tsw (pc : Nat) (x dflt : Int) (ls : zv_Ls) (st : List zv_V) (h : zv_H) : ∀ (os : List Int) (lo : Int), zv_lin (fun go => zv_tsw go pc x dflt ls st h lo os)
  | [], _ => zv_lin_jp _ _ _ _ _
  | _ :: t, lo => zv_lin_if (zv_lin_jp _ _ _ _ _) (zv_lin_tsw pc x dflt ls st h t (lo + 1))
theorem zv_lin_lsw (pc : Nat) (x dflt : Int) (ls : zv_Ls) (st : List zv_V) (h : zv_H) : ∀ (os : List (Int × Int)), zv_lin (fun go => zv_lsw go pc x dflt ls st h os)
  | [] => zv_lin_jp _ _ _ _ _
  | _ :: t => zv_lin_if (zv_lin_jp _ _ _ _ _) (zv_lin_lsw pc x dflt ls st h t)
theorem zv_lin_call (c : zv_C) (pc : Nat) (ls : zv_Ls) (st : List zv_V) (h : zv_H) (e : Nat × (Nat × (Nat × Nat))) : zv_lin (fun go => zv_call c go pc ls st h e) := by
  unfold zv_call
  cases zv_tk e.2.2.1 [] st with
  | none => exact zv_lin_c none
  | some q =>
    obtain ⟨as, rest⟩ := q
    refine zv_lin_if (zv_lin_c none) ?_
    match e.2.2.2 with
    | 0 => exact zv_lin_b _ fun v => zv_lin_go _ _ _ _
    | 1 => exact zv_lin_b _ fun v => zv_lin_go _ _ _ _
    | 2 => exact zv_lin_b _ fun v => zv_lin_go _ _ _ _
    | _ + 3 => exact zv_lin_b _ fun v => zv_lin_go _ _ _ _
theorem zv_lin_gf (pc : Nat) (ls : zv_Ls) (st : List zv_V) (h : zv_H) (r : Nat) (o : Option (Nat × (Nat × Bool))) : zv_lin (fun go => zv_gf go pc ls st h r o) := by
  unfold zv_gf
  cases o with
  | none => exact zv_lin_c none
  | some f =>
    dsimp only
    generalize zv_ft f.1 f.2.1 = t
    match t with
    | 0 => exact zv_lin_b _ fun v => zv_lin_go _ _ _ _
    | 1 => exact zv_lin_b _ fun v => zv_lin_go _ _ _ _
    | 2 => exact zv_lin_b _ fun v => zv_lin_go _ _ _ _
    | 3 => exact zv_lin_b _ fun v => zv_lin_go _ _ _ _
    | 4 => exact zv_lin_b _ fun v => zv_lin_go _ _ _ _
    | 5 => exact zv_lin_b _ fun v => zv_lin_go _ _ _ _
    | _ + 6 => exact zv_lin_c none
theorem zv_lin_pf (pc : Nat) (ls : zv_Ls) (st : List zv_V) (h : zv_H) (r : Nat) (w : zv_V) (o : Option (Nat × (Nat × Bool))) : zv_lin (fun go => zv_pf go pc ls st h r w o) := by
  intro go r hr
  unfold zv_pf at hr ⊢
  cases o with
  | none => exact absurd hr (by simp)
  | some f =>
    dsimp only at hr ⊢
    generalize zv_ft f.1 f.2.1 = t at hr ⊢
    split at hr
    · exact zv_lin_b _ (fun v => zv_lin_go _ _ _ _) go r hr
    · exact zv_lin_b _ (fun v => zv_lin_go _ _ _ _) go r hr
    · exact zv_lin_b _ (fun v => zv_lin_go _ _ _ _) go r hr
    · exact zv_lin_b _ (fun v => zv_lin_go _ _ _ _) go r hr
    · exact absurd hr (by simp)
theorem zv_lin_gs (pc : Nat) (ls : zv_Ls) (st : List zv_V) (h : zv_H) (o : Option Int) : zv_lin (fun go => zv_gs go pc ls st h o) := by
  unfold zv_gs
  cases o with
  | none => exact zv_lin_c none
  | some f => exact zv_lin_go _ _ _ _
theorem zv_lin_nw (pc : Nat) (ls : zv_Ls) (st : List zv_V) (h : zv_H) (o : Option Nat) : zv_lin (fun go => zv_nw go pc ls st h o) := by
  unfold zv_nw
  cases o with
  | none => exact zv_lin_c none
  | some f => exact zv_lin_b _ fun v => zv_lin_go _ _ _ _
theorem zv_lin_an (pc : Nat) (ls : zv_Ls) (st : List zv_V) (h : zv_H) (x : Int) (o : Option Nat) : zv_lin (fun go => zv_an go pc ls st h x o) := by
  unfold zv_an
  cases o with
  | none => exact zv_lin_c none
  | some f => exact zv_lin_if (zv_lin_b _ fun v => zv_lin_go _ _ _ _) (zv_lin_c none)
theorem zv_lin_ls (pc : Nat) (ls : zv_Ls) (st : List zv_V) (h : zv_H) (o : Option Nat) : zv_lin (fun go => zv_ls go pc ls st h o) := by
  unfold zv_ls
  cases o with
  | none => exact zv_lin_c none
  | some f => exact zv_lin_go _ _ _ _
theorem zv_lin_li (pc : Nat) (ls : zv_Ls) (st : List zv_V) (h : zv_H) (o : Option Nat) : zv_lin (fun go => zv_li go pc ls st h o) := by
  unfold zv_li
  cases o with
  | none => exact zv_lin_c none
  | some f => exact zv_lin_go _ _ _ _
theorem zv_lin_ll (pc : Nat) (ls : zv_Ls) (st : List zv_V) (h : zv_H) (o : Option Int64) : zv_lin (fun go => zv_ll go pc ls st h o) := by
  unfold zv_ll
  cases o with
  | none => exact zv_lin_c none
  | some f => exact zv_lin_go _ _ _ _
theorem zv_lin_iv (c : zv_C) (pc : Nat) (ls : zv_Ls) (st : List zv_V) (h : zv_H) (o : Option (Nat × (Nat × (Nat × Nat)))) : zv_lin (fun go => zv_iv c go pc ls st h o) := by
  unfold zv_iv
  cases o with
  | none => exact zv_lin_c none
  | some f => exact zv_lin_if (zv_lin_call _ _ _ _ _ _) (zv_lin_c none)
theorem zv_lin_cyS (pc : Nat) (ls : zv_Ls) (st : List zv_V) (h : zv_H) : zv_lin (fun go => zv_cyS go pc ls st h) := by
  intro go r hr
  unfold zv_cyS at hr
  split at hr
  · exact zv_lin_if (zv_lin_c none) (zv_lin_b _ fun v => zv_lin_go _ _ _ _) go r hr
  · exact absurd hr (by simp)
theorem zv_lin_mx (pc : Nat) (ls : zv_Ls) (st : List zv_V) (h : zv_H) (b : Bool) : zv_lin (fun go => zv_mx go pc ls st h b) := by
  intro go r hr
  unfold zv_mx at hr
  split at hr
  · exact zv_lin_if (zv_lin_c none) (zv_lin_go _ _ _ _) go r hr
  · exact absurd hr (by simp)
theorem zv_lin_is (c : zv_C) (pc : Nat) (ls : zv_Ls) (st : List zv_V) (h : zv_H) (o : Option (Nat × (Nat × (Nat × Nat)))) : zv_lin (fun go => zv_is c go pc ls st h o) := by
  unfold zv_is
  cases o with
  | none => exact zv_lin_c none
  | some f => exact zv_lin_if (zv_lin_call _ _ _ _ _ _) (zv_lin_if (zv_lin_cyS _ _ _ _) (zv_lin_if (zv_lin_mx _ _ _ _ _) (zv_lin_if (zv_lin_mx _ _ _ _ _) (zv_lin_c none))))
theorem zv_lin_oi (pc : Nat) (ls : zv_Ls) (st : List zv_V) (h : zv_H) : zv_lin (fun go => zv_oi go pc ls st h) := by
  intro go r hr
  unfold zv_oi at hr
  split at hr
  · exact zv_lin_if (zv_lin_c none) (zv_lin_if (zv_lin_c none) (zv_lin_go _ _ _ _)) go r hr
  · exact absurd hr (by simp)
theorem zv_lin_ip (c : zv_C) (pc : Nat) (ls : zv_Ls) (st : List zv_V) (h : zv_H) (o : Option (Nat × (Nat × (Nat × Nat)))) : zv_lin (fun go => zv_ip c go pc ls st h o) := by
  unfold zv_ip
  cases o with
  | none => exact zv_lin_c none
  | some f => exact zv_lin_if (zv_lin_call _ _ _ _ _ _) (zv_lin_if (zv_lin_oi _ _ _ _) (zv_lin_c none))
set_option maxHeartbeats 4000000 in
theorem zv_lin_hp (c : zv_C) (M : zv_M) (pc : Nat) (ls : zv_Ls) (st : List zv_V) (h : zv_H) (i : Instr) : zv_lin (fun go => zv_hp c M go pc ls st h i) := by
  intro go r hr
  unfold zv_hp at hr
  split at hr
  all_goals try exact zv_lin_jp _ _ _ _ _ go r hr
  all_goals try exact zv_lin_bc _ _ _ _ _ _ go r hr
  all_goals try exact zv_lin_bn _ _ _ _ _ _ go r hr
  all_goals try exact zv_lin_if (zv_lin_c none) (zv_lin_bc _ _ _ _ _ _) go r hr
  all_goals try exact zv_lin_if (zv_lin_c none) (zv_lin_bn _ _ _ _ _ _) go r hr
  all_goals try exact zv_lin_if (zv_lin_tsw _ _ _ _ _ _ _ _) (zv_lin_c none) go r hr
  all_goals try exact zv_lin_if (zv_lin_lsw _ _ _ _ _ _ _) (zv_lin_c none) go r hr
  all_goals try exact zv_lin_b _ (fun v => zv_lin_go _ _ _ _) go r hr
  all_goals try exact zv_lin_gf _ _ _ _ _ _ go r hr
  all_goals try exact zv_lin_pf _ _ _ _ _ _ _ go r hr
  all_goals try exact zv_lin_gs _ _ _ _ _ go r hr
  all_goals try exact zv_lin_nw _ _ _ _ _ go r hr
  all_goals try exact zv_lin_an _ _ _ _ _ _ go r hr
  all_goals try exact zv_lin_ls _ _ _ _ _ go r hr
  all_goals try exact zv_lin_li _ _ _ _ _ go r hr
  all_goals try exact zv_lin_ll _ _ _ _ _ go r hr
  all_goals try exact zv_lin_iv _ _ _ _ _ _ go r hr
  all_goals try exact zv_lin_is _ _ _ _ _ _ go r hr
  all_goals try exact zv_lin_ip _ _ _ _ _ _ go r hr
  all_goals try exact zv_lin_c _ go r hr
  all_goals exact absurd hr (by simp)
theorem zv_lin_stp (c : zv_C) (M : zv_M) (pc : Nat) (ls : zv_Ls) (st : List zv_V) (h : zv_H) : zv_lin (fun go => zv_stp c M go pc ls st h) := by
  unfold zv_stp
  cases zv_lk M.2.1 pc with
  | none => exact zv_lin_c none
  | some i =>
    dsimp only
    cases zv_op i ls st with
    | none => exact zv_lin_hp _ _ _ _ _ _ _
    | some q => exact zv_lin_go _ _ _ _
theorem zv_lin_seg (c : zv_C) (M : zv_M) : ∀ (n pc : Nat) (ls : zv_Ls) (st : List zv_V) (h : zv_H), zv_lin (fun go => zv_seg c M go n pc ls st h)
  | 0, pc, ls, st, h => zv_lin_go _ _ _ _
  | n + 1, pc, ls, st, h => by
    intro kt r hr
    have hr0 : zv_stp c M (fun pc ls st h => match zv_lk M.2.2.1 pc with
      | some b => kt pc (zv_msk b ls) st h
      | none => zv_seg c M kt n pc ls st h) pc ls st h = some r := hr
    rcases zv_lin_stp c M pc ls st h _ r hr0 with hA | ⟨pc1, ls1, st1, h1, e1, e2⟩
    · exact Or.inl fun go' => hA _
    · cases hb : zv_lk M.2.2.1 pc1 with
      | some b =>
        simp only [hb] at e1
        refine Or.inr ⟨pc1, zv_msk b ls1, st1, h1, e1, fun go' hg => ?_⟩
        refine e2 _ ?_
        simp only [hb]
        exact hg
      | none =>
        simp only [hb] at e1
        rcases zv_lin_seg c M n pc1 ls1 st1 h1 kt r e1 with hA | ⟨pc2, ls2, st2, h2, f1, f2⟩
        · refine Or.inl fun go' => e2 _ ?_
          simp only [hb]
          exact hA go'
        · refine Or.inr ⟨pc2, ls2, st2, h2, f1, fun go' hg => e2 _ ?_⟩
          simp only [hb]
          exact f2 go' hg
/-- so many stretches -/
def zv_it (c : zv_C) (M : zv_M) : Nat → zv_G
  | 0, _, _, _, _ => none
  | n + 1, pc, ls, st, h => zv_seg c M (zv_it c M n) 400 pc ls st h
theorem zv_it_mono (c : zv_C) (M : zv_M) : ∀ (n pc : Nat) (ls : zv_Ls) (st : List zv_V) (h : zv_H) r, zv_it c M n pc ls st h = some r → zv_it c M (n + 1) pc ls st h = some r
  | 0, _, _, _, _, _, hr => by cases hr
  | n + 1, pc, ls, st, h, r, hr => by
    rcases zv_lin_seg c M 400 pc ls st h (zv_it c M n) r hr with hA | ⟨pc2, ls2, st2, h2, f1, f2⟩
    · exact hA _
    · exact f2 _ (zv_it_mono c M n _ _ _ _ r f1)
theorem zv_it_le (c : zv_C) (M : zv_M) {n m pc : Nat} {ls : zv_Ls} {st : List zv_V} {h : zv_H} {r} (hr : zv_it c M n pc ls st h = some r) (hm : n ≤ m) : zv_it c M m pc ls st h = some r := by
  obtain ⟨k, rfl⟩ := Nat.exists_eq_add_of_le hm
  clear hm
  induction k with
  | zero => exact hr
  | succ k ih => exact zv_it_mono c M (n + k) pc ls st h r ih
noncomputable def zv_lim (c : zv_C) (M : zv_M) : zv_G := fun pc ls st h => @dite _ (∃ n, (zv_it c M n pc ls st h).isSome = true) (Classical.propDecidable _) (fun q => zv_it c M (Classical.choose q) pc ls st h) (fun _ => none)
theorem zv_lim_iff (c : zv_C) (M : zv_M) (pc : Nat) (ls : zv_Ls) (st : List zv_V) (h : zv_H) (r) : zv_lim c M pc ls st h = some r ↔ ∃ n, zv_it c M n pc ls st h = some r := by
  constructor
  · intro hr
    unfold zv_lim at hr
    split at hr
    · exact ⟨_, hr⟩
    · cases hr
  · rintro ⟨n, hn⟩
    have q : ∃ n, (zv_it c M n pc ls st h).isSome = true := ⟨n, by rw [hn]; rfl⟩
    unfold zv_lim
    rw [dif_pos q]
    obtain ⟨v, hv⟩ := Option.isSome_iff_exists.mp (Classical.choose_spec q)
    rw [hv]
    have h1 := zv_it_le c M hv (Nat.le_max_left (Classical.choose q) n)
    have h2 := zv_it_le c M hn (Nat.le_max_right (Classical.choose q) n)
    exact h1.symm.trans h2
theorem zv_lim_eq (c : zv_C) (M : zv_M) (pc : Nat) (ls : zv_Ls) (st : List zv_V) (h : zv_H) : zv_lim c M pc ls st h = zv_seg c M (zv_lim c M) 400 pc ls st h := by
  apply Option.ext
  intro r
  rw [zv_lim_iff]
  constructor
  · rintro ⟨n, hn⟩
    cases n with
    | zero => cases hn
    | succ n =>
      rcases zv_lin_seg c M 400 pc ls st h (zv_it c M n) r hn with hA | ⟨pc2, ls2, st2, h2, f1, f2⟩
      · exact hA _
      · exact f2 _ ((zv_lim_iff c M _ _ _ _ _).mpr ⟨n, f1⟩)
  · intro hr
    rcases zv_lin_seg c M 400 pc ls st h (zv_lim c M) r hr with hA | ⟨pc2, ls2, st2, h2, f1, f2⟩
    · exact ⟨1, hA _⟩
    · obtain ⟨n, hn⟩ := (zv_lim_iff c M _ _ _ _ _).mp f1
      exact ⟨n + 1, f2 _ hn⟩
end
/-! 06.calls -/
section
/-! Calls by depth: the JDK's own six members, and the program's methods (zv_prog stands in 07). -/
def zv_jd (id : Nat) (as : List zv_V) (h : zv_H) : zv_O := match id, as with
  | 906, [Sum.inl x, Sum.inl y] => if 0 ≤ x ∧ x < y then some (none, h) else none
  | _, _ => none
def zv_en : List zv_V → Nat → zv_Ls
  | [], n => List.replicate n none
  | Sum.inr (Sum.inl x) :: t, n + 2 => some (zv_j x) :: none :: zv_en t n
  | Sum.inr (Sum.inl _) :: _, _ => []
  | Sum.inl x :: t, n + 1 => some (zv_i x) :: zv_en t n
  | Sum.inr (Sum.inr x) :: t, n + 1 => some (zv_r x) :: zv_en t n
  | _ :: _, 0 => []
/-- the receiver is an object of that class -/
def zv_ob (h : zv_H) (r ci : Nat) : Prop := r ≤ zv_n h ∧ zv_lay r = (1, ci)
def zv_rc (h : zv_H) (as : List zv_V) (o : Option Nat) : Prop := match o, as with
  | none, _ => True
  | some ci, Sum.inr (Sum.inr r) :: _ => if ci = 10 then 1000000 ≤ r ∧ r < 1000024 else zv_ob h r ci
  | some _, _ => False
noncomputable def zv_sem (pg : Nat → Option (Option Nat × zv_M)) (c : zv_C) (id : Nat) (as : List zv_V) (h : zv_H) : zv_O :=
  if 900 ≤ id then zv_jd id as h else
  match pg id with
  | none => none
  | some m => @ite _ (zv_rc h as m.1 ∧ zv_wd as ≤ m.2.1.2.2.2.1) (Classical.propDecidable _) (zv_lim c m.2 0 (zv_en as m.2.1.2.2.2.1) [] h) none
def zv_pjV (o : zv_O) : Option zv_H := match o with
  | some (none, h) => some h
  | _ => none
def zv_pjI (o : zv_O) : Option (Int × zv_H) := match o with
  | some (some (Sum.inl x), h) => some (x, h)
  | _ => none
def zv_pjJ (o : zv_O) : Option (Int64 × zv_H) := match o with
  | some (some (Sum.inr (Sum.inl x)), h) => some (x, h)
  | _ => none
def zv_pjR (o : zv_O) : Option (Nat × zv_H) := match o with
  | some (some (Sum.inr (Sum.inr x)), h) => some (x, h)
  | _ => none
noncomputable def zv_cs (pg : Nat → Option (Option Nat × zv_M)) : Nat → zv_C
  | 0 => (fun _ _ _ => none, (fun _ _ _ => none, (fun _ _ _ => none, fun _ _ _ => none)))
  | d + 1 => (fun id as h => zv_pjV (zv_sem pg (zv_cs pg d) id as h), (fun id as h => zv_pjI (zv_sem pg (zv_cs pg d) id as h), (fun id as h => zv_pjJ (zv_sem pg (zv_cs pg d) id as h), fun id as h => zv_pjR (zv_sem pg (zv_cs pg d) id as h))))
theorem zv_sem_of {pg : Nat → Option (Option Nat × zv_M)} {c : zv_C} {id : Nat} {as : List zv_V} {h : zv_H} {m : Option Nat × zv_M} {o : zv_O} (hid : Nat.blt id 900 = true) (hm : pg id = some m) (hr : zv_rc h as m.1) (hw : Nat.ble (zv_wd as) m.2.1.2.2.2.1 = true) (e : zv_lim c m.2 0 (zv_en as m.2.1.2.2.2.1) [] h = o) : zv_sem pg c id as h = o := by
  have h1 : ¬ 900 ≤ id := by
    have := Nat.blt_eq.mp hid
    omega
  have h2 : zv_wd as ≤ m.2.1.2.2.2.1 := Nat.ble_eq.mp hw
  unfold zv_sem
  rw [if_neg h1, hm]
  dsimp only
  rw [if_pos ⟨hr, h2⟩]
  exact e
end
