/-! cells are only made: by itself -/
def zv_mn (h hE : zv_H) (f : zv_G → zv_O) : Prop := ∀ go rv, (∀ pc ls st h1, go pc ls st h1 = some (rv, hE) → zv_mo h1 hE) → f go = some (rv, hE) → zv_mo h hE
section MN
variable {h hE : zv_H}
theorem zv_mn_go (pc : Nat) (ls : zv_Ls) (st : List zv_V) {h1 : zv_H} (hm : zv_mo h h1) : zv_mn h hE (fun go => go pc ls st h1) := fun go rv hg hr => hm.tr (hg _ _ _ _ hr)
theorem zv_mn_n : zv_mn h hE (fun _ => none) := fun go rv hg hr => by cases hr
theorem zv_mn_if {p : Prop} [Decidable p] {f k : zv_G → zv_O} (hf : zv_mn h hE f) (hk : zv_mn h hE k) : zv_mn h hE (fun go => if p then f go else k go) := by
  intro go rv hg hr
  by_cases q : p
  · simp only [if_pos q] at hr
    exact hf go rv hg hr
  · simp only [if_neg q] at hr
    exact hk go rv hg hr
theorem zv_mn_b {α : Type} {o : Option α} {f : α → zv_G → zv_O} (hf : ∀ v, o = some v → zv_mn h hE (f v)) : zv_mn h hE (fun go => o.bind fun v => f v go) := by
  intro go rv hg hr
  cases o with
  | none => exact absurd hr (by simp)
  | some v => exact hf v rfl go rv hg hr
theorem zv_mn_jp (pc : Nat) (off : Int) (ls : zv_Ls) (st : List zv_V) : zv_mn h hE (fun go => zv_jp go pc off ls st h) := zv_mn_if zv_mn_n (zv_mn_go _ _ _ (zv_mo.rf h))
theorem zv_mn_bc (pc : Nat) (off : Int) (ls : zv_Ls) (st : List zv_V) (P : Prop) [Decidable P] : zv_mn h hE (fun go => zv_bc go pc off ls st h P) := zv_mn_if zv_mn_n (zv_mn_if (zv_mn_go _ _ _ (zv_mo.rf h)) (zv_mn_go _ _ _ (zv_mo.rf h)))
theorem zv_mn_bn (pc : Nat) (off : Int) (ls : zv_Ls) (st : List zv_V) (P : Prop) [Decidable P] : zv_mn h hE (fun go => zv_bn go pc off ls st h P) := zv_mn_if zv_mn_n (zv_mn_if (zv_mn_go _ _ _ (zv_mo.rf h)) (zv_mn_go _ _ _ (zv_mo.rf h)))
theorem zv_mn_tsw (pc : Nat) (x dflt : Int) (ls : zv_Ls) (st : List zv_V) : ∀ (os : List Int) (lo : Int), zv_mn h hE (fun go => zv_tsw go pc x dflt ls st h lo os)
  | [], _ => zv_mn_jp _ _ _ _
  | _ :: t, lo => zv_mn_if (zv_mn_jp _ _ _ _) (zv_mn_tsw pc x dflt ls st t (lo + 1))
theorem zv_mn_lsw (pc : Nat) (x dflt : Int) (ls : zv_Ls) (st : List zv_V) : ∀ (os : List (Int × Int)), zv_mn h hE (fun go => zv_lsw go pc x dflt ls st h os)
  | [] => zv_mn_jp _ _ _ _
  | _ :: t => zv_mn_if (zv_mn_jp _ _ _ _) (zv_mn_lsw pc x dflt ls st t)
/-- calls only make cells -/
def zv_HM (c : zv_C) : Prop := (∀ id as h h1, c.1 id as h = some h1 → zv_mo h h1) ∧ (∀ id as h x h1, c.2.1 id as h = some (x, h1) → zv_mo h h1) ∧ (∀ id as h x h1, c.2.2.1 id as h = some (x, h1) → zv_mo h h1) ∧ ∀ id as h x h1, c.2.2.2 id as h = some (x, h1) → zv_mo h h1
theorem zv_mn_call {c : zv_C} (hc : zv_HM c) (pc : Nat) (ls : zv_Ls) (st : List zv_V) (e : Nat × (Nat × (Nat × Nat))) : zv_mn h hE (fun go => zv_call c go pc ls st h e) := by
  unfold zv_call
  cases zv_tk e.2.2.1 [] st with
  | none => exact zv_mn_n
  | some q =>
    obtain ⟨as, rest⟩ := q
    refine zv_mn_if zv_mn_n ?_
    match e.2.2.2 with
    | 0 => exact zv_mn_b fun v hv => zv_mn_go _ _ _ (hc.1 _ _ _ _ hv)
    | 1 => exact zv_mn_b fun v hv => zv_mn_go _ _ _ (hc.2.1 _ _ _ v.1 v.2 hv)
    | 2 => exact zv_mn_b fun v hv => zv_mn_go _ _ _ (hc.2.2.1 _ _ _ v.1 v.2 hv)
    | _ + 3 => exact zv_mn_b fun v hv => zv_mn_go _ _ _ (hc.2.2.2 _ _ _ v.1 v.2 hv)
theorem zv_mn_gf (pc : Nat) (ls : zv_Ls) (st : List zv_V) (r : Nat) (o : Option (Nat × (Nat × Bool))) : zv_mn h hE (fun go => zv_gf go pc ls st h r o) := by
  unfold zv_gf
  cases o with
  | none => exact zv_mn_n
  | some f =>
    dsimp only
    generalize zv_ft f.1 f.2.1 = t
    match t with
    | 0 => exact zv_mn_b fun v hv => zv_mn_go _ _ _ (zv_mo.rf h)
    | 1 => exact zv_mn_b fun v hv => zv_mn_go _ _ _ (zv_mo.rf h)
    | 2 => exact zv_mn_b fun v hv => zv_mn_go _ _ _ (zv_mo.rf h)
    | 3 => exact zv_mn_b fun v hv => zv_mn_go _ _ _ (zv_mo.rf h)
    | 4 => exact zv_mn_b fun v hv => zv_mn_go _ _ _ (zv_mo.rf h)
    | 5 => exact zv_mn_b fun v hv => zv_mn_go _ _ _ (zv_mo.rf h)
    | _ + 6 => exact zv_mn_n
theorem zv_mo_pI {r ci k : Nat} {v : Int} {h1 : zv_H} (hv : zv_pI h r ci k v = some h1) : zv_mo h h1 := by
  unfold zv_pI at hv
  split at hv <;> cases hv
  exact ⟨Nat.le_refl _, Nat.le_refl _, rfl⟩
theorem zv_mo_pZ {r ci k : Nat} {v : Int} {h1 : zv_H} (hv : zv_pZ h r ci k v = some h1) : zv_mo h h1 := by
  unfold zv_pZ at hv
  split at hv <;> cases hv
  exact ⟨Nat.le_refl _, Nat.le_refl _, rfl⟩
theorem zv_mo_pJ {r ci k : Nat} {v : Int64} {h1 : zv_H} (hv : zv_pJ h r ci k v = some h1) : zv_mo h h1 := by
  unfold zv_pJ at hv
  split at hv <;> cases hv
  exact ⟨Nat.le_refl _, Nat.le_refl _, rfl⟩
theorem zv_mo_pR {r ci k : Nat} {v : Nat} {h1 : zv_H} (hv : zv_pR h r ci k v = some h1) : zv_mo h h1 := by
  unfold zv_pR at hv
  split at hv <;> cases hv
  exact ⟨Nat.le_refl _, Nat.le_refl _, rfl⟩
theorem zv_mo_wI {r : Nat} {j v : Int} {h1 : zv_H} (hv : zv_wI h r j v = some h1) : zv_mo h h1 := by
  unfold zv_wI at hv
  split at hv <;> cases hv
  exact ⟨Nat.le_refl _, Nat.le_refl _, rfl⟩
theorem zv_mo_wB {r : Nat} {j v : Int} {h1 : zv_H} (hv : zv_wB h r j v = some h1) : zv_mo h h1 := by
  unfold zv_wB at hv
  split at hv
  · have := Option.some.inj hv
    rw [← this]
    exact ⟨Nat.le_refl _, Nat.le_refl _, rfl⟩
  · cases hv
theorem zv_mo_wJ {r : Nat} {j : Int} {v : Int64} {h1 : zv_H} (hv : zv_wJ h r j v = some h1) : zv_mo h h1 := by
  unfold zv_wJ at hv
  split at hv <;> cases hv
  exact ⟨Nat.le_refl _, Nat.le_refl _, rfl⟩
theorem zv_mo_wR {r : Nat} {j : Int} {v : Nat} {h1 : zv_H} (hv : zv_wR h r j v = some h1) : zv_mo h h1 := by
  unfold zv_wR at hv
  split at hv <;> cases hv
  exact ⟨Nat.le_refl _, Nat.le_refl _, rfl⟩
theorem zv_mo_mk (h : zv_H) (w : Nat) : zv_mo h (zv_mk h w) := ⟨Nat.le_succ _, Nat.le_add_right _ _, rfl⟩
theorem zv_mo_nO {ci : Nat} {h1 : zv_H} (hv : zv_nO h ci = some h1) : zv_mo h h1 := by
  unfold zv_nO at hv
  split at hv <;> cases hv
  exact zv_mo_mk h _
theorem zv_mo_nA {kd : Nat} {x : Int} {h1 : zv_H} (hv : zv_nA h kd x = some h1) : zv_mo h h1 := by
  unfold zv_nA at hv
  split at hv <;> cases hv
  exact zv_mo_mk h _
theorem zv_mo_cy {s d : Nat} {sp dp n : Int} {h1 : zv_H} (hv : zv_cy h s sp d dp n = some h1) : zv_mo h h1 := by
  unfold zv_cy at hv
  split at hv <;> cases hv
  exact ⟨Nat.le_refl _, Nat.le_refl _, rfl⟩
theorem zv_mn_pf (pc : Nat) (ls : zv_Ls) (st : List zv_V) (r : Nat) (w : zv_V) (o : Option (Nat × (Nat × Bool))) : zv_mn h hE (fun go => zv_pf go pc ls st h r w o) := by
  intro go rv hg hr
  unfold zv_pf at hr
  cases o with
  | none => cases hr
  | some f =>
    dsimp only at hr
    generalize zv_ft f.1 f.2.1 = t at hr
    split at hr
    · exact zv_mn_b (fun v hv => zv_mn_go _ _ _ (zv_mo_pI hv)) go rv hg hr
    · exact zv_mn_b (fun v hv => zv_mn_go _ _ _ (zv_mo_pZ hv)) go rv hg hr
    · exact zv_mn_b (fun v hv => zv_mn_go _ _ _ (zv_mo_pJ hv)) go rv hg hr
    · exact zv_mn_b (fun v hv => zv_mn_go _ _ _ (zv_mo_pR hv)) go rv hg hr
    · cases hr
theorem zv_mn_gs (pc : Nat) (ls : zv_Ls) (st : List zv_V) (o : Option Int) : zv_mn h hE (fun go => zv_gs go pc ls st h o) := by
  unfold zv_gs
  cases o with
  | none => exact zv_mn_n
  | some f => exact zv_mn_go _ _ _ (zv_mo.rf h)
theorem zv_mn_nw (pc : Nat) (ls : zv_Ls) (st : List zv_V) (o : Option Nat) : zv_mn h hE (fun go => zv_nw go pc ls st h o) := by
  unfold zv_nw
  cases o with
  | none => exact zv_mn_n
  | some f => exact zv_mn_b fun v hv => zv_mn_go _ _ _ (zv_mo_nO hv)
theorem zv_mn_an (pc : Nat) (ls : zv_Ls) (st : List zv_V) (x : Int) (o : Option Nat) : zv_mn h hE (fun go => zv_an go pc ls st h x o) := by
  unfold zv_an
  cases o with
  | none => exact zv_mn_n
  | some f => exact zv_mn_if (zv_mn_b fun v hv => zv_mn_go _ _ _ (zv_mo_nA hv)) zv_mn_n
theorem zv_mn_ls (pc : Nat) (ls : zv_Ls) (st : List zv_V) (o : Option Nat) : zv_mn h hE (fun go => zv_ls go pc ls st h o) := by
  unfold zv_ls
  cases o with
  | none => exact zv_mn_n
  | some f => exact zv_mn_go _ _ _ (zv_mo.rf h)
theorem zv_mn_li (pc : Nat) (ls : zv_Ls) (st : List zv_V) (o : Option Nat) : zv_mn h hE (fun go => zv_li go pc ls st h o) := by
  unfold zv_li
  cases o with
  | none => exact zv_mn_n
  | some f => exact zv_mn_go _ _ _ (zv_mo.rf h)
theorem zv_mn_ll (pc : Nat) (ls : zv_Ls) (st : List zv_V) (o : Option Int64) : zv_mn h hE (fun go => zv_ll go pc ls st h o) := by
  unfold zv_ll
  cases o with
  | none => exact zv_mn_n
  | some f => exact zv_mn_go _ _ _ (zv_mo.rf h)
theorem zv_mn_iv {c : zv_C} (hc : zv_HM c) (pc : Nat) (ls : zv_Ls) (st : List zv_V) (o : Option (Nat × (Nat × (Nat × Nat)))) : zv_mn h hE (fun go => zv_iv c go pc ls st h o) := by
  unfold zv_iv
  cases o with
  | none => exact zv_mn_n
  | some f => exact zv_mn_if (zv_mn_call hc _ _ _ _) zv_mn_n
theorem zv_mn_cyS (pc : Nat) (ls : zv_Ls) (st : List zv_V) : zv_mn h hE (fun go => zv_cyS go pc ls st h) := by
  intro go rv hg hr
  unfold zv_cyS at hr
  split at hr
  · exact zv_mn_if zv_mn_n (zv_mn_b fun v hv => zv_mn_go _ _ _ (zv_mo_cy hv)) go rv hg hr
  · cases hr
theorem zv_mn_mx (pc : Nat) (ls : zv_Ls) (st : List zv_V) (b : Bool) : zv_mn h hE (fun go => zv_mx go pc ls st h b) := by
  intro go rv hg hr
  unfold zv_mx at hr
  split at hr
  · exact zv_mn_if zv_mn_n (zv_mn_go _ _ _ (zv_mo.rf h)) go rv hg hr
  · cases hr
theorem zv_mn_is {c : zv_C} (hc : zv_HM c) (pc : Nat) (ls : zv_Ls) (st : List zv_V) (o : Option (Nat × (Nat × (Nat × Nat)))) : zv_mn h hE (fun go => zv_is c go pc ls st h o) := by
  unfold zv_is
  cases o with
  | none => exact zv_mn_n
  | some f => exact zv_mn_if (zv_mn_call hc _ _ _ _) (zv_mn_if (zv_mn_cyS _ _ _) (zv_mn_if (zv_mn_mx _ _ _ _) (zv_mn_if (zv_mn_mx _ _ _ _) zv_mn_n)))
theorem zv_mn_oi (pc : Nat) (ls : zv_Ls) (st : List zv_V) : zv_mn h hE (fun go => zv_oi go pc ls st h) := by
  intro go rv hg hr
  unfold zv_oi at hr
  split at hr
  · exact zv_mn_if zv_mn_n (zv_mn_if zv_mn_n (zv_mn_go _ _ _ (zv_mo.rf h))) go rv hg hr
  · cases hr
theorem zv_mn_ip {c : zv_C} (hc : zv_HM c) (pc : Nat) (ls : zv_Ls) (st : List zv_V) (o : Option (Nat × (Nat × (Nat × Nat)))) : zv_mn h hE (fun go => zv_ip c go pc ls st h o) := by
  unfold zv_ip
  cases o with
  | none => exact zv_mn_n
  | some f => exact zv_mn_if (zv_mn_call hc _ _ _ _) (zv_mn_if (zv_mn_oi _ _ _) zv_mn_n)
theorem zv_mn_rt (w : Option zv_V) (t : Option FieldType) : zv_mn h hE (fun _ => zv_rt h w t) := by
  intro go rv hg hr
  dsimp only at hr
  unfold zv_rt at hr
  split at hr
  all_goals first | (cases hr; done) | (cases hr; exact zv_mo.rf _) | (split at hr <;> cases hr; exact zv_mo.rf _)
set_option maxHeartbeats 4000000 in
theorem zv_mn_hp {c : zv_C} (hc : zv_HM c) (M : zv_M) (pc : Nat) (ls : zv_Ls) (st : List zv_V) (i : Instr) : zv_mn h hE (fun go => zv_hp c M go pc ls st h i) := by
  intro go rv hg hr
  unfold zv_hp at hr
  split at hr
  all_goals try exact zv_mn_jp _ _ _ _ go rv hg hr
  all_goals try exact zv_mn_bc _ _ _ _ _ go rv hg hr
  all_goals try exact zv_mn_bn _ _ _ _ _ go rv hg hr
  all_goals try exact zv_mn_if zv_mn_n (zv_mn_bc _ _ _ _ _) go rv hg hr
  all_goals try exact zv_mn_if zv_mn_n (zv_mn_bn _ _ _ _ _) go rv hg hr
  all_goals try exact zv_mn_if (zv_mn_tsw _ _ _ _ _ _ _) zv_mn_n go rv hg hr
  all_goals try exact zv_mn_if (zv_mn_lsw _ _ _ _ _ _) zv_mn_n go rv hg hr
  all_goals try exact zv_mn_gf _ _ _ _ _ go rv hg hr
  all_goals try exact zv_mn_pf _ _ _ _ _ _ go rv hg hr
  all_goals try exact zv_mn_gs _ _ _ _ go rv hg hr
  all_goals try exact zv_mn_nw _ _ _ _ go rv hg hr
  all_goals try exact zv_mn_an _ _ _ _ _ go rv hg hr
  all_goals try exact zv_mn_ls _ _ _ _ go rv hg hr
  all_goals try exact zv_mn_li _ _ _ _ go rv hg hr
  all_goals try exact zv_mn_ll _ _ _ _ go rv hg hr
  all_goals try exact zv_mn_iv hc _ _ _ _ go rv hg hr
  all_goals try exact zv_mn_is hc _ _ _ _ go rv hg hr
  all_goals try exact zv_mn_ip hc _ _ _ _ go rv hg hr
  all_goals try exact zv_mn_rt _ _ go rv hg hr
  all_goals try exact zv_mn_b (fun v hv => zv_mn_go _ _ _ (zv_mo_wI hv)) go rv hg hr
  all_goals try exact zv_mn_b (fun v hv => zv_mn_go _ _ _ (zv_mo_wB hv)) go rv hg hr
  all_goals try exact zv_mn_b (fun v hv => zv_mn_go _ _ _ (zv_mo_wJ hv)) go rv hg hr
  all_goals try exact zv_mn_b (fun v hv => zv_mn_go _ _ _ (zv_mo_wR hv)) go rv hg hr
  all_goals try exact zv_mn_b (fun v hv => zv_mn_go _ _ _ (zv_mo_nA hv)) go rv hg hr
  all_goals try exact zv_mn_b (fun v hv => zv_mn_go _ _ _ (zv_mo.rf h)) go rv hg hr
  all_goals cases hr
theorem zv_mn_stp {c : zv_C} (hc : zv_HM c) (M : zv_M) (pc : Nat) (ls : zv_Ls) (st : List zv_V) : zv_mn h hE (fun go => zv_stp c M go pc ls st h) := by
  unfold zv_stp
  cases zv_lk M.2.1 pc with
  | none => exact zv_mn_n
  | some i =>
    dsimp only
    cases zv_op i ls st with
    | none => exact zv_mn_hp hc _ _ _ _ _
    | some q => exact zv_mn_go _ _ _ (zv_mo.rf h)
end MN
theorem zv_mn_seg {c : zv_C} (hc : zv_HM c) (M : zv_M) {hE : zv_H} : ∀ (n pc : Nat) (ls : zv_Ls) (st : List zv_V) (h : zv_H), zv_mn h hE (fun go => zv_seg c M go n pc ls st h)
  | 0, pc, ls, st, h => zv_mn_go _ _ _ (zv_mo.rf h)
  | n + 1, pc, ls, st, h => by
    intro kt rv hg hr
    refine zv_mn_stp hc M pc ls st (fun pc ls st h => match zv_lk M.2.2.1 pc with
      | some b => kt pc (zv_msk b ls) st h
      | none => zv_seg c M kt n pc ls st h) rv (fun pc1 ls1 st1 h1 e1 => ?_) hr
    cases hb : zv_lk M.2.2.1 pc1 with
    | some b =>
      simp only [hb] at e1
      exact hg _ _ _ _ e1
    | none =>
      simp only [hb] at e1
      exact zv_mn_seg hc M n pc1 ls1 st1 h1 kt rv hg e1
theorem zv_mn_it {c : zv_C} (hc : zv_HM c) (M : zv_M) : ∀ (n pc : Nat) (ls : zv_Ls) (st : List zv_V) (h : zv_H) (rv : Option zv_V) (hE : zv_H), zv_it c M n pc ls st h = some (rv, hE) → zv_mo h hE
  | 0, _, _, _, _, _, _, hr => by cases hr
  | n + 1, pc, ls, st, h, rv, hE, hr => zv_mn_seg hc M 400 pc ls st h (zv_it c M n) rv (fun pc1 ls1 st1 h1 e1 => zv_mn_it hc M n pc1 ls1 st1 h1 rv hE e1) hr
theorem zv_mn_lim {c : zv_C} (hc : zv_HM c) {M : zv_M} {pc : Nat} {ls : zv_Ls} {st : List zv_V} {h : zv_H} {rv : Option zv_V} {hE : zv_H} (hr : zv_lim c M pc ls st h = some (rv, hE)) : zv_mo h hE := by
  obtain ⟨n, hn⟩ := (zv_lim_iff _ _ _ _ _ _ _).mp hr
  exact zv_mn_it hc M n pc ls st h rv hE hn
theorem zv_jd_h {id : Nat} {as : List zv_V} {h : zv_H} {rv : Option zv_V} {hE : zv_H} (hr : zv_jd id as h = some (rv, hE)) : hE = h := by
  unfold zv_jd at hr
  split at hr
  · split at hr <;> cases hr; rfl
  · cases hr
theorem zv_mn_sem {pg : Nat → Option (Option Nat × zv_M)} {c : zv_C} (hc : zv_HM c) {id : Nat} {as : List zv_V} {h : zv_H} {rv : Option zv_V} {hE : zv_H} (hr : zv_sem pg c id as h = some (rv, hE)) : zv_mo h hE := by
  unfold zv_sem at hr
  split at hr
  · rw [zv_jd_h hr]
    exact zv_mo.rf h
  · split at hr
    · cases hr
    · split at hr
      · exact zv_mn_lim hc hr
      · cases hr
theorem zv_pjV_eq {o : zv_O} {h : zv_H} (e : zv_pjV o = some h) : o = some (none, h) := by
  unfold zv_pjV at e
  split at e <;> cases e
  rfl
theorem zv_pjI_eq {o : zv_O} {x : Int} {h : zv_H} (e : zv_pjI o = some (x, h)) : o = some (some (zv_i x), h) := by
  unfold zv_pjI at e
  split at e <;> cases e
  rfl
theorem zv_pjJ_eq {o : zv_O} {x : Int64} {h : zv_H} (e : zv_pjJ o = some (x, h)) : o = some (some (zv_j x), h) := by
  unfold zv_pjJ at e
  split at e <;> cases e
  rfl
theorem zv_pjR_eq {o : zv_O} {x : Nat} {h : zv_H} (e : zv_pjR o = some (x, h)) : o = some (some (zv_r x), h) := by
  unfold zv_pjR at e
  split at e <;> cases e
  rfl
theorem zv_HM_cs (pg : Nat → Option (Option Nat × zv_M)) : ∀ d, zv_HM (zv_cs pg d)
  | 0 => ⟨fun _ _ _ _ e => (by cases e), fun _ _ _ _ _ e => (by cases e), fun _ _ _ _ _ e => (by cases e), fun _ _ _ _ _ e => (by cases e)⟩
  | d + 1 => ⟨fun _ _ _ _ e => zv_mn_sem (zv_HM_cs pg d) (zv_pjV_eq e), fun _ _ _ _ _ e => zv_mn_sem (zv_HM_cs pg d) (zv_pjI_eq e), fun _ _ _ _ _ e => zv_mn_sem (zv_HM_cs pg d) (zv_pjJ_eq e), fun _ _ _ _ _ e => zv_mn_sem (zv_HM_cs pg d) (zv_pjR_eq e)⟩
