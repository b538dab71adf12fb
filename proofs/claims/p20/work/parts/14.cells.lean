/-! the instructions on cells -/
def zv_tb : List Cond := lw_tbl.filter goodWord
def zv_tyk (n : Nat) (t : FieldType) : Prop := match n with
  | 0 => t = .int
  | 1 => t = .boolean
  | 2 => t = .long
  | 3 => (∃ x, t = .object x) ∨ ∃ x, t = .array x
  | _ => False
/-- a class of the world -/
def zv_CF (ci : Nat) (C : String) (T : u_T) (N : Nat) (ty : Nat → FieldType) : Prop :=
  vwCl[ci]? = some (C, T, N) ∧ N = zv_nf ci ∧ (∀ w ∈ u_ws C T N, w ∈ zv_tb) ∧ (∀ k, k < N → parseFieldDescriptor (T k).2.2.1 = some (ty k)) ∧ (∀ a, a < N → ∀ b, b < N → a ≠ b → (T a).2.1 ≠ (T b).2.1) ∧ (∀ k, k < N → (T k).1 = C) ∧ ∀ k, k < N → zv_tyk (zv_ft ci k) (ty k)
def zv_lkf (own : String) (ix : Nat) (C n d : String) : Prop := Cond.fieldLink own ix C n d ∈ zv_tb ∨ ∃ host, Cond.fieldLinkNest own ix C n d host ∈ tables_1
def zv_NF (s : State) : Prop := ∀ own ix C n d host, Cond.fieldLinkNest own ix C n d host ∈ tables_1 → va_Nw (.fieldLinkNest own ix C n d host) s
def zv_NM (s : State) : Prop := ∀ own ix y host, Cond.methodLinkNest own ix y host ∈ tables_1 → va_Nw (.methodLinkNest own ix y host) s
section ZCEL
variable {p : Program} {l : Launch} {e : Env} {R : Room} {s : State} {m : MethodId} {args : Array Value} {below : List Frame} {meth : Method} {c : Code} {H : Heap} {locs : List Loc} {cells slots : Nat} {Q : State → Prop}
variable {cc : ByteArray} {pc : Nat} {ba : Nat} {ak : Nat → Nat} {D : va_G} {g : Nat → ClassId} {lsR : Array Slot} {rest : List Value} {own : String}
theorem zv_ad_in {r n : Nat} (h1 : 1 ≤ r) (h2 : r ≤ n) (hn : n < 1000000) : va_rf (zv_ad ba ak r) = .ref (ba + r) := by
  unfold zv_ad
  rw [if_neg (by omega), if_pos (by omega)]
  rfl
theorem zv_Wsz {g : JFrame} (kk : H.size ≤ s.heap.size + cells → W p l e R s m args below meth c H locs cells slots Q g) : W p l e R s m args below meth c H locs cells slots Q g := by
  intro T hT X
  have hz := X.same.2.2.1
  refine kk ?_ T hT X
  rw [← hT]
  exact hz
theorem zv_Srf {A : Nat → Prop} {H0 : Heap} (hS : va_S A H0 H locs) : va_S A H H locs := ⟨Nat.le_refl _, fun _ _ _ => rfl, hS.2.2⟩
theorem zv_Str {A : Nat → Prop} {H0 H1 : Heap} {locs1 : List Loc} (hS : va_S A H0 H locs) (h1 : va_S A H H1 locs1) : va_S A H0 H1 locs1 :=
  ⟨Nat.le_trans hS.1 h1.1, fun q a b => (h1.2.1 q (Nat.lt_of_lt_of_le a hS.1) b).trans (hS.2.1 q a b), h1.2.2⟩
/-- behind a write: the size is what it was -/
theorem zv_back {g : JFrame} {h h' : zv_H} {D : va_G} {gg : Nat → ClassId} {ba : Nat} {ak : Nat → Nat} {H1 : Heap} {locs1 : List Loc} (hR : zv_RH D gg ba ak h H) (hS : va_S (zv_Ac ba) s.heap H locs) (hsc : s.heap.size + cells = ba + zv_n h + 1) (hn' : zv_n h' = zv_n h) (hg' : zv_hg h')
    (kk : zv_RH D gg ba ak h' H1 → va_S (zv_Ac ba) s.heap H1 locs1 → W p l e R s m args below meth c H1 locs1 cells slots Q g) (q1 : va_P D vwCl (zv_ws gg ba ak h') H1) (q3 : va_S (zv_Ac ba) H H1 locs1) : W p l e R s m args below meth c H1 locs1 cells slots Q g := by
  refine zv_Wsz fun hz => ?_
  have h1 := q3.1
  have h2 := hR.1
  exact kk ⟨by rw [hn']; omega, q1, hg', by rw [hn']; exact hR.2.2.2⟩ (zv_Str hS q3)
theorem zv_get_ok (hx : p.tables.exec = Jvm.exec) (hb : c.code = cc) (hts : ∀ w ∈ zv_tb, w.before args s = true) (hNF : zv_NF s) (hown : s.vm.findClass own = some m.cls) (hK : va_K D vwCl (zv_tys g) s) {h : zv_H} (hR : zv_RH D g ba ak h H)
    {r ci k ix : Nat} {C : String} {T : u_T} {N : Nat} {ty : Nat → FieldType} (hCF : zv_CF ci C T N ty) (hk : k < N) (hl : zv_lkf own ix C (T k).2.1 (T k).2.2.1) (ho : r ≤ zv_n h ∧ zv_lay r = (1, ci)) (hdg : decode cc pc = .ok (.getfield ix, 3))
    (kk : W p l e R s m args below meth c H locs cells slots Q (F0 m (pc + 3) lsR (zv_fv ba ak h r ci k :: rest))) : W p l e R s m args below meth c H locs cells slots Q (F0 m pc lsR (va_rf (zv_ad ba ak r) :: rest)) := by
  obtain ⟨h1, h2, h3, h4, h5, h6, h7⟩ := hCF
  have hp := zv_lay_pos ho.2
  rw [zv_ad_in hp ho.1 hR.2.2.2]
  have he : (zv_ws g ba ak h)[r - 1]? = some (ba + r, .inr (ci, zv_fs ba ak h r ci)) := by rw [zv_ws_at hp ho.1, zv_el_obj ho.2]
  have hsame : ∀ x, s.fieldFound? (T k).1 (T k).2.1 (T k).2.2.1 = some x → s.fieldFound? C (T k).2.1 (T k).2.2.1 = some x := fun x hx => by rw [← h6 k hk]; exact hx
  rcases hl with hl | ⟨host, hl⟩
  · exact va_get hx hb hts h3 hown hK hR.2.1 (r - 1) he h1 k hk (hts _ hl) hsame (zv_fs_at (h2 ▸ hk)) hdg kk
  · exact va_getN hx hb hts h3 hown hK hR.2.1 (r - 1) he h1 k hk ((hNF _ _ _ _ _ _ hl).use rfl) hsame (zv_fs_at (h2 ▸ hk)) hdg kk
/-- a field is written: the cells behind it -/
theorem zv_put_ok (hx : p.tables.exec = Jvm.exec) (hb : c.code = cc) (hts : ∀ w ∈ zv_tb, w.before args s = true) (hNF : zv_NF s) (hown : s.vm.findClass own = some m.cls) (hK : va_K D vwCl (zv_tys g) s) {h h' : zv_H} (hR : zv_RH D g ba ak h H) (hS : va_S (zv_Ac ba) s.heap H locs) (hsc : s.heap.size + cells = ba + zv_n h + 1)
    {r ci k ix : Nat} {C : String} {T : u_T} {N : Nat} {ty : Nat → FieldType} (hCF : zv_CF ci C T N ty) (hk : k < N) (hl : zv_lkf own ix C (T k).2.1 (T k).2.2.1) (hfin : (T k).2.2.2 = true → Cond.fieldLink own ix C (T k).2.1 (T k).2.2.1 ∈ zv_tb ∧ meth.name = "<init>" ∧ C = own) (ho : r ≤ zv_n h ∧ zv_lay r = (1, ci))
    {v : Value} (hn : narrow (ty k) v = v) (hf : fits (ty k) v = true) (hv : zv_fv ba ak h' r ci k = v) (hne : ∀ j, ¬ j = k → zv_fv ba ak h' r ci j = zv_fv ba ak h r ci j) (hne2 : ∀ q, ¬ q = r → zv_el g ba ak h' q = zv_el g ba ak h q) (hn' : zv_n h' = zv_n h) (hg' : zv_hg h') (hdg : decode cc pc = .ok (.putfield ix, 3))
    (kk : ∀ H1 locs1, zv_RH D g ba ak h' H1 → va_S (zv_Ac ba) s.heap H1 locs1 → W p l e R s m args below meth c H1 locs1 cells slots Q (F0 m (pc + 3) lsR rest)) : W p l e R s m args below meth c H locs cells slots Q (F0 m pc lsR (v :: va_rf (zv_ad ba ak r) :: rest)) := by
  obtain ⟨h1, h2, h3, h4, h5, h6, h7⟩ := hCF
  have hp := zv_lay_pos ho.2
  rw [zv_ad_in hp ho.1 hR.2.2.2]
  have he : (zv_ws g ba ak h)[r - 1]? = some (ba + r, .inr (ci, zv_fs ba ak h r ci)) := by rw [zv_ws_at hp ho.1, zv_el_obj ho.2]
  have hsame : ∀ x, s.fieldFound? (T k).1 (T k).2.1 (T k).2.2.1 = some x → s.fieldFound? C (T k).2.1 (T k).2.2.1 = some x := fun x hx => by rw [← h6 k hk]; exact hx
  have hset : (zv_ws g ba ak h).set (r - 1) (ba + r, .inr (ci, (zv_fs ba ak h r ci).set k v)) = zv_ws g ba ak h' := by
    rw [zv_fs_set hv hne, ← zv_el_obj (g := g) ho.2]
    exact zv_ws_set hp hn' hne2
  have kk2 : ∀ (H1 : Heap) (locs1 : List Loc), va_P D vwCl ((zv_ws g ba ak h).set (r - 1) (ba + r, .inr (ci, (zv_fs ba ak h r ci).set k v))) H1 → va_D (zv_Ac ba) ((zv_ws g ba ak h).set (r - 1) (ba + r, .inr (ci, (zv_fs ba ak h r ci).set k v))) → va_S (zv_Ac ba) H H1 locs1 → W p l e R s m args below meth c H1 locs1 cells slots Q (F0 m (pc + 3) lsR rest) := by
    intro H1 locs1 q1 q2 q3
    rw [hset] at q1
    exact zv_back hR hS hsc hn' hg' (kk H1 locs1) q1 q3
  have hD := zv_ws_D g ba ak h
  have hk2 : k < (zv_fs ba ak h r ci).length := by rw [zv_fs_len]; omega
  rcases hfb : (T k).2.2.2 with _ | _
  · rcases hl with hl | ⟨host, hl⟩
    · exact va_put hx hb hts h3 ty h4 h5 hown hK hR.2.1 hD (zv_Srf hS) (r - 1) he h1 k hk (hts _ hl) hsame hfb (h4 k hk) hn hf hk2 hdg kk2
    · exact va_putN hx hb hts h3 ty h4 h5 hown hK hR.2.1 hD (zv_Srf hS) (r - 1) he h1 k hk ((hNF _ _ _ _ _ _ hl).use rfl) hsame hfb (h4 k hk) hn hf hk2 hdg kk2
  · obtain ⟨f1, f2, f3⟩ := hfin hfb
    exact va_putF hx hb hts h3 ty h4 h5 hown hK hR.2.1 hD (zv_Srf hS) (r - 1) he h1 k hk (hts _ f1) hsame hfb f2 ((h6 k hk).trans f3) (h4 k hk) hn hf hk2 hdg kk2
end ZCEL
