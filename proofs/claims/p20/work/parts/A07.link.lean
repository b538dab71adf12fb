/-! ===== the tie: the row as a chain ===== -/
/-- only these int cells may have changed -/
def zt_o (A : List Nat) (h g : zv_H) : Prop := g.1 = h.1 ∧ g.2.2 = h.2.2 ∧ ∀ r, A.contains r = false → g.2.1 r = h.2.1 r
theorem zt_o_r (A : List Nat) (h : zv_H) : zt_o A h h := ⟨rfl, rfl, fun _ _ => rfl⟩
theorem zt_o_t {A : List Nat} {h h1 h2 : zv_H} (f : zt_o A h h1) (g : zt_o A h1 h2) : zt_o A h h2 := ⟨g.1.trans f.1, g.2.1.trans f.2.1, fun r x => (g.2.2 r x).trans (f.2.2 r x)⟩
theorem zt_o_I {A : List Nat} {h g : zv_H} (f : zt_o A h g) {r : Nat} (hr : A.contains r = true) (k : Nat) (v : Int) : zt_o A h (zv_sI g r k v) := by
  refine ⟨f.1, f.2.1, fun x hx => ?_⟩
  rw [← f.2.2 x hx]
  funext k'
  exact if_neg (fun q => by rw [q.1, hr] at hx; cases hx)
theorem zt_o_L {A : List Nat} {h g : zv_H} (f : zt_o A h g) (hL : zt_L h) : zt_L g := by
  refine ⟨?_, fun r k x y => ?_, fun a i x y => ?_⟩
  · show g.1.1 = 372
    rw [f.1]; exact hL.1
  · show g.2.2.2.1 r k = _
    rw [f.2.1]; exact hL.2.1 r k x y
  · show g.2.2.2.1 (a + 4) i = _
    rw [f.2.1]; exact hL.2.2 a i x y
theorem zt_o_i {A : List Nat} {h g : zv_H} (f : zt_o A h g) {r : Nat} (hr : A.contains r = false) (k : Nat) : zv_I g r k = zv_I h r k := congrFun (f.2.2 r hr) k
theorem zt_o_q {A : List Nat} {h g : zv_H} (f : zt_o A h g) (hx : ∀ r ∈ A, ∀ k, zt_x r k) : zt_q h g := by
  refine ⟨f.1, ?_, fun r k n _ => ?_, fun r _ _ => ?_, fun r _ _ _ => ?_⟩
  · show g.2.2.2.2 = h.2.2.2.2
    rw [f.2.1]
  · refine zt_o_i f ?_ k
    cases e : A.contains r with
    | false => rfl
    | true => exact absurd (hx r (List.contains_iff_mem.mp e) k) n
  · show g.2.2.1 r = h.2.2.1 r
    rw [f.2.1]
  · show g.2.2.2.1 r = h.2.2.2.1 r
    rw [f.2.1]
theorem zt_o_s {A B : List Nat} {h g : zv_H} (f : zt_o A h g) (hs : ∀ r ∈ A, r ∈ B) : zt_o B h g := ⟨f.1, f.2.1, fun r hr => f.2.2 r (by
  cases e : A.contains r with
  | false => rfl
  | true =>
    have := List.contains_iff_mem.mpr (hs r (List.contains_iff_mem.mp e))
    rw [hr] at this
    cases this)⟩
theorem zt_c1 {r x : Nat} (h : x ≠ r) : ([r] : List Nat).contains x = false := by
  cases e : ([r] : List Nat).contains x with
  | false => rfl
  | true => exact absurd (List.mem_singleton.mp (List.contains_iff_mem.mp e)) h
theorem zt_c2 (r : Nat) : ([r] : List Nat).contains r = true := List.contains_iff_mem.mpr (List.mem_singleton.mpr rfl)
/-! a chain: each names the next one -/
def zt_lk (F : Int → Int) : Int → List Int → Prop
  | b, [] => F b = -1
  | b, x :: r => F b = x ∧ zt_lk F x r
def zt_pt (F : Int → Int) : Int → List Int → Int → Prop
  | b, [], e => b = e
  | b, x :: r, e => F b = x ∧ zt_pt F x r e
theorem zt_pt_m {F : Int → Int} {e : Int} : ∀ {A : List Int} {b : Int}, zt_pt F b A e → e ∈ b :: A := by
  intro A
  induction A with
  | nil => intro b h; rw [show b = e from h]; exact List.mem_cons_self
  | cons x r ih => intro b h; exact List.mem_cons_of_mem _ (ih h.2)
theorem zt_pt_fr {F G : Int → Int} {e : Int} : ∀ {A : List Int} {b : Int}, zt_pt F b A e → (b :: A).Nodup → (∀ x ∈ b :: A, x ≠ e → G x = F x) → zt_pt G b A e := by
  intro A
  induction A with
  | nil => intro b h _ _; exact h
  | cons x r ih =>
    intro b h hd hx
    have hd' := List.nodup_cons.mp hd
    have ne : b ≠ e := fun q => hd'.1 (by rw [q]; exact zt_pt_m h.2)
    exact ⟨(hx b List.mem_cons_self ne).trans h.1, ih h.2 hd'.2 (fun y hy => hx y (List.mem_cons_of_mem _ hy))⟩
theorem zt_pt_a {F : Int → Int} {x : Int} : ∀ {A : List Int} {b m : Int}, zt_pt F b A m → F m = x → zt_pt F b (A ++ [x]) x := by
  intro A
  induction A with
  | nil => intro b m h hx; exact ⟨by rw [show b = m from h]; exact hx, rfl⟩
  | cons y r ih => intro b m h hx; exact ⟨h.1, ih h.2 hx⟩
theorem zt_lk_fr {F G : Int → Int} : ∀ {L : List Int} {b : Int}, zt_lk F b L → (∀ x ∈ b :: L, G x = F x) → zt_lk G b L := by
  intro L
  induction L with
  | nil => intro b h hx; exact (hx b List.mem_cons_self).trans h
  | cons x r ih => intro b h hx; exact ⟨(hx b List.mem_cons_self).trans h.1, ih h.2 (fun y hy => hx y (List.mem_cons_of_mem _ hy))⟩
theorem zt_lk_pt {F : Int → Int} {B : List Int} {e : Int} : ∀ {S : List Int} {b : Int}, zt_pt F b S e → zt_lk F e B → zt_lk F b (S ++ B) := by
  intro S
  induction S with
  | nil => intro b h hB; rw [show b = e from h]; exact hB
  | cons x r ih => intro b h hB; exact ⟨h.1, ih h.2 hB⟩
theorem zt_lk_ins {F G : Int → Int} {b e : Int} {S B : List Int} (hp : zt_pt G b S e) (he : G e = F b) : ∀ {A : List Int} {b0 : Int}, zt_lk F b0 (A ++ B) → zt_pt F b0 A b → (b0 :: (A ++ B)).Nodup → (∀ x ∈ b0 :: (A ++ B), x ≠ b → G x = F x) → zt_lk G b0 (A ++ (S ++ B)) := by
  intro A
  induction A with
  | nil =>
    intro b0 h hb hd hx
    have e0 : b0 = b := hb
    subst e0
    show zt_lk G b0 (S ++ B)
    refine zt_lk_pt hp ?_
    cases B with
    | nil => exact he.trans h
    | cons y r =>
      have hd' := List.nodup_cons.mp hd
      exact ⟨he.trans h.1, zt_lk_fr h.2 (fun z hz => hx z (List.mem_cons_of_mem _ hz) (fun q => hd'.1 (by rw [← q]; exact hz)))⟩
  | cons x r ih =>
    intro b0 h hb hd hx
    have hd' := List.nodup_cons.mp hd
    have ne : b0 ≠ b := fun q => hd'.1 (by
      have := zt_pt_m hb.2
      rw [q]
      exact List.mem_append_left _ this)
    exact ⟨(hx b0 List.mem_cons_self ne).trans h.1, ih h.2 hb.2 hd'.2 (fun y hy => hx y (List.mem_cons_of_mem _ hy))⟩
/-- the chain along a list's start ends at one of it -/
theorem zt_lk_at {F : Int → Int} {B : List Int} : ∀ {A : List Int} {b : Int}, zt_lk F b (A ++ B) → zt_pt F b A ((b :: A).getLast (List.cons_ne_nil _ _)) := by
  intro A
  induction A with
  | nil => intro b _; rfl
  | cons x r ih =>
    intro b h
    refine ⟨h.1, ?_⟩
    rw [List.getLast_cons_cons]
    exact ih h.2
/-- the links of half a -/
def zt_nx (a : Nat) (h : zv_H) : Int → Int := fun x => zv_I h (a + 13) x.toNat
/-- a word's letters' numbers -/
def zt_sg (s m : Int) : List Int := (zm_rs s m).map zt_id
theorem zt_sg_len (s : Int) (m : Nat) : (zt_sg s m).length = m := by
  unfold zt_sg
  rw [List.length_map, zm_rs_len]
  omega
theorem zt_sg_get (s : Int) (m : Nat) {k : Nat} (hk : k < m) : (zt_sg s m)[k]? = some (zt_id (s, (k : Int))) := by
  unfold zt_sg
  rw [List.getElem?_map, zm_rs_get _ _ (by omega)]
  rfl
theorem zt_sg_t (s : Int) (m : Nat) {k : Nat} (hk : k < m) : (zt_sg s m).take (k + 1) = (zt_sg s m).take k ++ [zt_id (s, (k : Int))] := by
  rw [List.take_add_one, zt_sg_get s m hk]
  rfl
theorem zt_link31 {d : Nat} {a : Nat} {c : Nat → Int} {s : Int} {m : Nat} (hs : zm_st c s) (hm : zm_o c s 5 = m) (okl : ∀ k : Nat, k < m → zt_ok (s, (k : Int))) {h : zv_H} (b v : Int) (hb : 0 ≤ b ∧ b ≤ 604) (hd : (b :: zt_sg s m).Nodup) (F0 : Int → Int) : ∀ (n k : Nat) (x : Int) (g : zv_H), k + n = m → zt_L g → zt_U a c g → zt_o [a + 13] h g → (0 ≤ x ∧ x ≤ 604) → zt_pt (zt_nx a g) b ((zt_sg s m).take k) x → (∀ y : Int, 0 ≤ y → ¬ y ∈ b :: (zt_sg s m).take k → zt_nx a g y = F0 y) → zm_R (L4_link_31 (d + 1) (a + 8) (zt_r a s) x v k g) (zm_V fun h' => zt_o [a + 13] h h' ∧ ∃ e, zt_pt (zt_nx a h') b (zt_sg s m) e ∧ zt_nx a h' e = v ∧ ∀ y : Int, 0 ≤ y → ¬ y ∈ b :: zt_sg s m → zt_nx a h' y = F0 y) := by
  intro n
  induction n with
  | zero =>
    intro k x g hk gL U o hx hp hf
    have la := zt_U_la U
    have lr := zt_row_l la
    have lu := zt_r_l la hs.1
    have ek : k = m := by omega
    have et : (zt_sg s m).take k = zt_sg s m := List.take_of_length_le (by rw [zt_sg_len]; omega)
    rw [et] at hp hf
    rw [qL4_link_31, zm_e (zl_gI gL lu 9), zt_S_sz (zt_U_st U s hs), hm, if_neg (by omega), zm_e (zl_gF gL lr.1 4 5), show a + 8 + 5 = a + 13 from rfl, zm_e (zl_wI gL lr.2.2.2.2.2 hx.1 (by omega) v)]
    have gx : ∀ y : Int, 0 ≤ y → y ≠ x → zt_nx a (zv_sI g (a + 13) x.toNat v) y = zt_nx a g y := fun y hy hn => zy_In _ _ (fun q => hn (by omega))
    have hin : ∀ y ∈ b :: zt_sg s m, 0 ≤ y := fun y hy => by
      rcases List.mem_cons.mp hy with q | q
      · omega
      · unfold zt_sg at q
        obtain ⟨p, p1, p2⟩ := List.mem_map.mp q
        obtain ⟨p3, p4, p5⟩ := zm_rs_mem.mp p1
        have := (zt_id_r (okl p.2.toNat (by omega))).1
        rw [← p2, show p = (s, ((p.2.toNat : Nat) : Int)) from Prod.ext p3 (by dsimp only; omega)]
        exact this
    refine zm_iV ⟨zt_o_I o (zt_c2 _) _ _, x, zt_pt_fr hp hd (fun y hy hn => gx y (hin y hy) hn), zy_I _ _ _ _, fun y hy hn => ?_⟩
    have yx : y ≠ x := fun q => hn (by rw [q]; exact zt_pt_m hp)
    exact (gx y hy yx).trans (hf y hy hn)
  | succ n ih =>
    intro k x g hk gL U o hx hp hf
    have la := zt_U_la U
    have lr := zt_row_l la
    have lu := zt_r_l la hs.1
    have hs1 := hs.1
    have hnr : zv_I g (zt_r a s) 0 = s := by
      rw [zt_r_p hs.1.1, zt_U_nr U _ (by omega)]
      omega
    have ok := okl k (by omega)
    have idr := zt_id_r ok
    have hl13 : zv_lay (a + 13) = (2, 605) := lr.2.2.2.2.2
    have k1000 : (0 : Int) ≤ k ∧ (k : Int) < 1000 := by
      rcases ok with q | q
      · dsimp only at q; omega
      · dsimp only at q; omega
    rw [qL4_link_31, zm_e (zl_gI gL lu 9), zt_S_sz (zt_U_st U s hs), hm, if_pos (by omega), zm_e (zl_gI gL lu 0), hnr, zm_e (zt_C4_id hs.1 k1000)]
    dsimp only
    rw [zm_e (zt_C4_isId _)]
    dsimp only
    rw [if_pos idr, if_neg (by decide), zm_e (zl_gF gL lr.1 4 5), show a + 8 + 5 = a + 13 from rfl, zm_e (zl_wI gL hl13 hx.1 (by omega) _), zm_w (by omega), show (k : Int) + 1 = ((k + 1 : Nat) : Int) by omega]
    have gx : ∀ y : Int, 0 ≤ y → y ≠ x → zt_nx a (zv_sI g (a + 13) x.toNat (zt_id (s, (k : Int)))) y = zt_nx a g y := fun y hy hn => zy_In _ _ (fun q => hn (by omega))
    have hsub : ∀ y ∈ b :: (zt_sg s m).take k, y ∈ b :: zt_sg s m := fun y hy => by
      rcases List.mem_cons.mp hy with q | q
      · rw [q]; exact List.mem_cons_self
      · exact List.mem_cons_of_mem _ (List.mem_of_mem_take q)
    have hin : ∀ y ∈ b :: zt_sg s m, 0 ≤ y := fun y hy => by
      rcases List.mem_cons.mp hy with q | q
      · omega
      · unfold zt_sg at q
        obtain ⟨p, p1, p2⟩ := List.mem_map.mp q
        obtain ⟨p3, p4, p5⟩ := zm_rs_mem.mp p1
        have := (zt_id_r (okl p.2.toNat (by omega))).1
        rw [← p2, show p = (s, ((p.2.toNat : Nat) : Int)) from Prod.ext p3 (by dsimp only; omega)]
        exact this
    have hdk : (b :: (zt_sg s m).take k).Nodup := by
      have := List.nodup_cons.mp hd
      refine List.nodup_cons.mpr ⟨fun q => this.1 (List.mem_of_mem_take q), this.2.sublist (List.take_sublist _ _)⟩
    have oq : zt_q g (zv_sI g (a + 13) x.toNat (zt_id (s, (k : Int)))) := zt_q_sI _ (zt_xa la (by omega))
    refine ih (k + 1) _ _ (by omega) gL (zt_U_q U oq) (zt_o_I o (zt_c2 _) _ _) (by omega) ?_ (fun y hy hn => ?_)
    · rw [zt_sg_t s m (by omega)]
      exact zt_pt_a (zt_pt_fr hp hdk (fun y hy hn => gx y (hin y (hsub y hy)) hn)) (zy_I _ _ _ _)
    · rw [zt_sg_t s m (by omega)] at hn
      have hn1 : ¬ y ∈ b :: (zt_sg s m).take k := fun q => hn (by
        rcases List.mem_cons.mp q with z | z
        · rw [z]; exact List.mem_cons_self
        · exact List.mem_cons_of_mem _ (List.mem_append_left _ z))
      exact (gx y hy (fun q => hn1 (by rw [q]; exact zt_pt_m hp))).trans (hf y hy hn1)
/-- at work on the row of a line -/
def zt_B (a : Nat) (c : Nat → Int) (L : List Int) (h : zv_H) (g : zv_H) : Prop := (zt_L g) ∧ (zt_U a c g) ∧ (zt_q h g) ∧ (zt_wk a c L g)
theorem zt_B_L {a : Nat} {c : Nat → Int} {L : List Int} {h : zv_H} {g : zv_H} (t : zt_B a c L h g) : zt_L g := t.1
theorem zt_B_U {a : Nat} {c : Nat → Int} {L : List Int} {h : zv_H} {g : zv_H} (t : zt_B a c L h g) : zt_U a c g := t.2.1
theorem zt_B_q {a : Nat} {c : Nat → Int} {L : List Int} {h : zv_H} {g : zv_H} (t : zt_B a c L h g) : zt_q h g := t.2.2.1
theorem zt_B_wk {a : Nat} {c : Nat → Int} {L : List Int} {h : zv_H} {g : zv_H} (t : zt_B a c L h g) : zt_wk a c L g := t.2.2.2
theorem zt_B_I {a : Nat} {c : Nat → Int} {L : List Int} {h g : zv_H} (B : zt_B a c L h g) {r k : Nat} (v : Int) (hx : zt_x r k) (hn : ¬ (r = a + 8 ∧ k = 5)) : zt_B a c L h (zv_sI g r k v) := by
  have q := zt_q_sI (h := g) v hx
  have gL := zt_B_L B
  have p1 := zt_wk_pa (zt_B_wk B)
  have p2 := zt_wk_ac (zt_B_wk B)
  have p3 := zt_wk_fo (zt_B_wk B)
  refine ⟨gL, zt_U_q (zt_B_U B) q, zt_q_t (zt_B_q B) q, ?_, p1, p2, p3⟩
  rw [zy_In _ _ (fun q => hn ⟨q.1.symm, q.2.symm⟩)]
  exact zt_wk_ln (zt_B_wk B)
theorem zt_B_o {a : Nat} {c : Nat → Int} {L : List Int} {h g g2 : zv_H} (B : zt_B a c L h g) {r : Nat} (o : zt_o [r] g g2) (hx : ∀ k, zt_x r k) (hn : r ≠ a + 8) : zt_B a c L h g2 := by
  have q : zt_q g g2 := zt_o_q o (fun x hr k => by rw [List.mem_singleton.mp hr]; exact hx k)
  have e : g2.2.2 = g.2.2 := o.2.1
  refine ⟨zt_o_L o (zt_B_L B), zt_U_q (zt_B_U B) q, zt_q_t (zt_B_q B) q, ?_, fun k x hx => ?_, fun k hk => ?_, fun k hk => ?_⟩
  · rw [zt_o_i o (zt_c1 (fun q => hn q.symm))]
    exact zt_wk_ln (zt_B_wk B)
  · show g2.2.2.2.1 (a + 9) k = _
    rw [e]; exact zt_wk_pa (zt_B_wk B) k x hx
  · have : zv_J g2 (a + 8) 8 = zv_J g (a + 8) 8 := by
      show g2.2.2.1 (a + 8) 8 = _
      rw [e]; rfl
    rw [this]; exact zt_wk_ac (zt_B_wk B) k hk
  · have : zv_J g2 (a + 8) 9 = zv_J g (a + 8) 9 := by
      show g2.2.2.1 (a + 8) 9 = _
      rw [e]; rfl
    rw [this]; exact zt_wk_fo (zt_B_wk B) k hk
