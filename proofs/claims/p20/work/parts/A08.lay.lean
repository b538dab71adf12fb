/-! ===== the tie: the row is laid ===== -/
theorem zt_link {d : Nat} {a : Nat} {c : Nat → Int} {s : Int} {m : Nat} (hs : zm_st c s) (hm : zm_o c s 5 = m) (okl : ∀ k : Nat, k < m → zt_ok (s, (k : Int))) {g : zv_H} (gL : zt_L g) (U : zt_U a c g) {A B : List Int} (hl : zt_lk (zt_nx a g) 604 (A ++ B)) (hd : (604 :: (A ++ (zt_sg s m ++ B))).Nodup) (hr : ∀ x ∈ A ++ B, 0 ≤ x) {b : Int} (hb : ((604 : Int) :: A).getLast (List.cons_ne_nil _ _) = b) (hv : (zv_I g (zt_r a s) 15 = b ∧ 0 ≤ b ∧ b < 604) ∨ (zv_I g (zt_r a s) 15 = -1 ∧ b = 604)) : zm_R (C4_link (d + 2) (a + 8) (zt_r a s) g) (fun h' => zt_o [a + 13] g h' ∧ zt_lk (zt_nx a h') 604 (A ++ (zt_sg s m ++ B))) := by
  have la := zt_U_la U
  have lr := zt_row_l la
  have lu := zt_r_l la hs.1
  have hb0 : 0 ≤ b ∧ b ≤ 604 := by rcases hv with q | q <;> omega
  have hpt := zt_lk_at hl
  rw [hb] at hpt
  have hbm : b ∈ 604 :: A := zt_pt_m hpt
  have hperm : (604 :: (A ++ B)).Nodup ∧ (b :: zt_sg s m).Nodup ∧ ∀ x ∈ 604 :: (A ++ B), ¬ x ∈ zt_sg s m := by
    have h1 := List.nodup_cons.mp hd
    have h2 := List.nodup_append.mp h1.2
    have h3 := List.nodup_append.mp h2.2.1
    have h4 : ∀ x ∈ 604 :: (A ++ B), ¬ x ∈ zt_sg s m := fun x hx q => by
      rcases List.mem_cons.mp hx with z | z
      · rw [z] at q
        exact h1.1 (List.mem_append_right _ (List.mem_append_left _ q))
      · rcases List.mem_append.mp z with z | z
        · exact h2.2.2 x z x (List.mem_append_left _ q) rfl
        · exact h3.2.2 x q x z rfl
    refine ⟨List.nodup_cons.mpr ⟨fun q => h1.1 ?_, List.nodup_append.mpr ⟨h2.1, h3.2.1, fun x hx y hy => h2.2.2 x hx y (List.mem_append_right _ hy)⟩⟩, List.nodup_cons.mpr ⟨h4 b ?_, h3.1⟩, h4⟩
    · rcases List.mem_append.mp q with z | z
      · exact List.mem_append_left _ z
      · exact List.mem_append_right _ (List.mem_append_right _ z)
    · rcases List.mem_cons.mp hbm with z | z
      · rw [z]; exact List.mem_cons_self
      · exact List.mem_cons_of_mem _ (List.mem_append_left _ z)
  have run : zm_R (L4_link_31 (d + 1) (a + 8) (zt_r a s) b (zt_nx a g b) 0 g) (zm_V fun h' => zt_o [a + 13] g h' ∧ zt_lk (zt_nx a h') 604 (A ++ (zt_sg s m ++ B))) := by
    refine zm_mono (zt_link31 (d := d) hs hm okl b (zt_nx a g b) hb0 hperm.2.1 (zt_nx a g) m 0 b g (Nat.zero_add _) gL U (zt_o_r _ _) hb0 rfl (fun _ _ _ => rfl)) ?_
    rintro ⟨ov, h'⟩ ⟨e0, o, e, p1, p2, p3⟩
    refine ⟨e0, o, zt_lk_ins p1 p2 hl hpt hperm.1 (fun x hx hn => p3 x ?_ (fun q => ?_))⟩
    · rcases List.mem_cons.mp hx with z | z
      · rw [z]; decide
      · exact hr x z
    · rcases List.mem_cons.mp q with z | z
      · exact hn z
      · exact hperm.2.2 x hx z
  refine zm_cV (fun e => lC4_link ⟨zl_n gL (zc_ly lr.1), lr.1⟩ e) ?_
  rw [qE4_link, zm_e (zl_gI gL lu 15), zm_e (zt_C4_isId _)]
  dsimp only
  rcases hv with q | q
  · rw [q.1, if_pos q.2, if_neg (by decide), zm_e (zl_gI gL lu 15), q.1, zm_e (zl_gF gL lr.1 4 5), show a + 8 + 5 = a + 13 from rfl, zm_e (zl_aI gL lr.2.2.2.2.2 hb0.1 (by omega))]
    exact run
  · rw [q.1, if_neg (show ¬ ((0 : Int) ≤ -1 ∧ (-1 : Int) < 604) by decide), if_pos rfl, zm_e (zl_gF gL lr.1 4 5), show a + 8 + 5 = a + 13 from rfl, zm_e (zl_aI gL lr.2.2.2.2.2 (by decide) (by decide))]
    rw [q.2] at run
    exact run
/-- letters of a row have numbers -/
theorem zt_row_ok {c : Nat → Int} {L : List Int} (ok : ∀ t ∈ L, zm_st c t) (g : zm_G0 c L) : ∀ p ∈ zm_row c L, zt_ok p := by
  intro p hp
  have h1 := zm_row_mem hp
  have h2 := (ok p.1 h1.1).1
  by_cases e : p.1 = 0
  · refine Or.inl ⟨e, h1.2.1, ?_⟩
    have := g.2.2.1
    rw [e] at h1
    omega
  · refine Or.inr ⟨by omega, h1.2.1, ?_⟩
    by_cases he : zm_ed c p.1
    · have := g.2.2.2.2 p.1 h1.1 e he
      omega
    · exfalso
      have key : ∀ L : List Int, p ∈ zm_row c L → p.1 ≠ 0 → L.getLast? = some 0 → zm_ed c p.1 := by
        intro L
        induction L with
        | nil => intro h; cases h
        | cons t b ih =>
          intro h h0 hl
          by_cases hb : b = []
          · subst hb
            have et : t = 0 := Option.some.inj hl
            rw [zm_row_1, zm_rs_mem, et] at h
            exact absurd h.1 h0
          · rw [zm_row_c c t hb] at h
            have hl' : b.getLast? = some 0 := by
              cases b with
              | nil => exact absurd rfl hb
              | cons u b => rw [List.getLast?_cons_cons] at hl; exact hl
            by_cases c1 : zm_o c t 2 = 0
            · rw [if_pos c1, zm_ins_mem] at h
              rcases h with h | h
              · exact ih h h0 hl'
              · rw [(zm_rs_mem.mp h).1]
                exact Or.inl c1
            · rw [if_neg c1] at h
              exact ih h h0 hl'
      exact he (key L hp e g.2.1)
theorem zt_map_nd {row : List (Int × Int)} (ok : ∀ p ∈ row, zt_ok p) (hd : row.Nodup) : (row.map zt_id).Nodup := by
  rw [List.Nodup, List.pairwise_map]
  have h2 : List.Pairwise (fun a b => a ≠ b ∧ zt_ok a ∧ zt_ok b) row := by
    induction row with
    | nil => exact List.Pairwise.nil
    | cons x r ih =>
      have h3 := List.nodup_cons.mp hd
      refine List.pairwise_cons.mpr ⟨fun y hy => ⟨fun e => h3.1 (by rw [e]; exact hy), ok x List.mem_cons_self, ok y (List.mem_cons_of_mem _ hy)⟩, ih (fun p hp => ok p (List.mem_cons_of_mem _ hp)) h3.2⟩
  exact h2.imp (fun h e => h.1 (zt_id_inj h.2.1 h.2.2 e))
/-- the row without what comes later -/
theorem zt_G0_suf {c : Nat → Int} {ap b : List Int} (hb : b ≠ []) (g : zm_G0 c (ap ++ b)) : zm_G0 c b := by
  obtain ⟨g1, g2, g3, g4, g5⟩ := g
  refine ⟨(List.nodup_append.mp g1).2.1, ?_, g3, g4, fun u hu => g5 u (List.mem_append_right _ hu)⟩
  rw [List.getLast?_append] at g2
  cases e9 : b.getLast? with
  | none => exact absurd (List.getLast?_eq_none_iff.mp e9) hb
  | some y => rw [e9] at g2; exact g2
/-- ids of the row of what is laid so far; nothing of nothing -/
def zt_rid (c : Nat → Int) (b : List Int) : List Int := (zm_row c b).map zt_id
theorem zt_sg_c (c : Nat → Int) (t : Int) {m : Nat} (hm : zm_o c t 5 = m) : (zm_rs t (zm_o c t 5)).map zt_id = zt_sg t m := by rw [hm]; rfl
theorem zt_lay16 {d : Nat} {h : zv_H} {a : Nat} {c : Nat → Int} {L : List Int} {s0 : Int} (hLn : zm_Ln c L s0) (ok : zt_ln_ok c L) (g0 : zm_G0 c L) {P : Option zv_V × zv_H → Prop} (fin : ∀ g, zt_B a c L h g → zt_lk (zt_nx a g) 604 (zt_rid c L) → zm_R (L4_lay_16 (d + 2) (a + 8) L.length g) P) : ∀ (ap b : List Int), ap.reverse ++ b = L → ∀ g, zt_B a c L h g → zt_lk (zt_nx a g) 604 (zt_rid c b) → zm_R (L4_lay_16 (d + 2) (a + 8) b.length g) P := by
  intro ap
  induction ap with
  | nil =>
    intro b e g B lk
    have e' : b = L := e
    subst e'
    exact fin g B lk
  | cons t ap ih =>
    intro b e g B lk
    have gL := zt_B_L B
    have U := zt_B_U B
    have wk := zt_B_wk B
    have e' : ap.reverse ++ (t :: b) = L := by rw [← e, List.reverse_cons, List.append_assoc]; rfl
    have mt : t ∈ L := by rw [← e']; exact List.mem_append_right _ List.mem_cons_self
    have st := ok.2.2.1 t mt
    have la := zt_U_la U
    have lr := zt_row_l la
    have lu := zt_r_l la st.1
    have len : b.length < L.length := by rw [← e', List.length_append, List.length_cons]; omega
    have l48 := ok.2.2.2
    have rd : zv_aR g (a + 9) (b.length : Int) = some (zt_r a t) := by
      rw [zl_aR gL lr.2.1 (by omega) (by omega), show ((b.length : Int)).toNat = b.length by omega, zt_wk_pa wk _ _ (zm_rev_at e)]
    have w1 : zv_w ((b.length : Int) + 1) = (((t :: b).length : Nat) : Int) := by rw [zm_w (by omega), List.length_cons]; rfl
    have gtb : zm_G0 c (t :: b) := zt_G0_suf (List.cons_ne_nil _ _) (by rw [e']; exact g0)
    have S := zt_U_st U t st
    have okb : ∀ u ∈ t :: b, zm_st c u := fun u hu => ok.2.2.1 u (by rw [← e']; exact List.mem_append_right _ hu)
    rw [qL4_lay_16, zm_e (zl_gI gL lr.1 5), zt_wk_ln wk, if_pos (by omega), zm_e (zl_gF gL lr.1 0 1), show a + 8 + 1 = a + 9 from rfl, zm_e rd, if_neg (zc_nz lu), zm_e (zl_gF gL lr.1 0 1), show a + 8 + 1 = a + 9 from rfl, zm_e rd, zm_e (zt_C5_brings gL lu), zt_S_ac S]
    dsimp only
    have keep : ∀ g2, zt_o [a + 13] g g2 → zt_B a c L h g2 := fun g2 o2 => zt_B_o B o2 (fun k => zt_xa la (by omega)) (by omega)
    by_cases hbr : zm_o c t 2 = 0 ∨ zm_o c t 2 = -1
    · rw [if_pos hbr, if_neg (by decide), zm_e (zl_gF gL lr.1 0 1), show a + 8 + 1 = a + 9 from rfl, zm_e rd]
      -- its size, its letters
      have sz : (0 ≤ zm_o c t 5) ∧ ∀ k : Nat, (k : Int) < zm_o c t 5 → zt_ok (t, (k : Int)) := by
        by_cases t0 : t = 0
        · have := gtb.2.2.1
          rw [t0]
          exact ⟨this.1, fun k hk => Or.inl ⟨rfl, by dsimp only; omega, by dsimp only; omega⟩⟩
        · have he : zm_ed c t := by
            rcases hbr with q | q
            · exact Or.inl q
            · exact absurd (zt_cw_s0 (zt_S_cw S) q) t0
          have := gtb.2.2.2.2 t List.mem_cons_self t0 he
          have h47 := st.1
          exact ⟨this.1, fun k hk => Or.inr ⟨by dsimp only; omega, by dsimp only; omega, by dsimp only; omega⟩⟩
      obtain ⟨m, hm⟩ : ∃ m : Nat, zm_o c t 5 = m := ⟨(zm_o c t 5).toNat, by omega⟩
      have okl : ∀ k : Nat, k < m → zt_ok (t, (k : Int)) := fun k hk => sz.2 k (by omega)
      have go : ∀ (A B : List Int) (b' : Int), zt_rid c b = A ++ B → zt_rid c (t :: b) = A ++ (zt_sg t m ++ B) → ((604 : Int) :: A).getLast (List.cons_ne_nil _ _) = b' → ((zv_I g (zt_r a t) 15 = b' ∧ 0 ≤ b' ∧ b' < 604) ∨ (zv_I g (zt_r a t) 15 = -1 ∧ b' = 604)) → zm_R ((C4_link (d + 2) (a + 8) (zt_r a t) g).bind fun g9 => L4_lay_16 (d + 2) (a + 8) (zv_w ((b.length : Int) + 1)) g9) P := by
        intro A B b' e1 e2 e3 hv
        have okr := zt_row_ok okb gtb
        have nd : (zt_rid c (t :: b)).Nodup := zt_map_nd okr (zm_row_nd gtb.1)
        have rg : ∀ x ∈ zt_rid c (t :: b), 0 ≤ x ∧ x < 604 := fun x hx => by
          obtain ⟨p, p1, p2⟩ := List.mem_map.mp hx
          rw [← p2]
          exact zt_id_r (okr p p1)
        rw [e1] at lk
        rw [e2] at nd rg
        obtain ⟨g2, f1, f2, f3⟩ := zt_link (d := d) st hm okl gL U lk (List.nodup_cons.mpr ⟨fun q => by have := (rg 604 q).2; omega, nd⟩) (fun x hx => (rg x (by
          rcases List.mem_append.mp hx with z | z
          · exact List.mem_append_left _ z
          · exact List.mem_append_right _ (List.mem_append_right _ z))).1) e3 hv
        rw [zm_e f1, w1]
        exact ih (t :: b) e' g2 (keep g2 f2) (by rw [e2]; exact f3)
      by_cases hb : b = []
      · subst hb
        have t0 : t = 0 := Option.some.inj gtb.2.1
        refine go [] [] 604 rfl ?_ rfl (Or.inr ⟨?_, rfl⟩)
        · show (zm_row c [t]).map zt_id = _
          rw [zm_row_1, zt_sg_c c t hm, List.nil_append, List.append_nil]
        · rw [zt_S_an S, if_neg (fun q => ?_)]
          have := gtb.2.2.2.1
          rw [t0] at q
          omega
      · have t0 := (zm_G0_t hb gtb).2.1
        have c1 : zm_o c t 2 = 0 := by
          rcases hbr with q | q
          · exact q
          · exact absurd (zt_cw_s0 (zt_S_cw S) q) t0
        have er : zt_rid c (t :: b) = (zt_rid c b).take (zm_ps c t (zm_row c b)).toNat ++ (zt_sg t m ++ (zt_rid c b).drop (zm_ps c t (zm_row c b)).toNat) := by
          unfold zt_rid
          rw [zm_row_c c t hb, if_pos c1, zm_ins_e, List.map_append, List.map_append, zt_sg_c c t hm, List.map_take, List.map_drop]
        by_cases c2 : zm_o c t 8 < 0
        · have ep : zm_ps c t (zm_row c b) = 0 := if_pos c2
          rw [ep] at er
          refine go [] (zt_rid c b) 604 rfl er rfl (Or.inr ⟨?_, rfl⟩)
          rw [zt_S_an S, if_neg (fun q => by omega)]
        · have ep : zm_ps c t (zm_row c b) = zm_at (zm_row c b) (zm_o c t 8, zm_o c t 9) + 1 := if_neg c2
          have hLt : zm_Ln c (t :: b) t := by
            obtain ⟨x, y, x1, x2⟩ := zm_Ln_s hLn t mt
            have : x ++ t :: y = ap.reverse ++ (t :: b) := x1.symm.trans e'.symm
            have nd := ok.1
            have hy : y = b := by
              rw [x1] at nd
              have h1 : (x ++ t :: y).dropWhile (fun z => z != t) = t :: y := by
                have nx : ∀ z ∈ x, (z != t) = true := fun z hz => by
                  have := (List.nodup_append.mp nd).2.2 z hz t List.mem_cons_self
                  simpa using this
                rw [List.dropWhile_append_of_pos nx]
                simp
              have nd2 := ok.1
              rw [← e'] at nd2
              have h2 : (ap.reverse ++ t :: b).dropWhile (fun z => z != t) = t :: b := by
                have nx : ∀ z ∈ ap.reverse, (z != t) = true := fun z hz => by
                  have := (List.nodup_append.mp nd2).2.2 z hz t List.mem_cons_self
                  simpa using this
                rw [List.dropWhile_append_of_pos nx]
                simp
              rw [this, h2] at h1
              exact ((List.cons.inj h1).2).symm
            rw [← hy]
            exact x2
          have han := zt_cw_an (zt_S_cw S) b hLt c1 (by omega)
          have hat := zm_at_mem han
          have hge := zm_at_ge (zm_o c t 8, zm_o c t 9) (zm_row c b)
          generalize hq : (zm_at (zm_row c b) (zm_o c t 8, zm_o c t 9)).toNat = n at hat
          have en : (zm_ps c t (zm_row c b)).toNat = n + 1 := by omega
          rw [en] at er
          have okb2 : zt_ok (zm_o c t 8, zm_o c t 9) := zt_row_ok (fun u hu => okb u (List.mem_cons_of_mem _ hu)) (zm_G0_t hb gtb).1 _ han
          have et : (zt_rid c b).take (n + 1) = (zt_rid c b).take n ++ [zt_id (zm_o c t 8, zm_o c t 9)] := by
            rw [List.take_add_one]
            unfold zt_rid
            rw [List.getElem?_map, hat.2]
            rfl
          refine go _ _ (zt_id (zm_o c t 8, zm_o c t 9)) (List.take_append_drop _ _).symm er ?_ (Or.inl ⟨?_, zt_id_r okb2⟩)
          · have gl : ∀ (l : List Int) (x y : Int) (h : x :: (l ++ [y]) ≠ []), (x :: (l ++ [y])).getLast h = y := fun l x y h => List.getLast_concat (l := x :: l)
            have : ∀ (l : List Int) (h : (604 : Int) :: l ≠ []), l = (zt_rid c b).take n ++ [zt_id (zm_o c t 8, zm_o c t 9)] → ((604 : Int) :: l).getLast h = zt_id (zm_o c t 8, zm_o c t 9) := fun l h el => by
              subst el
              exact gl _ _ _ _
            exact this _ _ et
          · rw [zt_S_an S, if_pos ⟨c1, by omega⟩]
    · rw [if_neg hbr, if_pos rfl, w1]
      refine ih (t :: b) e' g B ?_
      have hb : b ≠ [] := fun hb => by
        subst hb
        have t0 : t = 0 := Option.some.inj gtb.2.1
        exact hbr (Or.inr (by rw [t0]; exact gtb.2.2.2.1))
      have er : zt_rid c (t :: b) = zt_rid c b := by
        unfold zt_rid
        rw [zm_row_c c t hb, if_neg (fun q => hbr (Or.inl q))]
      rw [er]
      exact lk
