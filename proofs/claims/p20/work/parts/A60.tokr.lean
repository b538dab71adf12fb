/-! ===== the tie: TOKENS, the reference ===== -/
def zt_sb (x : Int) : Int := if x < 128 then x else x - 256
/-- the text, in the reference's cells -/
def zt_ty (T : Nat → Int) (n : Nat) (h : zv_H) : Prop := (zm_M h) ∧ (n ≤ 700) ∧ (zv_I h 347 36 = n) ∧ (∀ i : Nat, i < n → zv_I h 366 i = zt_sb (T i)) ∧ (∀ i : Nat, i < n → 0 ≤ T i ∧ T i ≤ 255)
theorem zt_ty_M {T : Nat → Int} {n : Nat} {h : zv_H} (t : zt_ty T n h) : zm_M h := t.1
theorem zt_ty_n {T : Nat → Int} {n : Nat} {h : zv_H} (t : zt_ty T n h) : n ≤ 700 := t.2.1
theorem zt_ty_l {T : Nat → Int} {n : Nat} {h : zv_H} (t : zt_ty T n h) : zv_I h 347 36 = n := t.2.2.1
theorem zt_ty_t {T : Nat → Int} {n : Nat} {h : zv_H} (t : zt_ty T n h) : ∀ i : Nat, i < n → zv_I h 366 i = zt_sb (T i) := t.2.2.2.1
theorem zt_ty_b {T : Nat → Int} {n : Nat} {h : zv_H} (t : zt_ty T n h) : ∀ i : Nat, i < n → 0 ≤ T i ∧ T i ≤ 255 := t.2.2.2.2
/-- the word that is looked at, as a number: so many letters -/
def zt_cdw (T : Nat → Int) (f : Nat) : Nat → Int64
  | 0 => Int64.ofNat 0
  | j + 1 => (27 : Int64) * zt_cdw T f j + zv_i2l (T (f + j)) - 96
theorem zt_sb_in {x a b : Int} (h : 0 ≤ x ∧ x ≤ 255) (h1 : 0 ≤ a) (h2 : b ≤ 127) : (a ≤ zt_sb x ∧ zt_sb x ≤ b) ↔ (a ≤ x ∧ x ≤ b) := by
  unfold zt_sb
  by_cases c : x < 128
  · rw [if_pos c]
  · rw [if_neg c]
    omega
theorem zt_sb_eq {x a : Int} (h : 0 ≤ x ∧ x ≤ 255) (h1 : 0 ≤ a ∧ a ≤ 127) : zt_sb x = a ↔ x = a := by
  unfold zt_sb
  by_cases c : x < 128
  · rw [if_pos c]
  · rw [if_neg c]
    omega
theorem zt_sb_lt {x : Int} (h : x < 128) : zt_sb x = x := if_pos h
section
variable {T : Nat → Int} {n : Nat} {h : zv_H}
theorem zt_ty_r {h' : zv_H} (Y : zt_ty T n h) (f : zm_rF h h') : zt_ty T n h' := ⟨zm_F_M f (zt_ty_M Y), zt_ty_n Y, (zm_F_g f 36).trans (zt_ty_l Y), fun i hi => by rw [zm_F_a f 366]; exact zt_ty_t Y i hi, zt_ty_b Y⟩
theorem zt_isOf {d : Nat} (Y : zt_ty T n h) {a b : Int} (h1 : 0 ≤ a) (h2 : b ≤ 127) (x : Nat) : C9_isOf (d + 2) 347 (x : Int) a b h = some (if x < n ∧ a ≤ T x ∧ T x ≤ b then 1 else 0, h) := by
  have e36 := zt_ty_l Y
  rw [zm_isOf (zt_ty_M Y) d (Int.natCast_nonneg _) (by rw [e36]; exact Int.ofNat_le.mpr (zt_ty_n Y)) a b, e36, Int.toNat_natCast]
  by_cases c : x < n
  · rw [zt_ty_t Y x c]
    by_cases c2 : a ≤ T x ∧ T x ≤ b
    · rw [if_pos ⟨Int.ofNat_lt.mpr c, (zt_sb_in (zt_ty_b Y x c) h1 h2).mpr c2⟩, if_pos ⟨c, c2⟩]
    · rw [if_neg (fun q => c2 ((zt_sb_in (zt_ty_b Y x c) h1 h2).mp q.2)), if_neg (fun q => c2 q.2)]
  · rw [if_neg (fun q => c (Int.ofNat_lt.mp q.1)), if_neg (fun q => c q.1)]
theorem zt_aB8 (Y : zt_ty T n h) {x : Nat} (hx : x < n) : zv_aB h 366 (x : Int) = some (zt_sb (T x)) := by
  rw [zm_aB (zt_ty_M Y) zm_l366 (Or.inr rfl) rfl (Int.natCast_nonneg _) (Int.ofNat_lt.mpr (Nat.lt_of_lt_of_le hx (zt_ty_n Y))), Int.toNat_natCast, zt_ty_t Y x hx]
/-- the reference passes the blanks -/
theorem zt_rd8 {d : Nat} : ∀ (m e : Nat) (h : zv_H), e + m = n → zt_ty T n h → zv_I h 347 32 = e → ∃ (f : Nat) (h' : zv_H), L9_reads_8 d 347 h = L9_reads_60 d 347 h' ∧ zt_up zt_bk T n e f ∧ zm_rF h h' ∧ zv_I h' 347 32 = f := by
  intro m
  induction m with
  | zero =>
    intro e h he Y h5
    have en : e = n := he
    have hM := zt_ty_M Y
    refine ⟨e, h, ?_, zt_up_0 (Nat.le_of_eq en) (fun q => absurd q (by rw [en]; exact Nat.lt_irrefl _)), zm_F_r _ _ h, h5⟩
    rw [qL9_reads_8, zm_e (zm_gI hM 32), h5, zm_e (zm_gI hM 36), zt_ty_l Y, en, if_neg (Int.lt_irrefl _)]
  | succ m ih =>
    intro e h he Y h5
    have hM := zt_ty_M Y
    have n7 := zt_ty_n Y
    have en : e < n := by omega
    have e7 : e ≤ 700 := by omega
    have ba := zt_aB8 Y en
    have tb := zt_ty_b Y e en
    have st : zm_rF h (zv_sI h 347 32 ((e + 1 : Nat) : Int)) := zm_rF_f (zm_F_r _ _ h) (Or.inl rfl) _
    have go : zt_bk (T e) → L9_reads_8 d 347 h = L9_reads_8 d 347 (zv_sI h 347 32 ((e + 1 : Nat) : Int)) := fun c => by
      rw [qL9_reads_8, zm_e (zm_gI hM 32), h5, zm_e (zm_gI hM 36), zt_ty_l Y, if_pos (Int.ofNat_lt.mpr en), zm_e (zm_f26 hM), zm_e (zm_gI hM 32), h5, zm_e ba]
      by_cases c1 : T e = 10
      · rw [if_pos ((zt_sb_eq tb (by decide)).mpr c1), zm_e (zm_gI hM 32), h5, zt_tkw e7, zm_e (zm_pI hM 32 _)]
      · rw [if_neg (fun q => c1 ((zt_sb_eq tb (by decide)).mp q)), zm_e (zm_f26 hM), zm_e (zm_gI hM 32), h5, zm_e ba, if_pos ((zt_sb_eq tb (by decide)).mpr (c.resolve_right c1)), zm_e (zm_gI hM 32), h5, zt_tkw e7, zm_e (zm_pI hM 32 _)]
    by_cases c : zt_bk (T e)
    · obtain ⟨f, h', y1, y2, y3, y4⟩ := ih (e + 1) (zv_sI h 347 32 ((e + 1 : Nat) : Int)) (by omega) (zt_ty_r Y st) (zy_I _ _ _ _)
      exact ⟨f, h', (go c).trans y1, zt_up_s c y2, zm_rF_t st y3, y4⟩
    · refine ⟨e, h, ?_, zt_up_0 (Nat.le_of_lt en) (fun _ => c), zm_F_r _ _ h, h5⟩
      rw [qL9_reads_8, zm_e (zm_gI hM 32), h5, zm_e (zm_gI hM 36), zt_ty_l Y, if_pos (Int.ofNat_lt.mpr en), zm_e (zm_f26 hM), zm_e (zm_gI hM 32), h5, zm_e ba, if_neg (fun q => c (Or.inr ((zt_sb_eq tb (by decide)).mp q))), zm_e (zm_f26 hM), zm_e (zm_gI hM 32), h5, zm_e ba, if_neg (fun q => c (Or.inl ((zt_sb_eq tb (by decide)).mp q)))]
theorem zt_tkd {f x : Nat} (h1 : f ≤ x) (h2 : x ≤ 701) : zv_w ((x : Int) - (f : Int)) = ((x - f : Nat) : Int) := by
  rw [zm_w (by omega)]
  omega
/-- the reference passes a word -/
theorem zt_rd146 {d f : Nat} : ∀ (m x : Nat) (h : zv_H), x + m = n → f ≤ x → zt_ty T n h → zv_I h 347 32 = f → zv_I h 347 33 = x → zv_J h 347 38 = zt_cdw T f (min (x - f) 9) → (∀ i : Nat, f ≤ i → i < x → zt_sm (T i)) → ∃ (E : Nat) (h' : zv_H), L9_reads_146 (d + 2) 347 h = some (none, h') ∧ zt_up zt_sm T n f E ∧ zm_rF h h' ∧ zv_I h' 347 32 = f ∧ zv_I h' 347 33 = E ∧ zv_I h' 347 34 = zv_I h 347 34 ∧ zv_J h' 347 38 = zt_cdw T f (min (E - f) 9) := by
  intro m
  have stop : ∀ (x : Nat) (h : zv_H), f ≤ x → x ≤ n → zt_ty T n h → zv_I h 347 32 = f → zv_I h 347 33 = x → zv_J h 347 38 = zt_cdw T f (min (x - f) 9) → (∀ i : Nat, f ≤ i → i < x → zt_sm (T i)) → (x < n → ¬ zt_sm (T x)) → ∃ (E : Nat) (h' : zv_H), L9_reads_146 (d + 2) 347 h = some (none, h') ∧ zt_up zt_sm T n f E ∧ zm_rF h h' ∧ zv_I h' 347 32 = f ∧ zv_I h' 347 33 = E ∧ zv_I h' 347 34 = zv_I h 347 34 ∧ zv_J h' 347 38 = zt_cdw T f (min (E - f) 9) := by
    intro x h fx xn Y h2 h3 hJ hs c
    have hM := zt_ty_M Y
    refine ⟨x, h, ?_, ⟨fx, xn, hs, c⟩, zm_F_r _ _ h, h2, h3, rfl, hJ⟩
    have is := zt_isOf (d := d) Y (a := 97) (b := 122) (by decide) (by decide) x
    rw [if_neg (fun q => c q.1 q.2)] at is
    rw [qL9_reads_146, zm_e (zm_gI hM 33), h3, zm_e is]
    dsimp only
    rw [if_pos rfl]
  induction m with
  | zero =>
    intro x h he fx Y h2 h3 hJ hs
    have en : x = n := he
    exact stop x h fx (Nat.le_of_eq en) Y h2 h3 hJ hs (fun q => absurd q (by rw [en]; exact Nat.lt_irrefl _))
  | succ m ih =>
    intro x h he fx Y h2 h3 hJ hs
    have hM := zt_ty_M Y
    have n7 := zt_ty_n Y
    have xn : x < n := by omega
    have x7 : x ≤ 700 := by omega
    by_cases c : zt_sm (T x)
    · have is := zt_isOf (d := d) Y (a := 97) (b := 122) (by decide) (by decide) x
      rw [if_pos ⟨xn, c⟩] at is
      have e128 : T x < 128 := Int.lt_of_le_of_lt c.2 (by decide)
      have ba := zt_aB8 Y xn
      rw [zt_sb_lt e128] at ba
      have hs' : ∀ i : Nat, f ≤ i → i < x + 1 → zt_sm (T i) := fun i h1 h2 => by
        by_cases z : i = x
        · rw [z]; exact c
        · exact hs i h1 (by omega)
      have nx : ∀ v : Int64, v = zt_cdw T f (min (x + 1 - f) 9) → ∃ (E : Nat) (h' : zv_H), L9_reads_146 (d + 2) 347 (zv_sI (zv_sJ h 347 38 v) 347 33 ((x + 1 : Nat) : Int)) = some (none, h') ∧ zt_up zt_sm T n f E ∧ zm_rF h h' ∧ zv_I h' 347 32 = f ∧ zv_I h' 347 33 = E ∧ zv_I h' 347 34 = zv_I h 347 34 ∧ zv_J h' 347 38 = zt_cdw T f (min (E - f) 9) := fun v hv => by
        have st : zm_rF h (zv_sI (zv_sJ h 347 38 v) 347 33 ((x + 1 : Nat) : Int)) := zm_rF_f (zm_F_k (zm_F_r _ _ h) rfl _) (Or.inr (Or.inl rfl)) _
        obtain ⟨E, h', y1, y2, y3, y4, y5, y6, y7⟩ := ih (x + 1) _ (by omega) (Nat.le_succ_of_le fx) (zt_ty_r Y st) ((zy_In _ _ (fun q => absurd q.2 (by decide))).trans h2) (zy_I _ _ _ _) ((zm_sJJ h v).trans hv) hs'
        exact ⟨E, h', y1, y2, zm_rF_t st y3, y4, y5, y6.trans (zy_In _ _ (fun q => absurd q.2 (by decide))), y7⟩
      have hM1 : ∀ v : Int64, zm_M (zv_sJ h 347 38 v) := fun v => zm_F_M (zm_F_k (zm_F_r [] [38] h) rfl v) hM
      have e33 : ∀ v : Int64, zv_I (zv_sJ h 347 38 v) 347 33 = x := fun _ => h3
      by_cases c9 : x - f < 9
      · obtain ⟨E, h', y1, y2⟩ := nx ((27 : Int64) * zv_J h 347 38 + zv_i2l (T x) - 96) (by
          rw [hJ, Nat.min_eq_left (Nat.le_of_lt c9), Nat.min_eq_left (show x + 1 - f ≤ 9 by omega), show x + 1 - f = (x - f) + 1 by omega]
          show _ = (27 : Int64) * zt_cdw T f (x - f) + zv_i2l (T (f + (x - f))) - 96
          rw [Nat.add_sub_cancel' fx])
        refine ⟨E, h', ?_, y2⟩
        rw [qL9_reads_146, zm_e (zm_gI hM 33), h3, zm_e is]
        dsimp only
        rw [if_neg (by decide), zm_e (zm_gI hM 33), h3, zm_e (zm_gI hM 32), h2, zt_tkd fx (Nat.le_succ_of_le x7), if_pos (show ((x - f : Nat) : Int) < 9 from Int.ofNat_lt.mpr c9), zm_e (zm_gJ hM 38), zm_e (zm_f26 hM), zm_e (zm_gI hM 33), h3, zm_e ba, zm_e (zm_pJ hM 38 _), zm_e (zm_gI (hM1 _) 33), e33, zt_tkw x7, zm_e (zm_pI (hM1 _) 33 _)]
        exact y1
      · obtain ⟨E, h', y1, y2⟩ := nx (zv_J h 347 38) (by
          rw [hJ, Nat.min_eq_right (Nat.not_lt.mp c9), Nat.min_eq_right (show 9 ≤ x + 1 - f by omega)])
        refine ⟨E, h', ?_, y2⟩
        rw [qL9_reads_146, zm_e (zm_gI hM 33), h3, zm_e is]
        dsimp only
        rw [if_neg (by decide), zm_e (zm_gI hM 33), h3, zm_e (zm_gI hM 32), h2, zt_tkd fx (Nat.le_succ_of_le x7), if_neg (show ¬ ((x - f : Nat) : Int) < 9 from fun q => c9 (Int.ofNat_lt.mp q)), zm_e (zm_gJ hM 38), zm_e (zm_pJ hM 38 _), zm_e (zm_gI (hM1 _) 33), e33, zt_tkw x7, zm_e (zm_pI (hM1 _) 33 _)]
        exact y1
    · exact stop x h fx (Nat.le_of_lt xn) Y h2 h3 hJ hs (fun _ => c)
end
