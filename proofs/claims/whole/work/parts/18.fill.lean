/-- where words stand in a line -/
def la_s1 (l wd sl gp st : Int32) (n : Nat) : Int32 := if st = 0 then l + (wd + 1) else if sl - sl / gp * gp ≤ nI n then l + (wd + 1) + (sl / gp + 0) else l + (wd + 1) + (sl / gp + 1)
def la_po (a : Nat → Int32) (vw : Int32) (rw : Nat → Int32) (p : Nat) (sl gp st l0 : Int32) (f : Nat) : Nat → Int32 × Nat
  | 0 => (l0, 0)
  | m + 1 => if la_sh a vw p (f + m) = true then (la_s1 (la_po a vw rw p sl gp st l0 f m).1 (la_wd a rw p (f + m)) sl gp st (la_po a vw rw p sl gp st l0 f m).2, (la_po a vw rw p sl gp st l0 f m).2 + 1) else la_po a vw rw p sl gp st l0 f m
def la_al (a : Nat → Int32) (vw : Int32) (rw : Nat → Int32) (p k : Nat) : Int32 := if dc_v a p 6 = 1 then la_l0 a p k + la_sl a vw rw p k else if dc_v a p 6 = 2 then la_l0 a p k + la_sl a vw rw p k / 2 else la_l0 a p k
def la_sp (a : Nat → Int32) (vw : Int32) (rw : Nat → Int32) (p k : Nat) : Int32 := if dc_v a p 6 = 3 ∧ 1 < la_t a vw rw p k ∧ k + 1 < la_nl a vw rw p then 1 else 0
def la_ps (a : Nat → Int32) (vw : Int32) (rw : Nat → Int32) (p k w : Nat) : Int32 :=
  (la_po a vw rw p (la_sl a vw rw p k) (nI (la_t a vw rw p k) - 1) (la_sp a vw rw p k) (la_al a vw rw p k) (la_f a vw rw p k) (w - la_f a vw rw p k)).1
theorem la_poC {a rw : Nat → Int32} {vw sl gp st l0 : Int32} {p f : Nat} : ∀ {m : Nat}, (la_po a vw rw p sl gp st l0 f m).2 = la_cn a vw p f m
  | 0 => rfl
  | m + 1 => by
    by_cases h : la_sh a vw p (f + m) = true
    · have e : la_po a vw rw p sl gp st l0 f (m + 1) = _ := if_pos h
      rw [e]; show (la_po a vw rw p sl gp st l0 f m).2 + 1 = la_cn a vw p f m + _
      rw [if_pos h, la_poC]
    · have e : la_po a vw rw p sl gp st l0 f (m + 1) = _ := if_neg h
      rw [e]; show (la_po a vw rw p sl gp st l0 f m).2 = la_cn a vw p f m + _
      rw [if_neg h, la_poC]; rfl
/-- what is written for the shown words of a line -/
def la_wr (a : Nat → Int32) (vw : Int32) (p : Nat) (g val : Nat → Int32) (f : Nat) : Nat → Nat → Int32
  | 0 => g
  | m + 1 => if la_sh a vw p (f + m) = true then upd (la_wr a vw p g val f m) (16 * p + (f + m)) (val (f + m)) else la_wr a vw p g val f m
theorem la_wrO {a g val : Nat → Int32} {vw : Int32} {p f i : Nat} : ∀ {m : Nat}, (∀ v, f ≤ v → v < f + m → la_sh a vw p v = true → i ≠ 16 * p + v) → la_wr a vw p g val f m i = g i
  | 0, _ => rfl
  | m + 1, h => by
    by_cases c : la_sh a vw p (f + m) = true
    · have e : la_wr a vw p g val f (m + 1) = _ := if_pos c
      rw [e, pk_un (h _ (by omega) (by omega) c)]
      exact la_wrO fun v h1 h2 h3 => h v h1 (by omega) h3
    · have e : la_wr a vw p g val f (m + 1) = _ := if_neg c
      rw [e]
      exact la_wrO fun v h1 h2 h3 => h v h1 (by omega) h3
theorem la_wrI {a g val : Nat → Int32} {vw : Int32} {p f v : Nat} (hs : la_sh a vw p v = true) (h1 : f ≤ v) : ∀ {m : Nat}, v < f + m → la_wr a vw p g val f m (16 * p + v) = val v
  | 0, h => absurd h (by omega)
  | m + 1, h => by
    by_cases c : la_sh a vw p (f + m) = true
    · have e : la_wr a vw p g val f (m + 1) = _ := if_pos c
      rw [e]
      by_cases q : v = f + m
      · subst q; rw [pk_us]
      · rw [pk_un (by omega)]; exact la_wrI hs h1 (by omega)
    · have e : la_wr a vw p g val f (m + 1) = _ := if_neg c
      rw [e]
      have q : v ≠ f + m := fun q => c (q ▸ hs)
      exact la_wrI hs h1 (by omega)
theorem la_wrE {a g val : Nat → Int32} {vw : Int32} {p f m : Nat} : ∀ {k : Nat}, la_cn a vw p (f + m) k = 0 → la_wr a vw p g val f (m + k) = la_wr a vw p g val f m
  | 0, _ => rfl
  | k + 1, h => by
    have h' : la_cn a vw p (f + m) k + (if la_sh a vw p (f + m + k) = true then 1 else 0) = 0 := h
    have c : ¬ la_sh a vw p (f + (m + k)) = true := fun c => by rw [show f + m + k = f + (m + k) from by omega, if_pos c] at h'; omega
    have e : la_wr a vw p g val f (m + k + 1) = _ := if_neg c
    show la_wr a vw p g val f (m + k + 1) = _
    rw [e]; exact la_wrE (by omega)
/-- heights -/
def la_nd (a : Nat → Int32) (vw : Int32) (rw : Nat → Int32) (p k : Nat) : Int32 := dc_v a p 5 + la_no a vw rw p k
def la_hs (a : Nat → Int32) (vw : Int32) (rw : Nat → Int32) (p : Nat) : Nat → Int32
  | 0 => 0
  | n + 1 => la_hs a vw rw p n + la_nd a vw rw p n
def la_sn (a : Nat → Int32) (vw : Int32) (rw : Nat → Int32) (p : Nat) : Nat → Int32
  | 0 => 0
  | n + 1 => la_sn a vw rw p n + la_no a vw rw p n
theorem la_hsn {a rw : Nat → Int32} {vw : Int32} {p : Nat} : ∀ {n : Nat}, nI n * dc_v a p 5 + la_sn a vw rw p n = la_hs a vw rw p n
  | 0 => by show nI 0 * dc_v a p 5 + 0 = 0; rw [nI_0, Int32.zero_mul, Int32.add_zero]
  | n + 1 => by
    show nI (n + 1) * dc_v a p 5 + (la_sn a vw rw p n + la_no a vw rw p n) = la_hs a vw rw p n + (dc_v a p 5 + la_no a vw rw p n)
    rw [← la_hsn, ← nI_1, Int32.add_mul, Int32.one_mul]
    generalize nI n * dc_v a p 5 = x
    generalize dc_v a p 5 = y
    generalize la_sn a vw rw p n = z
    generalize la_no a vw rw p n = t
    rw [Int32.add_assoc, Int32.add_assoc, ← Int32.add_assoc y z t, Int32.add_comm y z, Int32.add_assoc z y t]
def la_gb (a : Nat → Int32) (p : Nat) : Int32 := if p = 0 then 0 else if dc_v a (p - 1) 4 ≤ dc_v a p 3 then dc_v a p 3 else dc_v a (p - 1) 4
def la_sf (a : Nat → Int32) (vw : Int32) (rw : Nat → Int32) (p : Nat) : Bool := if dc_v a p 8 = 1 then true else if dc_v a p 11 = 1 then decide (la_nl a vw rw p < 4) else false
def la_hd (a : Nat → Int32) (vw : Int32) (rw : Nat → Int32) (p : Nat) : Nat := if la_sf a vw rw p = true then la_nl a vw rw p else if dc_v a p 11 = 1 then 2 else 1
def la_gr (a : Nat → Int32) (vw : Int32) (rw : Nat → Int32) : Nat → Nat → Int32
  | 0, p => la_hs a vw rw p (la_hd a vw rw p)
  | d + 1, p => if dc_v a p 9 = 1 then la_hs a vw rw p (la_nl a vw rw p) + la_gb a (p + 1) + la_gr a vw rw d (p + 1) else la_hs a vw rw p (la_hd a vw rw p)
theorem la_hdB {a rw : Nat → Int32} {vw : Int32} {p : Nat} (h16 : dc_w a p ≤ 16) : la_hd a vw rw p ≤ la_nl a vw rw p := by
  have h1 := (la_nlP (a := a) (rw := rw) (vw := vw) h16).1
  unfold la_hd
  split
  · exact Nat.le_refl _
  · rename_i c
    unfold la_sf at c
    split
    · rename_i c2
      rw [if_pos c2] at c
      split at c
      · exact absurd rfl c
      · have : ¬ la_nl a vw rw p < 4 := fun z => c (decide_eq_true z)
        omega
    · exact h1
/-- columns being filled: how many, first paragraphs, first lines, lines, notes, fillings; lines' columns and tops -/
abbrev la_F : Type := Nat × (Nat → Int32) × (Nat → Int32) × (Nat → Int32) × (Nat → Int32) × (Nat → Int32) × (Nat → Int32) × (Nat → Int32)
def la_new (S : la_F) (p k : Nat) : la_F := (S.1 + 1, upd S.2.1 S.1 (nI p), upd S.2.2.1 S.1 (nI k), upd S.2.2.2.1 S.1 0, upd S.2.2.2.2.1 S.1 0, upd S.2.2.2.2.2.1 S.1 0, S.2.2.2.2.2.2.1, S.2.2.2.2.2.2.2)
def la_ga (a : Nat → Int32) (S : la_F) (p k : Nat) : Int32 := if k = 0 then (if S.2.2.2.1 (S.1 - 1) ≤ 0 then 0 else la_gb a p) else 0
def la_put (a : Nat → Int32) (vw : Int32) (rw : Nat → Int32) (S : la_F) (p k : Nat) : la_F :=
  (S.1, S.2.1, S.2.2.1, upd S.2.2.2.1 (S.1 - 1) (S.2.2.2.1 (S.1 - 1) + 1), upd S.2.2.2.2.1 (S.1 - 1) (S.2.2.2.2.1 (S.1 - 1) + la_no a vw rw p k),
    upd S.2.2.2.2.2.1 (S.1 - 1) (S.2.2.2.2.2.1 (S.1 - 1) + la_ga a S p k + dc_v a p 5), upd S.2.2.2.2.2.2.1 (16 * p + k) (nI (S.1 - 1)), upd S.2.2.2.2.2.2.2 (16 * p + k) (S.2.2.2.2.2.1 (S.1 - 1) + la_ga a S p k))
def la_fh (a : Nat → Int32) (S : la_F) : Int32 := a 2 - S.2.2.2.2.2.1 (S.1 - 1) - S.2.2.2.2.1 (S.1 - 1)
def la_op (a : Nat → Int32) (vw : Int32) (rw : Nat → Int32) (S : la_F) (p : Nat) : Bool := if p = 0 then true else if dc_v a p 10 = 1 then true else
  !decide ((if a 2 < la_gr a vw rw (dc_n a - 1 - p) p then la_hs a vw rw p (la_hd a vw rw p) else la_gr a vw rw (dc_n a - 1 - p) p) ≤ la_fh a S - la_gb a p)
def la_tu (a : Nat → Int32) (vw : Int32) (rw : Nat → Int32) (S : la_F) (p k : Nat) : Bool := if 0 ≤ la_fh a S - dc_v a p 5 - la_no a vw rw p k then
    (if k + 2 = la_nl a vw rw p then (if dc_v a p 11 = 0 then false else if la_sf a vw rw p = true then false else !decide (dc_v a p 5 + la_no a vw rw p (k + 1) ≤ la_fh a S - dc_v a p 5 - la_no a vw rw p k)) else false)
  else true
def la_is (a : Nat → Int32) (vw : Int32) (rw : Nat → Int32) (S : la_F) (p k : Nat) : Bool := if k = 0 then la_op a vw rw S p else la_tu a vw rw S p k
def la_ad (a : Nat → Int32) (vw : Int32) (rw : Nat → Int32) (S : la_F) (p k : Nat) : la_F := la_put a vw rw (if la_is a vw rw S p k = true then la_new S p k else S) p k
def la_fp (a : Nat → Int32) (vw : Int32) (rw : Nat → Int32) (S : la_F) (p : Nat) : Nat → la_F
  | 0 => S
  | k + 1 => la_ad a vw rw (la_fp a vw rw S p k) p k
def la_fl (a : Nat → Int32) (vw : Int32) (rw : Nat → Int32) : Nat → la_F
  | 0 => (0, fun _ => 0, fun _ => 0, fun _ => 0, fun _ => 0, fun _ => 0, fun _ => 0, fun _ => 0)
  | p + 1 => la_fp a vw rw (la_fl a vw rw p) p (la_nl a vw rw p)
/-- the pages that references name; rounds -/
def la_pg (a lC : Nat → Int32) (m : Nat) : Nat → Nat → Int32
  | 0, _ => 1
  | d + 1, p => if a (77 + 51 * p) = nI m then la_dg ((if a 3 = 2 then lC (16 * p) / 2 else lC (16 * p)) + 1) else la_pg a lC m d (p + 1)
def la_nx (a : Nat → Int32) (vw : Int32) (rw : Nat → Int32) : Nat → Int32 := fun m => la_pg a (la_fl a vw rw (dc_n a)).2.2.2.2.2.2.1 m (dc_n a) 0
def la_rf (a : Nat → Int32) (m : Nat) : Prop := ∃ p w, p < dc_n a ∧ w < dc_w a p ∧ a (79 + 51 * p + 3 * w) = -1 - nI m
def la_ch (a : Nat → Int32) (vw : Int32) (rw : Nat → Int32) : Prop := ∃ m, m < 8 ∧ la_nx a vw rw m ≠ rw m ∧ la_rf a m
def la_rk (a : Nat → Int32) (vw : Int32) : Nat → Nat → Int32
  | 0 => fun _ => 1
  | i + 1 => la_nx a vw (la_rk a vw i)
def la_fin (a : Nat → Int32) (vw : Int32) (r : Nat) : Prop := 1 ≤ r ∧ r ≤ 4 ∧ (∀ i, i + 1 < r → la_ch a vw (la_rk a vw i)) ∧ (r = 4 ∨ ¬ la_ch a vw (la_rk a vw (r - 1)))
theorem la_finU {a : Nat → Int32} {vw : Int32} {r s : Nat} (h : la_fin a vw r) (g : la_fin a vw s) : r = s := by
  obtain ⟨h1, h2, h3, h4⟩ := h
  obtain ⟨g1, g2, g3, g4⟩ := g
  rcases Nat.lt_trichotomy r s with z | z | z
  · rcases h4 with q | q
    · omega
    · exact absurd (g3 (r - 1) (by omega)) q
  · exact z
  · rcases g4 with q | q
    · omega
    · exact absurd (h3 (s - 1) (by omega)) q
