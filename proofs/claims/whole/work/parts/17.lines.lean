/-- line k of paragraph p: where it begins, its room, what it takes, where the lines begin, how many there are -/
def la_l0 (a : Nat → Int32) (p k : Nat) : Int32 := if k = 0 then dc_v a p 0 + (dc_v a p 2 + la_lw a p) else dc_v a p 0
def la_rm (a : Nat → Int32) (p k : Nat) : Int32 := if 1 ≤ la_cw a - dc_v a p 1 - la_l0 a p k then la_cw a - dc_v a p 1 - la_l0 a p k else 1
def la_fr (a : Nat → Int32) (vw : Int32) (rw : Nat → Int32) (p : Nat) : Nat → Nat
  | 0 => 0
  | k + 1 => (la_tl a vw rw p (la_rm a p k) (dc_w a p - la_fr a vw rw p k) (la_fr a vw rw p k) (dc_w a p) 0 0 0).1
def la_L (a : Nat → Int32) (vw : Int32) (rw : Nat → Int32) (p k : Nat) : Nat × Nat × Nat × Int32 × Int32 :=
  la_tl a vw rw p (la_rm a p k) (dc_w a p - la_fr a vw rw p k) (la_fr a vw rw p k) (dc_w a p) 0 0 0
/-- its first word, how many words, slack, notes -/
def la_f (a : Nat → Int32) (vw : Int32) (rw : Nat → Int32) (p k : Nat) : Nat := (la_L a vw rw p k).2.1
def la_t (a : Nat → Int32) (vw : Int32) (rw : Nat → Int32) (p k : Nat) : Nat := (la_L a vw rw p k).2.2.1
def la_sl (a : Nat → Int32) (vw : Int32) (rw : Nat → Int32) (p k : Nat) : Int32 := if (la_L a vw rw p k).2.2.2.1 ≤ la_rm a p k then la_rm a p k - (la_L a vw rw p k).2.2.2.1 else 0
def la_no (a : Nat → Int32) (vw : Int32) (rw : Nat → Int32) (p k : Nat) : Int32 := (la_L a vw rw p k).2.2.2.2
def la_nF (a : Nat → Int32) (vw : Int32) (rw : Nat → Int32) (p : Nat) : Nat → Nat → Nat
  | 0, k => k
  | d + 1, k => if la_fr a vw rw p k < dc_w a p then la_nF a vw rw p d (k + 1) else k
def la_nl (a : Nat → Int32) (vw : Int32) (rw : Nat → Int32) (p : Nat) : Nat := la_nF a vw rw p 15 1
section
variable {a rw : Nat → Int32} {vw : Int32} {p : Nat}
theorem la_frS {k : Nat} : la_fr a vw rw p (k + 1) = (la_L a vw rw p k).1 := rfl
theorem la_frW : ∀ (k : Nat), la_fr a vw rw p k ≤ dc_w a p
  | 0 => Nat.zero_le _
  | k + 1 => by
    have h := la_frW k
    have := (la_tl1 (a := a) (rw := rw) (vw := vw) (p := p) (rm := la_rm a p k) (dc_w a p - la_fr a vw rw p k) (la_fr a vw rw p k) (dc_w a p) 0 0 0).2.1
    show (la_tl a vw rw p (la_rm a p k) (dc_w a p - la_fr a vw rw p k) (la_fr a vw rw p k) (dc_w a p) 0 0 0).1 ≤ dc_w a p
    omega
theorem la_frM (k : Nat) : la_fr a vw rw p k ≤ la_fr a vw rw p (k + 1) :=
  (la_tl1 (a := a) (rw := rw) (vw := vw) (p := p) (rm := la_rm a p k) (dc_w a p - la_fr a vw rw p k) (la_fr a vw rw p k) (dc_w a p) 0 0 0).1
theorem la_frMM (j : Nat) : ∀ (m : Nat), la_fr a vw rw p j ≤ la_fr a vw rw p (j + m)
  | 0 => Nat.le_refl _
  | m + 1 => Nat.le_trans (la_frMM j m) (la_frM (j + m))
theorem la_frm {j k : Nat} (h : j ≤ k) : la_fr a vw rw p j ≤ la_fr a vw rw p k := by
  obtain ⟨m, rfl⟩ : ∃ m, k = j + m := ⟨k - j, by omega⟩
  exact la_frMM j m
theorem la_frP {k : Nat} (h : la_fr a vw rw p k < dc_w a p) : la_fr a vw rw p k < la_fr a vw rw p (k + 1) := by
  obtain ⟨d, hd⟩ : ∃ d, dc_w a p - la_fr a vw rw p k = d + 1 := ⟨dc_w a p - la_fr a vw rw p k - 1, by omega⟩
  rw [la_frS]; unfold la_L; rw [hd]; exact la_tl5
theorem la_frB : ∀ (k : Nat), k ≤ la_fr a vw rw p k ∨ la_fr a vw rw p k = dc_w a p
  | 0 => Or.inl (Nat.zero_le _)
  | k + 1 => by
    have hw := la_frW (a := a) (rw := rw) (vw := vw) (p := p) k
    have hw1 := la_frW (a := a) (rw := rw) (vw := vw) (p := p) (k + 1)
    have hm := la_frM (a := a) (rw := rw) (vw := vw) (p := p) k
    rcases Nat.lt_or_ge (la_fr a vw rw p k) (dc_w a p) with h | h
    · have := la_frP h
      rcases la_frB k with q | q <;> omega
    · right; omega
theorem la_frH {k : Nat} (h : la_fr a vw rw p (k + 1) < dc_w a p) : la_sh a vw p (la_fr a vw rw p (k + 1)) = true := by
  have hw := la_frW (a := a) (rw := rw) (vw := vw) (p := p) k
  exact ((la_tl1 (a := a) (rw := rw) (vw := vw) (p := p) (rm := la_rm a p k) (dc_w a p - la_fr a vw rw p k) (la_fr a vw rw p k) (dc_w a p) 0 0 0).2.2.1 (by
    have : (la_tl a vw rw p (la_rm a p k) (dc_w a p - la_fr a vw rw p k) (la_fr a vw rw p k) (dc_w a p) 0 0 0).1 < dc_w a p := h
    omega)).1
theorem la_tC {k : Nat} : la_t a vw rw p k = la_cn a vw p (la_fr a vw rw p k) (la_fr a vw rw p (k + 1) - la_fr a vw rw p k) := by
  have h := (la_tl1 (a := a) (rw := rw) (vw := vw) (p := p) (rm := la_rm a p k) (dc_w a p - la_fr a vw rw p k) (la_fr a vw rw p k) (dc_w a p) 0 0 0).2.2.2
  rw [Nat.zero_add] at h; exact h
theorem la_tB {k : Nat} (hw : dc_w a p ≤ 16) : la_t a vw rw p k ≤ 16 := by
  have h1 := la_frW (a := a) (rw := rw) (vw := vw) (p := p) (k + 1)
  rw [la_tC]; have := la_cnL (a := a) (vw := vw) (p := p) (w := la_fr a vw rw p k) (m := la_fr a vw rw p (k + 1) - la_fr a vw rw p k); omega
theorem la_noB (hv : dc_V a) (hp : p < 24) {k : Nat} : ∃ g, la_no a vw rw p k = nI g ∧ g ≤ 48 := by
  have hw := la_frW (a := a) (rw := rw) (vw := vw) (p := p) k
  obtain ⟨g, h1, h2⟩ := la_tln (vw := vw) (rw := rw) (rm := la_rm a p k) hv hp (dc_w a p - la_fr a vw rw p k) (la_fr a vw rw p k) (dc_w a p) 0 0 0 (by omega) ⟨0, rfl, by omega⟩
  have := la_tB (a := a) (rw := rw) (vw := vw) (p := p) (k := k) (dc_Vw hv hp).2
  exact ⟨g, h1, by unfold la_t la_L at this; omega⟩
/-- the first word of a line -/
theorem la_fC {k : Nat} : (la_t a vw rw p k = 0 ∧ la_f a vw rw p k = dc_w a p) ∨ (0 < la_t a vw rw p k ∧ la_fr a vw rw p k ≤ la_f a vw rw p k ∧ la_f a vw rw p k < la_fr a vw rw p (k + 1) ∧ ∀ v, la_fr a vw rw p k ≤ v → v < la_f a vw rw p k → ¬ la_sh a vw p v = true) :=
  la_tlF (a := a) (rw := rw) (vw := vw) (p := p) (rm := la_rm a p k) (dc_w a p - la_fr a vw rw p k) (la_fr a vw rw p k) (dc_w a p) 0 0
theorem la_fB {k : Nat} : la_f a vw rw p k ≤ dc_w a p := by
  have h1 := la_frW (a := a) (rw := rw) (vw := vw) (p := p) (k + 1)
  rcases la_fC (a := a) (rw := rw) (vw := vw) (p := p) (k := k) with h | h <;> omega
theorem la_f1 {k : Nat} (h : la_fr a vw rw p (k + 1) < dc_w a p) : la_f a vw rw p (k + 1) = la_fr a vw rw p (k + 1) ∧ 0 < la_t a vw rw p (k + 1) := by
  have hs := la_frH h
  have hp := la_frP h
  have ht : 0 < la_t a vw rw p (k + 1) := by
    rw [la_tC]
    rcases Nat.eq_zero_or_pos (la_cn a vw p (la_fr a vw rw p (k + 1)) (la_fr a vw rw p (k + 1 + 1) - la_fr a vw rw p (k + 1))) with z | z
    · exact absurd hs (la_cnZ z _ (Nat.le_refl _) (by omega))
    · exact z
  rcases la_fC (a := a) (rw := rw) (vw := vw) (p := p) (k := k + 1) with q | ⟨q1, q2, q3, q4⟩
  · omega
  · refine ⟨?_, ht⟩
    rcases Nat.eq_or_lt_of_le q2 with z | z
    · exact z.symm
    · exact absurd hs (q4 _ (Nat.le_refl _) z)
/-- how many lines -/
theorem la_nFP : ∀ (d k : Nat), (∀ j, 1 ≤ j → j < k → la_fr a vw rw p j < dc_w a p) → 1 ≤ k → d + k = 16 → dc_w a p ≤ 16 →
    (1 ≤ la_nF a vw rw p d k ∧ la_nF a vw rw p d k ≤ 16 ∧ (∀ j, 1 ≤ j → j < la_nF a vw rw p d k → la_fr a vw rw p j < dc_w a p) ∧ la_fr a vw rw p (la_nF a vw rw p d k) = dc_w a p)
  | 0, k, h, hk, hd, h16 => by
    show 1 ≤ k ∧ k ≤ 16 ∧ (∀ j, 1 ≤ j → j < k → la_fr a vw rw p j < dc_w a p) ∧ la_fr a vw rw p k = dc_w a p
    refine ⟨hk, by omega, h, ?_⟩
    have := la_frW (a := a) (rw := rw) (vw := vw) (p := p) k
    rcases la_frB (a := a) (rw := rw) (vw := vw) (p := p) k with q | q <;> omega
  | d + 1, k, h, hk, hd, h16 => by
    by_cases c : la_fr a vw rw p k < dc_w a p
    · have e : la_nF a vw rw p (d + 1) k = la_nF a vw rw p d (k + 1) := if_pos c
      rw [e]
      refine la_nFP d (k + 1) (fun j h1 h2 => ?_) (by omega) (by omega) h16
      by_cases q : j = k
      · subst q; exact c
      · exact h j h1 (by omega)
    · have e : la_nF a vw rw p (d + 1) k = k := if_neg c
      rw [e]
      have := la_frW (a := a) (rw := rw) (vw := vw) (p := p) k
      exact ⟨hk, by omega, h, by omega⟩
theorem la_nlP (h16 : dc_w a p ≤ 16) : 1 ≤ la_nl a vw rw p ∧ la_nl a vw rw p ≤ 16 ∧ (∀ j, 1 ≤ j → j < la_nl a vw rw p → la_fr a vw rw p j < dc_w a p) ∧ la_fr a vw rw p (la_nl a vw rw p) = dc_w a p :=
  la_nFP 15 1 (fun j h1 h2 => absurd h1 (by omega)) (by omega) (by omega) h16
theorem la_nlE (h16 : dc_w a p ≤ 16) {k : Nat} (hk : 1 ≤ k) (h1 : ∀ j, 1 ≤ j → j < k → la_fr a vw rw p j < dc_w a p) (h2 : la_fr a vw rw p k = dc_w a p) : la_nl a vw rw p = k := by
  obtain ⟨q1, q2, q3, q4⟩ := la_nlP (a := a) (rw := rw) (vw := vw) h16
  rcases Nat.lt_trichotomy (la_nl a vw rw p) k with z | z | z
  · have := h1 _ q1 z; omega
  · exact z
  · have := q3 k hk z; omega
/-- a word's line -/
theorem la_li (h16 : dc_w a p ≤ 16) {w : Nat} (hw : w < dc_w a p) : ∃ k, k < la_nl a vw rw p ∧ la_fr a vw rw p k ≤ w ∧ w < la_fr a vw rw p (k + 1) := by
  obtain ⟨q1, q2, q3, q4⟩ := la_nlP (a := a) (rw := rw) (vw := vw) h16
  have key : ∀ m, m ≤ la_nl a vw rw p → w < la_fr a vw rw p m → ∃ k, k < m ∧ la_fr a vw rw p k ≤ w ∧ w < la_fr a vw rw p (k + 1) := by
    intro m
    induction m with
    | zero => intro _ h; exact absurd h (by show ¬ w < 0; omega)
    | succ m ih =>
      intro hm h
      rcases Nat.lt_or_ge w (la_fr a vw rw p m) with z | z
      · obtain ⟨k, h1, h2, h3⟩ := ih (by omega) z
        exact ⟨k, by omega, h2, h3⟩
      · exact ⟨m, by omega, z, h⟩
  exact key _ (Nat.le_refl _) (by omega)
theorem la_liU {j k w : Nat} (h1 : la_fr a vw rw p j ≤ w) (h2 : w < la_fr a vw rw p (j + 1)) (h3 : la_fr a vw rw p k ≤ w) (h4 : w < la_fr a vw rw p (k + 1)) : j = k := by
  rcases Nat.lt_trichotomy j k with z | z | z
  · have := la_frm (a := a) (rw := rw) (vw := vw) (p := p) (show j + 1 ≤ k from z); omega
  · exact z
  · have := la_frm (a := a) (rw := rw) (vw := vw) (p := p) (show k + 1 ≤ j from z); omega
end
