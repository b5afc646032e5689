/-- is a word shown; how wide it is; a column's width; digits -/
def la_sh (a : Nat → Int32) (vw : Int32) (p w : Nat) : Bool :=
  if vw = 0 then true else if vw = 1 then !decide (a (81 + 51 * p + 3 * w) = 2) else !decide (a (81 + 51 * p + 3 * w) = 1)
def la_wd (a rw : Nat → Int32) (p w : Nat) : Int32 := if 0 ≤ a (79 + 51 * p + 3 * w) then a (79 + 51 * p + 3 * w) else rw ((-1) - a (79 + 51 * p + 3 * w)).toNatClampNeg
def la_cw (a : Nat → Int32) : Int32 := if a 3 = 1 then a 1 else (a 1 - 2) / 2
def la_dg (x : Int32) : Int32 := if 10 ≤ x then (if 100 ≤ x then 3 else 2) else 1
/-- counters, labels -/
def la_ct (a : Nat → Int32) : Nat → Int32 × Int32 × Int32
  | 0 => (0, 0, 0)
  | p + 1 => if dc_v a p 7 = 0 then la_ct a p else
      ((la_ct a p).1 + (if dc_v a p 7 = 1 then 1 else 0), (if dc_v a p 7 = 1 then 0 else if dc_v a p 7 = 2 then (la_ct a p).2.1 + 1 else (la_ct a p).2.1), (if dc_v a p 7 = 3 then (la_ct a p).2.2 + 1 else 0))
def la_lb (a : Nat → Int32) (p : Nat) : Int32 := if dc_v a p 7 = 0 then 0 else (la_ct a (p + 1)).1 * 10000 + (la_ct a (p + 1)).2.1 * 100 + (la_ct a (p + 1)).2.2
def la_lw (a : Nat → Int32) (p : Nat) : Int32 := if dc_v a p 7 = 0 then 0 else
  (la_dg (la_ct a (p + 1)).1 + 1 + (if 2 ≤ dc_v a p 7 then la_dg (la_ct a (p + 1)).2.1 + 1 else 0)) + (if 3 ≤ dc_v a p 7 then la_dg (la_ct a (p + 1)).2.2 + 1 else 0)
/-- what a line takes: words from w on -/
def la_us (a rw : Nat → Int32) (p w t : Nat) (u : Int32) : Int32 := if t = 0 then la_wd a rw p w else u + 1 + la_wd a rw p w
def la_tl (a : Nat → Int32) (vw : Int32) (rw : Nat → Int32) (p : Nat) (rm : Int32) : Nat → Nat → Nat → Nat → Int32 → Int32 → Nat × Nat × Nat × Int32 × Int32
  | 0, w, f, t, u, n => (w, f, t, u, n)
  | d + 1, w, f, t, u, n => if la_sh a vw p w = true then
      (if 0 < t ∧ rm < la_us a rw p w t u then (w, f, t, u, n) else la_tl a vw rw p rm d (w + 1) (if t = 0 then w else f) (t + 1) (la_us a rw p w t u) (n + a (80 + 51 * p + 3 * w)))
      else la_tl a vw rw p rm d (w + 1) f t u n
def la_cn (a : Nat → Int32) (vw : Int32) (p w : Nat) : Nat → Nat
  | 0 => 0
  | m + 1 => la_cn a vw p w m + if la_sh a vw p (w + m) = true then 1 else 0
section
variable {a rw : Nat → Int32} {vw : Int32} {p : Nat} {rm : Int32}
theorem la_tlh {d w f t : Nat} {u n : Int32} (hs : ¬ la_sh a vw p w = true) : la_tl a vw rw p rm (d + 1) w f t u n = la_tl a vw rw p rm d (w + 1) f t u n := if_neg hs
theorem la_tls {d w f t : Nat} {u n : Int32} (hs : la_sh a vw p w = true) (hc : 0 < t ∧ rm < la_us a rw p w t u) : la_tl a vw rw p rm (d + 1) w f t u n = (w, f, t, u, n) := (if_pos hs).trans (if_pos hc)
theorem la_tlt {d w f t : Nat} {u n : Int32} (hs : la_sh a vw p w = true) (hc : ¬ (0 < t ∧ rm < la_us a rw p w t u)) :
    la_tl a vw rw p rm (d + 1) w f t u n = la_tl a vw rw p rm d (w + 1) (if t = 0 then w else f) (t + 1) (la_us a rw p w t u) (n + a (80 + 51 * p + 3 * w)) := (if_pos hs).trans (if_neg hc)
theorem la_cn1 {w : Nat} : ∀ {m : Nat}, la_cn a vw p w (m + 1) = (if la_sh a vw p w = true then 1 else 0) + la_cn a vw p (w + 1) m
  | 0 => by show 0 + _ = _ + 0; rw [Nat.zero_add, Nat.add_zero]; rfl
  | m + 1 => by
    show la_cn a vw p w (m + 1) + _ = _ + (la_cn a vw p (w + 1) m + _)
    rw [la_cn1 (m := m), show w + (m + 1) = w + 1 + m from by omega]; omega
theorem la_cnA {w m : Nat} : ∀ {k : Nat}, la_cn a vw p w (m + k) = la_cn a vw p w m + la_cn a vw p (w + m) k
  | 0 => rfl
  | k + 1 => by
    show la_cn a vw p w (m + k) + (if la_sh a vw p (w + (m + k)) = true then 1 else 0) = la_cn a vw p w m + (la_cn a vw p (w + m) k + (if la_sh a vw p (w + m + k) = true then 1 else 0))
    rw [la_cnA (k := k), show w + (m + k) = w + m + k from by omega]; omega
theorem la_cnL {w : Nat} : ∀ {m : Nat}, la_cn a vw p w m ≤ m
  | 0 => Nat.le_refl _
  | m + 1 => by
    have := la_cnL (w := w) (m := m)
    show la_cn a vw p w m + _ ≤ m + 1
    split <;> omega
theorem la_cnZ {w m : Nat} (h : la_cn a vw p w m = 0) : ∀ v, w ≤ v → v < w + m → ¬ la_sh a vw p v = true := by
  intro v hv hm hs
  have e := la_cnA (a := a) (vw := vw) (p := p) (w := w) (m := v - w) (k := 1 + (w + m - v - 1))
  rw [show v - w + (1 + (w + m - v - 1)) = m from by omega, h, la_cnA (m := 1)] at e
  have e2 : la_cn a vw p (w + (v - w)) 1 = 1 := by
    show 0 + (if la_sh a vw p (w + (v - w) + 0) = true then 1 else 0) = 1
    rw [show w + (v - w) + 0 = v from by omega, if_pos hs]
  omega
theorem la_cnN {w : Nat} : ∀ {m : Nat}, (∀ v, w ≤ v → v < w + m → ¬ la_sh a vw p v = true) → la_cn a vw p w m = 0
  | 0, _ => rfl
  | m + 1, h => by
    show la_cn a vw p w m + _ = 0
    rw [la_cnN (m := m) (fun v h1 h2 => h v h1 (by omega)), if_neg (h (w + m) (by omega) (by omega))]
/-- where it ends; how many it takes -/
theorem la_tl1 : ∀ (d w f t : Nat) (u n : Int32), w ≤ (la_tl a vw rw p rm d w f t u n).1 ∧ (la_tl a vw rw p rm d w f t u n).1 ≤ w + d
    ∧ ((la_tl a vw rw p rm d w f t u n).1 < w + d → la_sh a vw p (la_tl a vw rw p rm d w f t u n).1 = true ∧ 0 < (la_tl a vw rw p rm d w f t u n).2.2.1)
    ∧ (la_tl a vw rw p rm d w f t u n).2.2.1 = t + la_cn a vw p w ((la_tl a vw rw p rm d w f t u n).1 - w)
  | 0, w, f, t, u, n => by
    show w ≤ w ∧ w ≤ w + 0 ∧ (w < w + 0 → _) ∧ t = t + la_cn a vw p w (w - w)
    rw [Nat.sub_self]
    exact ⟨Nat.le_refl _, Nat.le_refl _, fun h => absurd h (by omega), rfl⟩
  | d + 1, w, f, t, u, n => by
    by_cases hs : la_sh a vw p w = true
    · by_cases hc : 0 < t ∧ rm < la_us a rw p w t u
      · rw [la_tls hs hc]
        show w ≤ w ∧ w ≤ w + (d + 1) ∧ (w < w + (d + 1) → la_sh a vw p w = true ∧ 0 < t) ∧ t = t + la_cn a vw p w (w - w)
        rw [Nat.sub_self]
        exact ⟨Nat.le_refl _, by omega, fun _ => ⟨hs, hc.1⟩, rfl⟩
      · rw [la_tlt hs hc]
        obtain ⟨h1, h2, h3, h4⟩ := la_tl1 d (w + 1) (if t = 0 then w else f) (t + 1) (la_us a rw p w t u) (n + a (80 + 51 * p + 3 * w))
        generalize la_tl a vw rw p rm d (w + 1) (if t = 0 then w else f) (t + 1) (la_us a rw p w t u) (n + a (80 + 51 * p + 3 * w)) = r at *
        refine ⟨by omega, by omega, fun h => h3 (by omega), ?_⟩
        rw [h4, show r.1 - w = r.1 - (w + 1) + 1 from by omega, la_cn1, if_pos hs]; omega
    · rw [la_tlh hs]
      obtain ⟨h1, h2, h3, h4⟩ := la_tl1 d (w + 1) f t u n
      generalize la_tl a vw rw p rm d (w + 1) f t u n = r at *
      refine ⟨by omega, by omega, fun h => h3 (by omega), ?_⟩
      rw [h4, show r.1 - w = r.1 - (w + 1) + 1 from by omega, la_cn1, if_neg hs]; omega
theorem la_tl5 {d w f : Nat} {u n : Int32} : w < (la_tl a vw rw p rm (d + 1) w f 0 u n).1 := by
  by_cases hs : la_sh a vw p w = true
  · rw [la_tlt hs (by omega)]; have := (la_tl1 (a := a) (rw := rw) (vw := vw) (p := p) (rm := rm) d (w + 1) (if 0 = 0 then w else f) (0 + 1) (la_us a rw p w 0 u) (n + a (80 + 51 * p + 3 * w))).1; omega
  · rw [la_tlh hs]; have := (la_tl1 (a := a) (rw := rw) (vw := vw) (p := p) (rm := rm) d (w + 1) f 0 u n).1; omega
/-- its first word -/
theorem la_tlf : ∀ (d w f t : Nat) (u n : Int32), 0 < t → (la_tl a vw rw p rm d w f t u n).2.1 = f
  | 0, w, f, t, u, n, _ => rfl
  | d + 1, w, f, t, u, n, h => by
    by_cases hs : la_sh a vw p w = true
    · by_cases hc : 0 < t ∧ rm < la_us a rw p w t u
      · rw [la_tls hs hc]
      · rw [la_tlt hs hc, la_tlf d (w + 1) _ (t + 1) _ _ (by omega), if_neg (by omega)]
    · rw [la_tlh hs]; exact la_tlf d (w + 1) f t u n h
theorem la_tlF : ∀ (d w f : Nat) (u n : Int32), ((la_tl a vw rw p rm d w f 0 u n).2.2.1 = 0 ∧ (la_tl a vw rw p rm d w f 0 u n).2.1 = f)
    ∨ (0 < (la_tl a vw rw p rm d w f 0 u n).2.2.1 ∧ w ≤ (la_tl a vw rw p rm d w f 0 u n).2.1 ∧ (la_tl a vw rw p rm d w f 0 u n).2.1 < (la_tl a vw rw p rm d w f 0 u n).1 ∧ ∀ v, w ≤ v → v < (la_tl a vw rw p rm d w f 0 u n).2.1 → ¬ la_sh a vw p v = true)
  | 0, w, f, u, n => Or.inl ⟨rfl, rfl⟩
  | d + 1, w, f, u, n => by
    by_cases hs : la_sh a vw p w = true
    · right
      rw [la_tlt hs (by omega)]
      have e := la_tlf (a := a) (rw := rw) (vw := vw) (p := p) (rm := rm) d (w + 1) (if 0 = 0 then w else f) (0 + 1) (la_us a rw p w 0 u) (n + a (80 + 51 * p + 3 * w)) (by omega)
      obtain ⟨h1, h2, h3, h4⟩ := la_tl1 (a := a) (rw := rw) (vw := vw) (p := p) (rm := rm) d (w + 1) (if 0 = 0 then w else f) (0 + 1) (la_us a rw p w 0 u) (n + a (80 + 51 * p + 3 * w))
      rw [if_pos rfl] at e h1 h2 h3 h4 ⊢
      refine ⟨by omega, by omega, by omega, fun v h5 h6 => absurd h6 (by omega)⟩
    · rw [la_tlh hs]
      rcases la_tlF d (w + 1) f u n with h | ⟨h1, h2, h3, h4⟩
      · exact Or.inl h
      · refine Or.inr ⟨h1, by omega, h3, fun v h5 h6 => ?_⟩
        by_cases e : v = w
        · subst e; exact hs
        · exact h4 v (by omega) h6
/-- the notes' heights -/
theorem la_tln (hv : dc_V a) (hp : p < 24) : ∀ (d w f t : Nat) (u n : Int32), w + d ≤ dc_w a p → (∃ g, n = nI g ∧ g ≤ 3 * t) → ∃ g, (la_tl a vw rw p rm d w f t u n).2.2.2.2 = nI g ∧ g ≤ 3 * (la_tl a vw rw p rm d w f t u n).2.2.1
  | 0, w, f, t, u, n, _, h => h
  | d + 1, w, f, t, u, n, hw, h => by
    by_cases hs : la_sh a vw p w = true
    · by_cases hc : 0 < t ∧ rm < la_us a rw p w t u
      · rw [la_tls hs hc]; exact h
      · rw [la_tlt hs hc]
        refine la_tln hv hp d (w + 1) _ (t + 1) _ _ (by omega) ?_
        obtain ⟨g, rfl, hg⟩ := h
        obtain ⟨e, h3⟩ := (dc_Vo hv hp (w := w) (by omega)).2.1
        rw [e, nI_add]
        exact ⟨_, rfl, by omega⟩
    · rw [la_tlh hs]
      exact la_tln hv hp d (w + 1) f t u n (by omega) h
end
