theorem op_ix {x : Int32} {n : Nat} (h0 : 0 ≤ x) (h1 : x < nI n) (hn : n < 2 ^ 31) : ∃ j : Nat, j < n ∧ x = nI j := by
  obtain ⟨j, hj, rfl⟩ := nI_of (x := x) (Int32.not_lt.mpr h0)
  exact ⟨j, (nI_ltI hj hn).mp h1, rfl⟩
theorem op_ix2 {x : Int32} {n : Nat} (h0 : 0 ≤ x) (h1 : x ≤ nI n) (hn : n < 2 ^ 31) : ∃ j : Nat, j ≤ n ∧ x = nI j := by
  obtain ⟨j, hj, rfl⟩ := nI_of (x := x) (Int32.not_lt.mpr h0)
  exact ⟨j, (nI_leI hj hn).mp h1, rfl⟩
theorem op_m1 {x : Int32} {n : Nat} (hn : n < 2 ^ 31) (h0 : 0 ≤ x) : x ≤ nI n - 1 ↔ x < nI n := by
  obtain ⟨j, hj, rfl⟩ := nI_of (x := x) (Int32.not_lt.mpr h0)
  rw [nI_ltI hj hn]
  by_cases e : n = 0
  · subst e
    have z : ¬ nI j ≤ nI 0 - 1 := by
      rw [Int32.le_iff_toInt_le, nI_toInt hj, show (nI 0 - 1).toInt = -1 from by decide]; omega
    exact ⟨fun q => absurd q z, fun q => absurd q (by omega)⟩
  · obtain ⟨m, rfl⟩ : ∃ m, n = m + 1 := ⟨n - 1, by omega⟩
    rw [nI_pred, nI_leI hj (by omega)]; omega
/-- insert -/
def op_ins (a : Nat → Int32) (p s : Int32) : Int32 × (Nat → Int32) :=
  if (0 ≤ p ∧ p ≤ a 0) ∧ (0 ≤ s ∧ s ≤ 5) then
    (if a 0 = 24 then (-2, a) else (a 0 + 1, upd (upd (upd (upd (dc_iL a p.toNatClampNeg (dc_n a - p.toNatClampNeg)) (76 + 51 * p.toNatClampNeg) s) (77 + 51 * p.toNatClampNeg) (-1)) (78 + 51 * p.toNatClampNeg) 0) 0 (a 0 + 1)))
  else (-1, a)
def op_rem (a : Nat → Int32) (p : Int32) : Int32 × (Nat → Int32) :=
  if 0 ≤ p ∧ p < a 0 then (a 0 - 1, upd (dc_rL a p.toNatClampNeg (dc_n a - 1 - p.toNatClampNeg)) 0 (a 0 - 1)) else (-1, a)
def op_sty (a : Nat → Int32) (p s : Int32) : Int32 × (Nat → Int32) :=
  if (0 ≤ p ∧ p < a 0) ∧ (0 ≤ s ∧ s ≤ 5) then (0, upd a (76 + 51 * p.toNatClampNeg) s) else (-1, a)
def op_mrk (a : Nat → Int32) (p m : Int32) : Int32 × (Nat → Int32) :=
  if (0 ≤ p ∧ p < a 0) ∧ (-1 ≤ m ∧ m ≤ 7) then (0, upd a (77 + 51 * p.toNatClampNeg) m) else (-1, a)
def op_add (a : Nat → Int32) (p wi no on : Int32) : Int32 × (Nat → Int32) :=
  if (0 ≤ p ∧ p < a 0) ∧ (¬ wi = 0 ∧ -8 ≤ wi ∧ wi ≤ 30) ∧ (0 ≤ no ∧ no ≤ 3) then
    (if a (78 + 51 * p.toNatClampNeg) = 16 then (-2, a) else
      (a (78 + 51 * p.toNatClampNeg) + 1, upd (upd (upd (upd a (79 + 51 * p.toNatClampNeg + 3 * dc_w a p.toNatClampNeg) wi) (80 + 51 * p.toNatClampNeg + 3 * dc_w a p.toNatClampNeg) no)
        (81 + 51 * p.toNatClampNeg + 3 * dc_w a p.toNatClampNeg) (if on = 0 then 0 else 1)) (78 + 51 * p.toNatClampNeg) (a (78 + 51 * p.toNatClampNeg) + 1)))
  else (-1, a)
/-- the last word that is not GONE -/
def dc_lg (a : Nat → Int32) (p : Nat) : Nat → Option Nat
  | 0 => none
  | w + 1 => if a (81 + 51 * p + 3 * w) = 2 then dc_lg a p w else some w
def op_drp (a : Nat → Int32) (p on : Int32) : Int32 × (Nat → Int32) :=
  if 0 ≤ p ∧ p < a 0 then
    (match dc_lg a p.toNatClampNeg (dc_w a p.toNatClampNeg) with
    | none => (-1, a)
    | some w => if ¬ on = 0 ∧ a (81 + 51 * p.toNatClampNeg + 3 * w) = 0 then (a (78 + 51 * p.toNatClampNeg), upd a (81 + 51 * p.toNatClampNeg + 3 * w) 2)
        else (nI (dc_w a p.toNatClampNeg - 1), dc_tk a p.toNatClampNeg w))
  else (-1, a)
def op_lo (t : Nat) : Int32 := if t = 2 then -5 else if t = 5 then 1 else 0
def op_hi (t : Nat) : Int32 := if t < 3 then 10 else if t < 5 then 9 else if t = 5 then 4 else if t < 8 then 3 else 1
def op_stl (a : Nat → Int32) (s t v : Int32) : Int32 × (Nat → Int32) :=
  if (0 ≤ s ∧ s ≤ 5) ∧ (0 ≤ t ∧ t ≤ 11) ∧ (op_lo t.toNatClampNeg ≤ v ∧ v ≤ op_hi t.toNatClampNeg) then (0, upd a (4 + 12 * s.toNatClampNeg + t.toNatClampNeg) v) else (-1, a)
def op_pag (a : Nat → Int32) (w h c : Int32) : Int32 × (Nat → Int32) :=
  if (20 ≤ w ∧ w ≤ 80) ∧ (10 ≤ h ∧ h ≤ 60) ∧ (1 ≤ c ∧ c ≤ 2) then (0, upd (upd (upd a 1 w) 2 h) 3 c) else (-1, a)
/-- how many words are NEW or GONE; resolve's loop -/
def dc_cg (a : Nat → Int32) (p : Nat) : Nat → Nat
  | 0 => 0
  | w + 1 => dc_cg a p w + if a (81 + 51 * p + 3 * w) = 0 then 0 else 1
def dc_rs (p : Nat) (un : Int32) : Nat → (Nat → Int32) → Nat → Int32
  | 0, a => a
  | w + 1, a => dc_rs p un w (if a (81 + 51 * p + 3 * w) = un then dc_tk a p w else upd a (81 + 51 * p + 3 * w) 0)
def op_res (a : Nat → Int32) (p acc : Int32) : Int32 × (Nat → Int32) :=
  if 0 ≤ p ∧ p < a 0 then (nI (dc_cg a p.toNatClampNeg (dc_w a p.toNatClampNeg)), dc_rs p.toNatClampNeg (if acc = 0 then 1 else 2) (dc_w a p.toNatClampNeg) a) else (-1, a)
/-- what a step does -/
def op_go (w p b c on : Int32) (a : Nat → Int32) : Int32 × (Nat → Int32) :=
  if w = 0 then op_ins a p b else if w = 1 then op_rem a p else if w = 2 then op_sty a p b else if w = 3 then op_mrk a p b else if w = 4 then op_add a p b c on
  else if w = 5 then op_drp a p on else if w = 6 then op_stl a p b c else if w = 7 then op_pag a p b c else op_res a p (if b = 1 then 1 else 0)
theorem op_upd2 {a : Nat → Int32} {k : Nat} {v : Int32} (h : a k = v) : upd a k v = a := by
  funext i
  by_cases e : i = k
  · subst e; rw [pk_us, h]
  · exact pk_un e
theorem op_insV {a : Nat → Int32} {p s : Int32} (h : dc_V a) : dc_V (op_ins a p s).2 := by
  unfold op_ins
  obtain ⟨e0, h24⟩ := dc_Vn h
  split
  · rename_i c
    split
    · exact h
    · rename_i c4
      obtain ⟨j, hj, rfl⟩ := op_ix2 c.1.1 (e0 ▸ c.1.2) (by omega)
      obtain ⟨k, hk, rfl⟩ := op_ix2 (n := 5) c.2.1 c.2.2 (by omega)
      have hn : dc_n a < 24 := by
        rcases Nat.lt_or_eq_of_le h24 with z | z
        · exact z
        · exact absurd (by rw [e0, z]; rfl) c4
      show dc_V (upd _ 0 (a 0 + 1))
      rw [e0, nI_1, nI_clamp (by omega)]
      refine dc_many ?_ (by omega)
      have v0 := (dc_iLV (p := j) (d := dc_n a - j) h (by omega)).1
      have v1 := dc_cell (p := j) (j := 0) (v := nI k) v0 (by omega) (by omega) (dc_R0 (v0.2.2.2.2.1 j (by omega)) hk)
      have v2 := dc_cell (p := j) (j := 1) (v := -1) v1 (by omega) (by omega) (dc_R1 (v1.2.2.2.2.1 j (by omega)))
      have v3 := dc_cell (p := j) (j := 2) (v := nI 0) v2 (by omega) (by omega) (dc_R2 (v2.2.2.2.2.1 j (by omega)) (by omega))
      rw [show 76 + 51 * j + 1 = 77 + 51 * j from by omega, show 76 + 51 * j + 2 = 78 + 51 * j from by omega] at v3
      exact v3
  · exact h
theorem op_remV {a : Nat → Int32} {p : Int32} (h : dc_V a) : dc_V (op_rem a p).2 := by
  unfold op_rem
  obtain ⟨e0, h24⟩ := dc_Vn h
  split
  · rename_i c
    obtain ⟨j, hj, rfl⟩ := op_ix c.1 (e0 ▸ c.2) (by omega)
    show dc_V (upd _ 0 (a 0 - 1))
    obtain ⟨m, hm⟩ : ∃ m, dc_n a = m + 1 := ⟨dc_n a - 1, by omega⟩
    rw [e0, hm, nI_pred, nI_clamp (by omega)]
    exact dc_many (dc_rLV h (by omega)).1 (by omega)
  · exact h
theorem op_styV {a : Nat → Int32} {p s : Int32} (h : dc_V a) : dc_V (op_sty a p s).2 := by
  unfold op_sty
  obtain ⟨e0, h24⟩ := dc_Vn h
  split
  · rename_i c
    obtain ⟨j, hj, rfl⟩ := op_ix c.1.1 (e0 ▸ c.1.2) (by omega)
    obtain ⟨k, hk, rfl⟩ := op_ix2 (n := 5) c.2.1 c.2.2 (by omega)
    show dc_V (upd a _ _)
    rw [nI_clamp (by omega)]
    exact dc_cell (p := j) (j := 0) (v := nI k) h (by omega) (by omega) (dc_R0 (h.2.2.2.2.1 j (by omega)) hk)
  · exact h
theorem op_mrkV {a : Nat → Int32} {p m : Int32} (h : dc_V a) : dc_V (op_mrk a p m).2 := by
  unfold op_mrk
  obtain ⟨e0, h24⟩ := dc_Vn h
  split
  · rename_i c
    obtain ⟨j, hj, rfl⟩ := op_ix c.1.1 (e0 ▸ c.1.2) (by omega)
    show dc_V (upd a _ _)
    rw [nI_clamp (by omega)]
    have v := dc_cell (p := j) (j := 1) (v := m) h (by omega) (by omega) (dc_R1 (h.2.2.2.2.1 j (by omega)))
    rw [show 76 + 51 * j + 1 = 77 + 51 * j from by omega] at v
    exact v
  · exact h
theorem dc_sh {a : Nat → Int32} {b k j : Nat} {v : Int32} (hk : k = b + j) : (fun i => upd a k v (b + i)) = upd (fun i => a (b + i)) j v := by
  funext i
  by_cases q : i = j
  · subst q; rw [pk_us, hk, pk_us]
  · rw [pk_un q, pk_un (by omega)]
/-- one word more -/
theorem dc_RA {r : Nat → Int32} (h : dc_R r) {n : Nat} (hn : (r 2).toNatClampNeg = n) (h16 : n < 16) {wi no st : Int32} (hw : dc_W wi no st) :
    dc_R (upd (upd (upd (upd r (3 + 3 * n) wi) (4 + 3 * n) no) (5 + 3 * n) st) 2 (nI (n + 1))) := by
  obtain ⟨z1, z2, z3⟩ := h
  refine ⟨by rw [pk_un (by omega), pk_un (by omega), pk_un (by omega), pk_un (by omega)]; exact z1, by rw [pk_us]; exact dc_Nm (by omega) (by omega), fun w hw2 => ?_⟩
  rw [pk_us, nI_clamp (by omega)] at hw2
  by_cases e : w = n
  · subst e
    rw [pk_un (by omega), pk_un (by omega), pk_un (by omega), pk_us, pk_un (by omega), pk_un (by omega), pk_us, pk_un (by omega), pk_us]
    exact hw
  · rw [pk_un (by omega), pk_un (by omega), pk_un (by omega), pk_un (by omega), pk_un (by omega), pk_un (by omega), pk_un (by omega), pk_un (by omega), pk_un (by omega), pk_un (by omega), pk_un (by omega), pk_un (by omega)]
    exact z3 w (by omega)
theorem op_addV {a : Nat → Int32} {p wi no on : Int32} (h : dc_V a) : dc_V (op_add a p wi no on).2 := by
  unfold op_add
  obtain ⟨e0, h24⟩ := dc_Vn h
  split
  · rename_i c
    split
    · exact h
    · rename_i c16
      obtain ⟨j, hj, rfl⟩ := op_ix c.1.1 (e0 ▸ c.1.2) (by omega)
      obtain ⟨k, hk, rfl⟩ := op_ix2 (n := 3) c.2.2.1 c.2.2.2 (by omega)
      rw [nI_clamp (by omega)] at c16
      obtain ⟨ew, h16⟩ := dc_Vw h (p := j) (by omega)
      have hn : dc_w a j < 16 := by
        rcases Nat.lt_or_eq_of_le h16 with z | z
        · exact z
        · exact absurd (by rw [ew, z]; rfl) c16
      show dc_V (upd _ _ _)
      rw [nI_clamp (by omega), ew, nI_1]
      refine dc_rec (p := j) h (by omega) (fun i hi => by rw [pk_un (by omega), pk_un (by omega), pk_un (by omega), pk_un (by omega)]) ?_
      have R := dc_RA (h.2.2.2.2.1 j (by omega)) (n := dc_w a j) (by rw [show 76 + 51 * j + 2 = 78 + 51 * j from by omega]; rfl) hn (wi := wi) (no := nI k) (st := if on = 0 then 0 else 1)
        ⟨⟨by have z := Int32.le_iff_toInt_le.mp c.2.1.2.1; rw [show (-8 : Int32).toInt = -8 from by decide] at z; exact z, by have z := Int32.le_iff_toInt_le.mp c.2.1.2.2; rw [show (30 : Int32).toInt = 30 from by decide] at z; exact z, c.2.1.1⟩, dc_Nm hk (by omega), by split; exact dc_Nm (n := 0) (by omega) (by omega); exact dc_Nm (n := 1) (by omega) (by omega)⟩
      have e : (fun i => upd (upd (upd (upd a (79 + 51 * j + 3 * dc_w a j) wi) (80 + 51 * j + 3 * dc_w a j) (nI k)) (81 + 51 * j + 3 * dc_w a j) (if on = 0 then 0 else 1)) (78 + 51 * j) (nI (dc_w a j + 1)) (76 + 51 * j + i))
          = upd (upd (upd (upd (fun i => a (76 + 51 * j + i)) (3 + 3 * dc_w a j) wi) (4 + 3 * dc_w a j) (nI k)) (5 + 3 * dc_w a j) (if on = 0 then 0 else 1)) 2 (nI (dc_w a j + 1)) := by
        rw [dc_sh (j := 2) (by omega), dc_sh (j := 5 + 3 * dc_w a j) (by omega), dc_sh (j := 4 + 3 * dc_w a j) (by omega), dc_sh (j := 3 + 3 * dc_w a j) (by omega)]
      rw [e]; exact R
  · exact h
theorem dc_lgw {a : Nat → Int32} {p : Nat} : ∀ {n w : Nat}, dc_lg a p n = some w → w < n
  | 0, _, h => by cases h
  | n + 1, w, h => by
    unfold dc_lg at h
    split at h
    · have := dc_lgw h; omega
    · cases h; omega
theorem op_drpV {a : Nat → Int32} {p on : Int32} (h : dc_V a) : dc_V (op_drp a p on).2 := by
  unfold op_drp
  obtain ⟨e0, h24⟩ := dc_Vn h
  split
  · rename_i c
    obtain ⟨j, hj, rfl⟩ := op_ix c.1 (e0 ▸ c.2) (by omega)
    rw [nI_clamp (by omega)]
    split
    · exact h
    · rename_i w hw
      have hw' := dc_lgw hw
      split
      · show dc_V (upd a _ _)
        have v := dc_cell (p := j) (j := 5 + 3 * w) (v := nI 2) h (by omega) (by have := (dc_Vw h (p := j) (by omega)).2; omega) (dc_R5 (h.2.2.2.2.1 j (by omega)) (by omega))
        rw [show 76 + 51 * j + (5 + 3 * w) = 81 + 51 * j + 3 * w from by omega] at v
        exact v
      · exact (dc_tkV h (by omega) hw').1
  · exact h
theorem op_stlV {a : Nat → Int32} {s t v : Int32} (h : dc_V a) : dc_V (op_stl a s t v).2 := by
  unfold op_stl
  split
  · rename_i c
    obtain ⟨j, hj, rfl⟩ := op_ix2 (n := 5) c.1.1 c.1.2 (by omega)
    obtain ⟨k, hk, rfl⟩ := op_ix2 (n := 11) c.2.1.1 c.2.1.2 (by omega)
    have c2 := c.2.2
    rw [nI_clamp (by omega)] at c2
    show dc_V (upd a _ _)
    rw [nI_clamp (by omega), nI_clamp (by omega)]
    refine dc_head h (fun i hi => pk_un (by omega)) (by rw [pk_un (by omega)]; exact h.1) (by rw [pk_un (by omega)]; exact h.2.1) (by rw [pk_un (by omega)]; exact h.2.2.1) (fun s' t' hs ht => ?_)
    by_cases e : s' = j ∧ t' = k
    · obtain ⟨rfl, rfl⟩ := e
      rw [pk_us]
      refine ⟨fun q => ?_, fun q => ?_, fun q => ?_, fun q => ?_⟩
      · have e1 : op_lo t' = 0 := by rcases q with rfl | rfl <;> rfl
        have e2 : op_hi t' = nI 9 := by rcases q with rfl | rfl <;> rfl
        rw [e1, e2] at c2
        obtain ⟨m, hm, rfl⟩ := op_ix2 c2.1 c2.2 (by omega)
        exact dc_Nm hm (by omega)
      · subst q
        have c3 : (1 : Int32) ≤ v ∧ v ≤ nI 4 := c2
        obtain ⟨m, hm, rfl⟩ := op_ix2 (Int32.le_trans (by decide) c3.1) c3.2 (by omega)
        exact dc_Nm hm (by omega)
      · subst q
        have c3 : (0 : Int32) ≤ v ∧ v ≤ nI 3 := c2
        obtain ⟨m, hm, rfl⟩ := op_ix2 c3.1 c3.2 (by omega)
        exact dc_Nm hm (by omega)
      · subst q
        have c3 : (0 : Int32) ≤ v ∧ v ≤ nI 1 := c2
        obtain ⟨m, hm, rfl⟩ := op_ix2 c3.1 c3.2 (by omega)
        exact dc_Nm hm (by omega)
    · rw [pk_un (by omega)]; exact h.2.2.2.1 s' t' hs ht
  · exact h
theorem op_pagV {a : Nat → Int32} {w y c : Int32} (h : dc_V a) : dc_V (op_pag a w y c).2 := by
  unfold op_pag
  split
  · rename_i q
    obtain ⟨k, hk, rfl⟩ := op_ix2 (n := 60) (x := y) (Int32.le_trans (by decide) q.2.1.1) q.2.1.2 (by omega)
    obtain ⟨j, hj, rfl⟩ := op_ix2 (n := 2) (x := c) (Int32.le_trans (by decide) q.2.2.1) q.2.2.2 (by omega)
    have hj1 : 1 ≤ j := by
      have z := q.2.2.1
      exact (nI_leI (a := 1) (by omega) (by omega)).mp z
    show dc_V (upd (upd (upd a 1 w) 2 (nI k)) 3 (nI j))
    refine dc_head h (fun i hi => by rw [pk_un (by omega), pk_un (by omega), pk_un (by omega)]) (by rw [pk_un (by omega), pk_un (by omega), pk_un (by omega)]; exact h.1) (by rw [pk_un (by omega), pk_us]; exact dc_Nm hk (by omega)) ?_ (fun s' t' hs ht => by rw [pk_un (by omega), pk_un (by omega), pk_un (by omega)]; exact h.2.2.2.1 s' t' hs ht)
    rw [pk_us]
    rcases Nat.lt_or_ge j 2 with z | z
    · left; obtain rfl : j = 1 := by omega
      rfl
    · right; obtain rfl : j = 2 := by omega
      rfl
  · exact h
theorem dc_rsV {p : Nat} {un : Int32} (hp : p < 24) : ∀ {w : Nat} {a : Nat → Int32}, dc_V a → w ≤ dc_w a p → dc_V (dc_rs p un w a)
  | 0, _, h, _ => h
  | w + 1, a, h, hw => by
    show dc_V (dc_rs p un w (if a (81 + 51 * p + 3 * w) = un then dc_tk a p w else upd a (81 + 51 * p + 3 * w) 0))
    split
    · obtain ⟨v, e⟩ := dc_tkV h hp (w := w) (by omega)
      exact dc_rsV hp v (by omega)
    · have v := dc_cell (p := p) (j := 5 + 3 * w) (v := nI 0) h hp (by have := (dc_Vw h hp).2; omega) (dc_R5 (h.2.2.2.2.1 p hp) (by omega))
      rw [show 76 + 51 * p + (5 + 3 * w) = 81 + 51 * p + 3 * w from by omega] at v
      refine dc_rsV hp v ?_
      unfold dc_w
      rw [pk_un (by omega)]
      unfold dc_w at hw
      omega
theorem op_resV {a : Nat → Int32} {p c : Int32} (h : dc_V a) : dc_V (op_res a p c).2 := by
  unfold op_res
  obtain ⟨e0, h24⟩ := dc_Vn h
  split
  · rename_i c
    obtain ⟨j, hj, rfl⟩ := op_ix c.1 (e0 ▸ c.2) (by omega)
    show dc_V (dc_rs _ _ _ _)
    rw [nI_clamp (by omega)]
    exact dc_rsV (by omega) h (by omega)
  · exact h
theorem op_goV {w p b c on : Int32} {a : Nat → Int32} (h : dc_V a) : dc_V (op_go w p b c on a).2 := by
  unfold op_go
  split
  · exact op_insV h
  split
  · exact op_remV h
  split
  · exact op_styV h
  split
  · exact op_mrkV h
  split
  · exact op_addV h
  split
  · exact op_drpV h
  split
  · exact op_stlV h
  split
  · exact op_pagV h
  · exact op_resV h
