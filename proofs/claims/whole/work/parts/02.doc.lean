/-- a small number: 0 .. m -/
def dc_N (x : Int32) (m : Nat) : Prop := x = nI x.toNatClampNeg ∧ x.toNatClampNeg ≤ m
theorem dc_Nm {n m : Nat} (h : n ≤ m) (hm : m < 2 ^ 31) : dc_N (nI n) m := by
  unfold dc_N; rw [nI_clamp (by omega)]; exact ⟨rfl, h⟩
theorem dc_Nx {x : Int32} {n m : Nat} (e : x = nI n) (h : n ≤ m) (hm : m < 2 ^ 31) : dc_N x m := by subst e; exact dc_Nm h hm
/-- how many paragraphs; how many words; the style's number; a style's value -/
def dc_n (a : Nat → Int32) : Nat := (a 0).toNatClampNeg
def dc_w (a : Nat → Int32) (p : Nat) : Nat := (a (78 + 51 * p)).toNatClampNeg
def dc_s (a : Nat → Int32) (p : Nat) : Nat := (a (76 + 51 * p)).toNatClampNeg
def dc_v (a : Nat → Int32) (p t : Nat) : Int32 := a (4 + 12 * dc_s a p + t)
/-- a word; a record; a style's cell; the document -/
def dc_W (wi no st : Int32) : Prop := (-8 ≤ wi.toInt ∧ wi.toInt ≤ 30 ∧ wi ≠ 0) ∧ dc_N no 3 ∧ dc_N st 2
def dc_R (r : Nat → Int32) : Prop := dc_N (r 0) 5 ∧ dc_N (r 2) 16 ∧ ∀ w, w < (r 2).toNatClampNeg → dc_W (r (3 + 3 * w)) (r (4 + 3 * w)) (r (5 + 3 * w))
def dc_T (t : Nat) (x : Int32) : Prop := (t = 3 ∨ t = 4 → dc_N x 9) ∧ (t = 5 → dc_N x 4) ∧ (t = 7 → dc_N x 3) ∧ (t = 11 → dc_N x 1)
def dc_V (a : Nat → Int32) : Prop := dc_N (a 0) 24 ∧ dc_N (a 2) 60 ∧ (a 3 = 1 ∨ a 3 = 2) ∧ (∀ s t, s < 6 → t < 12 → dc_T t (a (4 + 12 * s + t)))
  ∧ (∀ p, p < 24 → dc_R (fun i => a (76 + 51 * p + i))) ∧ (∀ i, 1300 ≤ i → a i = 0)
theorem dc_Vn {a : Nat → Int32} (h : dc_V a) : a 0 = nI (dc_n a) ∧ dc_n a ≤ 24 := h.1
theorem dc_Vs {a : Nat → Int32} (h : dc_V a) {p : Nat} (hp : p < 24) : a (76 + 51 * p) = nI (dc_s a p) ∧ dc_s a p ≤ 5 := (h.2.2.2.2.1 p hp).1
theorem dc_Vw {a : Nat → Int32} (h : dc_V a) {p : Nat} (hp : p < 24) : a (78 + 51 * p) = nI (dc_w a p) ∧ dc_w a p ≤ 16 := by
  have z := (h.2.2.2.2.1 p hp).2.1
  have e : 76 + 51 * p + 2 = 78 + 51 * p := by omega
  unfold dc_w
  rw [← e]
  exact z
theorem dc_Vo {a : Nat → Int32} (h : dc_V a) {p w : Nat} (hp : p < 24) (hw : w < dc_w a p) : dc_W (a (79 + 51 * p + 3 * w)) (a (80 + 51 * p + 3 * w)) (a (81 + 51 * p + 3 * w)) := by
  have z := (h.2.2.2.2.1 p hp).2.2 w (by
    have e : 76 + 51 * p + 2 = 78 + 51 * p := by omega
    unfold dc_w at hw
    rw [← e] at hw
    exact hw)
  have e1 : 76 + 51 * p + (3 + 3 * w) = 79 + 51 * p + 3 * w := by omega
  have e2 : 76 + 51 * p + (4 + 3 * w) = 80 + 51 * p + 3 * w := by omega
  have e3 : 76 + 51 * p + (5 + 3 * w) = 81 + 51 * p + 3 * w := by omega
  rw [← e1, ← e2, ← e3]
  exact z
/-- a record is another one, all else stays -/
theorem dc_rec {a b : Nat → Int32} {p : Nat} (h : dc_V a) (hp : p < 24) (ho : ∀ i, i < 76 + 51 * p ∨ 127 + 51 * p ≤ i → b i = a i) (hr : dc_R (fun i => b (76 + 51 * p + i))) : dc_V b := by
  obtain ⟨h1, h2, h3, h4, h5, h6⟩ := h
  refine ⟨by rw [ho 0 (by omega)]; exact h1, by rw [ho 2 (by omega)]; exact h2, by rw [ho 3 (by omega)]; exact h3, fun s t hs ht => by rw [ho _ (by omega)]; exact h4 s t hs ht, fun q hq => ?_, fun i hi => by rw [ho i (by omega)]; exact h6 i hi⟩
  by_cases e : q = p
  · subst e; exact hr
  · obtain ⟨z1, z2, z3⟩ := h5 q hq
    refine ⟨by show dc_N (b _) 5; rw [ho _ (by omega)]; exact z1, by show dc_N (b _) 16; rw [ho _ (by omega)]; exact z2, fun w hw => ?_⟩
    have hw2 : w < (a (76 + 51 * q + 2)).toNatClampNeg := by
      have hw' : w < (b (76 + 51 * q + 2)).toNatClampNeg := hw
      rw [ho _ (by omega)] at hw'; exact hw'
    have hw3 : (a (76 + 51 * q + 2)).toNatClampNeg ≤ 16 := z2.2
    show dc_W (b _) (b _) (b _)
    rw [ho _ (by omega), ho _ (by omega), ho _ (by omega)]
    exact z3 w hw2
/-- the cells before the records change -/
theorem dc_head {a b : Nat → Int32} (h : dc_V a) (ho : ∀ i, 76 ≤ i → b i = a i) (h1 : dc_N (b 0) 24) (h2 : dc_N (b 2) 60) (h3 : b 3 = 1 ∨ b 3 = 2) (h4 : ∀ s t, s < 6 → t < 12 → dc_T t (b (4 + 12 * s + t))) : dc_V b := by
  obtain ⟨_, _, _, _, h5, h6⟩ := h
  refine ⟨h1, h2, h3, h4, fun q hq => ?_, fun i hi => by rw [ho i (by omega)]; exact h6 i hi⟩
  have e : (fun i => b (76 + 51 * q + i)) = fun i => a (76 + 51 * q + i) := funext fun i => ho _ (by omega)
  rw [e]; exact h5 q hq
theorem dc_many {a : Nat → Int32} (h : dc_V a) {n : Nat} (hn : n ≤ 24) : dc_V (upd a 0 (nI n)) :=
  dc_head h (fun i hi => pk_un (by omega)) (by rw [pk_us]; exact dc_Nm hn (by omega)) (by rw [pk_un (by omega)]; exact h.2.1) (by rw [pk_un (by omega)]; exact h.2.2.1)
    (fun s t hs ht => by rw [pk_un (by omega)]; exact h.2.2.2.1 s t hs ht)
/-- a record copied -/
def dc_cp (a : Nat → Int32) (f t : Nat) : Nat → Int32 := cp_b a (76 + 51 * f) (76 + 51 * t) 51
theorem dc_cpV {a : Nat → Int32} {f t : Nat} (h : dc_V a) (hf : f < 24) (ht : t < 24) : dc_V (dc_cp a f t) := by
  refine dc_rec h ht (fun i hi => cp_out (by omega)) ?_
  obtain ⟨z1, z2, z3⟩ := h.2.2.2.2.1 f hf
  have e : ∀ i, i < 51 → dc_cp a f t (76 + 51 * t + i) = a (76 + 51 * f + i) := fun i hi => by
    unfold dc_cp; rw [cp_in (by omega) (by omega)]; exact congrArg a (by omega)
  refine ⟨by show dc_N (dc_cp a f t _) 5; rw [e 0 (by omega)]; exact z1, by show dc_N (dc_cp a f t _) 16; rw [e 2 (by omega)]; exact z2, fun w hw => ?_⟩
  have hw2 : w < (a (76 + 51 * f + 2)).toNatClampNeg := by
    have hw' : w < (dc_cp a f t (76 + 51 * t + 2)).toNatClampNeg := hw
    rw [e 2 (by omega)] at hw'; exact hw'
  have hw3 : (a (76 + 51 * f + 2)).toNatClampNeg ≤ 16 := z2.2
  show dc_W (dc_cp a f t _) (dc_cp a f t _) (dc_cp a f t _)
  rw [e _ (by omega), e _ (by omega), e _ (by omega)]
  exact z3 w hw2
theorem dc_cp0 {a : Nat → Int32} {f t : Nat} : dc_cp a f t 0 = a 0 := cp_out (by omega)
/-- insert's and remove's loops -/
def dc_iL (a : Nat → Int32) (p : Nat) : Nat → Nat → Int32
  | 0 => a
  | d + 1 => dc_iL (dc_cp a (p + d) (p + d + 1)) p d
theorem dc_iLV {p : Nat} : ∀ {d : Nat} {a : Nat → Int32}, dc_V a → p + d < 24 → dc_V (dc_iL a p d) ∧ dc_iL a p d 0 = a 0
  | 0, a, h, _ => ⟨h, rfl⟩
  | d + 1, a, h, hd => by
    have z := dc_iLV (p := p) (d := d) (dc_cpV (f := p + d) (t := p + d + 1) h (by omega) (by omega)) (by omega)
    exact ⟨z.1, z.2.trans dc_cp0⟩
def dc_rL (a : Nat → Int32) : Nat → Nat → Nat → Int32
  | _, 0 => a
  | q, d + 1 => dc_rL (dc_cp a (q + 1) q) (q + 1) d
theorem dc_rLV : ∀ {d q : Nat} {a : Nat → Int32}, dc_V a → q + d < 24 → dc_V (dc_rL a q d) ∧ dc_rL a q d 0 = a 0
  | 0, _, a, h, _ => ⟨h, rfl⟩
  | d + 1, q, a, h, hd => by
    have z := dc_rLV (d := d) (q := q + 1) (dc_cpV (f := q + 1) (t := q) h (by omega) (by omega)) (by omega)
    exact ⟨z.1, z.2.trans dc_cp0⟩
theorem dc_cpc {a : Nat → Int32} {f t : Nat} {v : Int32} : dc_cp (upd a 0 v) f t = upd (dc_cp a f t) 0 v := by
  funext i
  unfold dc_cp
  by_cases e : i = 0
  · subst e; rw [pk_us, cp_out (by omega), pk_us]
  · rw [pk_un e]
    by_cases h : 76 + 51 * t ≤ i ∧ i < 76 + 51 * t + 51
    · rw [cp_in h.1 h.2, cp_in h.1 h.2, pk_un (by omega)]
    · rw [cp_out (by omega), cp_out (by omega), pk_un e]
theorem dc_rLc {v : Int32} : ∀ {d q : Nat} {a : Nat → Int32}, dc_rL (upd a 0 v) q d = upd (dc_rL a q d) 0 v
  | 0, _, _ => rfl
  | d + 1, q, a => by show dc_rL (dc_cp (upd a 0 v) (q + 1) q) (q + 1) d = _; rw [dc_cpc]; exact dc_rLc
/-- one of a record's cells -/
theorem dc_cell {a : Nat → Int32} {p j : Nat} {v : Int32} (h : dc_V a) (hp : p < 24) (hj : j < 51) (hr : dc_R (upd (fun i => a (76 + 51 * p + i)) j v)) : dc_V (upd a (76 + 51 * p + j) v) := by
  refine dc_rec h hp (fun i hi => pk_un (by omega)) ?_
  have e : (fun i => upd a (76 + 51 * p + j) v (76 + 51 * p + i)) = upd (fun i => a (76 + 51 * p + i)) j v := by
    funext i
    by_cases q : i = j
    · subst q; rw [pk_us, pk_us]
    · rw [pk_un q, pk_un (by omega)]
  rw [e]; exact hr
theorem dc_R0 {r : Nat → Int32} (h : dc_R r) {s : Nat} (hs : s ≤ 5) : dc_R (upd r 0 (nI s)) := by
  obtain ⟨z1, z2, z3⟩ := h
  refine ⟨by rw [pk_us]; exact dc_Nm hs (by omega), by rw [pk_un (by omega)]; exact z2, fun w hw => ?_⟩
  rw [pk_un (by omega)] at hw
  rw [pk_un (by omega), pk_un (by omega), pk_un (by omega)]; exact z3 w hw
theorem dc_R1 {r : Nat → Int32} (h : dc_R r) {v : Int32} : dc_R (upd r 1 v) := by
  obtain ⟨z1, z2, z3⟩ := h
  refine ⟨by rw [pk_un (by omega)]; exact z1, by rw [pk_un (by omega)]; exact z2, fun w hw => ?_⟩
  rw [pk_un (by omega)] at hw
  rw [pk_un (by omega), pk_un (by omega), pk_un (by omega)]; exact z3 w hw
/-- fewer words -/
theorem dc_R2 {r : Nat → Int32} (h : dc_R r) {n : Nat} (hn : n ≤ (r 2).toNatClampNeg) : dc_R (upd r 2 (nI n)) := by
  obtain ⟨z1, z2, z3⟩ := h
  have z22 := z2.2
  refine ⟨by rw [pk_un (by omega)]; exact z1, by rw [pk_us]; exact dc_Nm (by omega) (by omega), fun w hw => ?_⟩
  rw [pk_us, nI_clamp (by omega)] at hw
  rw [pk_un (by omega), pk_un (by omega), pk_un (by omega)]; exact z3 w (by omega)
/-- a word's state -/
theorem dc_R5 {r : Nat → Int32} (h : dc_R r) {w : Nat} {s : Nat} (hs : s ≤ 2) : dc_R (upd r (5 + 3 * w) (nI s)) := by
  obtain ⟨z1, z2, z3⟩ := h
  refine ⟨by rw [pk_un (by omega)]; exact z1, by rw [pk_un (by omega)]; exact z2, fun v hv => ?_⟩
  rw [pk_un (by omega)] at hv
  obtain ⟨y1, y2, y3⟩ := z3 v hv
  rw [pk_un (by omega), pk_un (by omega)]
  refine ⟨y1, y2, ?_⟩
  by_cases e : v = w
  · subst e; rw [pk_us]; exact dc_Nm hs (by omega)
  · rw [pk_un (by omega)]; exact y3
/-- a word taken out: those behind it move -/
def dc_tk (a : Nat → Int32) (p w : Nat) : Nat → Int32 :=
  upd (cp_b a (82 + 51 * p + 3 * w) (79 + 51 * p + 3 * w) (3 * (dc_w a p - 1 - w))) (78 + 51 * p) (nI (dc_w a p - 1))
theorem dc_tkV {a : Nat → Int32} {p w : Nat} (h : dc_V a) (hp : p < 24) (hw : w < dc_w a p) : dc_V (dc_tk a p w) ∧ dc_w (dc_tk a p w) p = dc_w a p - 1 := by
  obtain ⟨e2, h16⟩ := dc_Vw h hp
  have ew : dc_w (dc_tk a p w) p = dc_w a p - 1 := by
    show (dc_tk a p w (78 + 51 * p)).toNatClampNeg = _
    unfold dc_tk; rw [pk_us, nI_clamp (by omega)]
  refine ⟨dc_rec h hp (fun i hi => by unfold dc_tk; rw [pk_un (by omega), cp_out (by omega)]) ?_, ew⟩
  have e8 : 76 + 51 * p + 2 = 78 + 51 * p := by omega
  refine ⟨by show dc_N (dc_tk a p w _) 5; unfold dc_tk; rw [pk_un (by omega), cp_out (by omega)]; exact (h.2.2.2.2.1 p hp).1, ?_, fun v hv => ?_⟩
  · show dc_N (dc_tk a p w (76 + 51 * p + 2)) 16
    rw [e8]; unfold dc_tk; rw [pk_us]; exact dc_Nm (by omega) (by omega)
  · have hv' : v < dc_w (dc_tk a p w) p := by
      have z : v < (dc_tk a p w (76 + 51 * p + 2)).toNatClampNeg := hv
      rw [e8] at z; exact z
    rw [ew] at hv'
    have f : ∀ j, j < 3 → dc_tk a p w (76 + 51 * p + (3 + j + 3 * v)) = if v < w then a (79 + 51 * p + 3 * v + j) else a (79 + 51 * p + 3 * (v + 1) + j) := by
      intro j hj
      unfold dc_tk
      rw [pk_un (by omega)]
      by_cases q : v < w
      · rw [if_pos q, cp_out (by omega)]; exact congrArg a (by omega)
      · rw [if_neg q, cp_in (by omega) (by omega)]; exact congrArg a (by omega)
    have g0 := f 0 (by omega)
    have g1 := f 1 (by omega)
    have g2 := f 2 (by omega)
    show dc_W (dc_tk a p w (76 + 51 * p + (3 + 3 * v))) (dc_tk a p w (76 + 51 * p + (4 + 3 * v))) (dc_tk a p w (76 + 51 * p + (5 + 3 * v)))
    rw [show 3 + 3 * v = 3 + 0 + 3 * v from by omega, g0, show 4 + 3 * v = 3 + 1 + 3 * v from by omega, g1, show 5 + 3 * v = 3 + 2 + 3 * v from by omega, g2]
    by_cases q : v < w
    · rw [if_pos q, if_pos q, if_pos q]
      have z := dc_Vo h hp (w := v) (by omega)
      rw [show 80 + 51 * p + 3 * v = 79 + 51 * p + 3 * v + 1 from by omega, show 81 + 51 * p + 3 * v = 79 + 51 * p + 3 * v + 2 from by omega] at z
      exact z
    · rw [if_neg q, if_neg q, if_neg q]
      have z := dc_Vo h hp (w := v + 1) (by omega)
      rw [show 80 + 51 * p + 3 * (v + 1) = 79 + 51 * p + 3 * (v + 1) + 1 from by omega, show 81 + 51 * p + 3 * (v + 1) = 79 + 51 * p + 3 * (v + 1) + 2 from by omega] at z
      exact z
