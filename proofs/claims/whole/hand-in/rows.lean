section
theorem pk_us {f : Nat → Int32} {k : Nat} {x : Int32} : upd f k x k = x := if_pos rfl
theorem pk_un {f : Nat → Int32} {k j : Nat} {x : Int32} (h : j ≠ k) : upd f k x j = f j := if_neg h
theorem pk_sub {a b : Nat} (h : b ≤ a) : nI a - nI b = nI (a - b) := by
  obtain ⟨c, rfl⟩ : ∃ c, a = c + b := ⟨a - b, by omega⟩
  rw [← nI_add, Int32.add_sub_cancel, Nat.add_sub_cancel]
theorem pk_m1 (n : Nat) : nI (n + 1) + (-1) = nI n := by
  rw [← nI_1, Int32.add_assoc, show (1 : Int32) + (-1) = 0 from rfl, Int32.add_zero]
theorem pk_mul (a b : Nat) : nI a * nI b = nI (a * b) := (Int32.ofNat_mul a b).symm
theorem pk_div {a d : Nat} (ha : a < 2 ^ 31) (h0 : 0 < d) (hd : d < 2 ^ 31) : nI a / nI d = nI (a / d) := by
  apply Int32.toInt_inj.mp
  rw [lg_idiv_nonneg (by rw [nI_toInt ha]; omega) (by rw [nI_toInt hd]; omega), nI_toInt ha, nI_toInt hd, nI_toInt (Nat.lt_of_le_of_lt (Nat.div_le_self a d) ha)]
  first | rfl | exact (Int.natCast_ediv _ _).symm
theorem pk_rem {a d : Nat} (ha : a < 2 ^ 31) (h0 : 0 < d) (hd : d < 2 ^ 31) : nI a - nI a / nI d * nI d = nI (a % d) := by
  rw [pk_div ha h0 hd, pk_mul, pk_sub (Nat.div_mul_le_self a d)]
  exact congrArg nI (by have := Nat.div_add_mod' a d; omega)
theorem pk_sub_toInt {a b : Nat} (ha : a < 2 ^ 30) (hb : b < 2 ^ 30) : (nI a - nI b).toInt = (a : Int) - b := by
  rw [Int32.toInt_sub, nI_toInt (by omega), nI_toInt (by omega)]
  exact Int.bmod_eq_of_le (by omega) (by omega)
theorem pk_sneg {a b : Nat} (hb : b < 2 ^ 30) (h : a < b) : nI a - nI b < 0 := by
  rw [Int32.lt_iff_toInt_lt, pk_sub_toInt (by omega) hb, show (0 : Int32).toInt = 0 from by decide]
  omega
theorem pk_ix (x : Int32) {n : Nat} (hn : n < 2 ^ 31) : x < 0 ∨ nI n ≤ x ∨ ∃ j : Nat, j < n ∧ x = nI j := by
  by_cases h : x < 0
  · exact Or.inl h
  · obtain ⟨j, hj, rfl⟩ := nI_of h
    by_cases h2 : j < n
    · exact Or.inr (Or.inr ⟨j, h2, rfl⟩)
    · exact Or.inr (Or.inl (nI_le (by omega) hj))
theorem pk_le {x y : Int32} {A B : Prop} (a b : Nat) (f : a ≤ b → A) (g : b < a → B) (hx : x = nI a := by rfl) (hy : y = nI b := by rfl) (ha : a < 2 ^ 31 := by omega) (hb : b < 2 ^ 31 := by omega) : (x ≤ y → A) ∧ (¬ x ≤ y → B) := by
  subst hx hy
  rw [nI_leI ha hb]
  exact ⟨f, fun z => g (by omega)⟩
theorem pk_lt {x y : Int32} {A B : Prop} (a b : Nat) (f : a < b → A) (g : b ≤ a → B) (hx : x = nI a := by rfl) (hy : y = nI b := by rfl) (ha : a < 2 ^ 31 := by omega) (hb : b < 2 ^ 31 := by omega) : (x < y → A) ∧ (¬ x < y → B) := by
  subst hx hy
  rw [nI_ltI ha hb]
  exact ⟨f, fun z => g (by omega)⟩
theorem pk_eq {x y : Int32} {A B : Prop} (a b : Nat) (f : a = b → A) (g : a ≠ b → B) (hx : x = nI a := by rfl) (hy : y = nI b := by rfl) (ha : a < 2 ^ 31 := by omega) (hb : b < 2 ^ 31 := by omega) : (x = y → A) ∧ (¬ x = y → B) := by
  subst hx hy
  rw [nI_eq ha hb]
  exact ⟨f, g⟩
theorem pk_in {x : Int32} (n N : Nat) (h : n < N) (hx : x = nI n := by rfl) (hN : N < 2 ^ 31 := by omega) : vp_in x N := by
  subst hx
  exact vp_in_nI h hN
theorem pk_cl {x : Int32} (n : Nat) (hx : x = nI n := by rfl) (h : n < 2 ^ 31 := by omega) : x.toNatClampNeg = n := by
  subst hx
  exact nI_clamp h
theorem pk_loop {σ : Type} (W : Nat → Nat → σ → Prop) (I : Nat → σ → Prop) (e i0 : Nat) (s : σ) (hi : i0 ≤ e) (h0 : I i0 s) (hx : ∀ n s, I e s → W (n + 1) e s)
    (hs : ∀ n i s, i < e → I i s → (∀ s', I (i + 1) s' → W n (i + 1) s') → W (n + 1) i s) : ∃ n, W n i0 s :=
  ⟨e + 1, loop_i W I e hx hs (e + 1) i0 s hi (by omega) h0⟩
theorem pk_loopD {σ : Type} (W : Nat → Nat → σ → Prop) (I : Nat → σ → Prop) (hx : ∀ n s, I 0 s → W (n + 1) 0 s)
    (hs : ∀ n i s, I (i + 1) s → (∀ s', I i s' → W n i s') → W (n + 1) (i + 1) s) : ∀ (e : Nat) (s : σ), I e s → W (e + 1) e s := by
  intro e
  induction e with
  | zero => exact fun s h => hx 0 s h
  | succ e ih => exact fun s h => hs (e + 1) e s h (fun s' h' => ih s' h')
theorem li_ {n : Nat} : (OfNat.ofNat n : Int32) = nI n := rfl
/-- a block of one array copied within it -/
def cp_b (g : Nat → Int32) (s t n : Nat) : Nat → Int32 := fun i => if t ≤ i ∧ i < t + n then g (i + s - t) else g i
theorem cp_in {g : Nat → Int32} {s t n i : Nat} (h1 : t ≤ i) (h2 : i < t + n) : cp_b g s t n i = g (i + s - t) := if_pos ⟨h1, h2⟩
theorem cp_out {g : Nat → Int32} {s t n i : Nat} (h : i < t ∨ t + n ≤ i) : cp_b g s t n i = g i := if_neg (by omega)
theorem cp_0 {g : Nat → Int32} {s t : Nat} : cp_b g s t 0 = g := funext fun i => if_neg (by omega)
theorem cp_s {g : Nat → Int32} {s t n : Nat} (h : s + n < t ∨ t ≤ s) : upd (cp_b g s t n) (t + n) (cp_b g s t n (s + n)) = cp_b g s t (n + 1) := by
  funext i
  by_cases e : i = t + n
  · subst e
    rw [pk_us, cp_out (by omega), cp_in (by omega) (by omega)]
    exact congrArg g (by omega)
  · rw [pk_un e]
    by_cases h2 : t ≤ i ∧ i < t + n
    · rw [cp_in h2.1 h2.2, cp_in h2.1 (by omega)]
    · rw [cp_out (by omega), cp_out (by omega)]
/-- a block of an array written from another one -/
def st_b (k : Nat → Int32) (t n : Nat) (g : Nat → Int32) : Nat → Int32 := fun i => if t ≤ i ∧ i < t + n then g (i - t) else k i
theorem st_in {k g : Nat → Int32} {t n i : Nat} (h1 : t ≤ i) (h2 : i < t + n) : st_b k t n g i = g (i - t) := if_pos ⟨h1, h2⟩
theorem st_out {k g : Nat → Int32} {t n i : Nat} (h : i < t ∨ t + n ≤ i) : st_b k t n g i = k i := if_neg (by omega)
theorem st_0 {k g : Nat → Int32} {t : Nat} : st_b k t 0 g = k := funext fun i => if_neg (by omega)
theorem st_s {k g : Nat → Int32} {t n : Nat} : upd (st_b k t n g) (t + n) (g n) = st_b k t (n + 1) g := by
  funext i
  by_cases e : i = t + n
  · subst e
    rw [pk_us, st_in (by omega) (by omega)]
    exact congrArg g (by omega)
  · rw [pk_un e]
    by_cases h2 : t ≤ i ∧ i < t + n
    · rw [st_in h2.1 h2.2, st_in h2.1 (by omega)]
    · rw [st_out (by omega), st_out (by omega)]
/-- addresses in the document's one array -/
theorem ad_r (p : Nat) : (76 : Int32) + nI p * 51 = nI (76 + 51 * p) := by
  simp only [li_, pk_mul, nI_add]; exact congrArg nI (by omega)
theorem ad_j (p j : Nat) : nI (76 + 51 * p) + nI j = nI (76 + 51 * p + j) := nI_add _ _
theorem ad_w (p w : Nat) : ((76 : Int32) + nI p * 51) + 3 + nI w * 3 = nI (79 + 51 * p + 3 * w) := by
  simp only [li_, pk_mul, nI_add]; exact congrArg nI (by omega)
theorem ad_s (s t : Nat) : (4 : Int32) + nI s * 12 + nI t = nI (4 + 12 * s + t) := by
  simp only [li_, pk_mul, nI_add]; exact congrArg nI (by omega)
theorem ad_l (p k : Nat) : nI p * 16 + nI k = nI (16 * p + k) := by
  simp only [li_, pk_mul, nI_add]; exact congrArg nI (by omega)
theorem ad_yp (d p : Nat) : (24 : Int32) * nI d + nI p = nI (24 * d + p) := by
  simp only [li_, pk_mul, nI_add]
theorem ad_yw (d p w : Nat) : (384 : Int32) * nI d + 16 * nI p + nI w = nI (384 * d + 16 * p + w) := by
  simp only [li_, pk_mul, nI_add]
theorem ad_yl (p w : Nat) : (16 : Int32) * nI p + nI w = nI (16 * p + w) := by
  simp only [li_, pk_mul, nI_add]
theorem ad_ys (d s t : Nat) : (72 : Int32) * nI d + 12 * nI s + nI t = nI (72 * d + 12 * s + t) := by
  simp only [li_, pk_mul, nI_add]
/-- an index given by its number -/
theorem ix_in {x : Int32} {n N : Nat} (hx : x = nI n) (h : n < N) (hN : N < 2 ^ 31) : vp_in x N := by subst hx; exact vp_in_nI h hN
theorem ix_c {x : Int32} {n : Nat} (hx : x = nI n) (h : n < 2 ^ 31) : x.toNatClampNeg = n := by subst hx; exact nI_clamp h
theorem ad_0 (a : Nat) : nI a + 0 = nI a := nI_add a 0
theorem ad_2 (a : Nat) : nI a + 2 = nI (a + 2) := nI_add a 2
theorem ad_3 (a : Nat) : nI a + 3 = nI (a + 3) := nI_add a 3
end
section
/-- a small number: 0 .. m -/
def dc_N (x : Int32) (m : Nat) : Prop := x = nI x.toNatClampNeg ∧ x.toNatClampNeg ≤ m
theorem dc_Nm {n m : Nat} (h : n ≤ m) (hm : m < 2 ^ 31) : dc_N (nI n) m := by
  unfold dc_N; rw [nI_clamp (by omega)]; exact ⟨rfl, h⟩
theorem dc_Nx {x : Int32} {n m : Nat} (e : x = nI n) (h : n ≤ m) (hm : m < 2 ^ 31) : dc_N x m := by subst e; exact dc_Nm h hm
/-- how many paragraphs; how many words; the style's number; a style's value -/
def dc_n (a : Nat → Int32) : Nat := (a 0).toNatClampNeg
def dc_w (a : Nat → Int32) (p : Nat) : Nat := (a (78 + 51 * p)).toNatClampNeg
def dc_s (a : Nat → Int32) (p : Nat) : Nat := (a (76 + 51 * p)).toNatClampNeg
def dc_v (a : Nat → Int32) (p t : Nat) : Int32 := a (4 + 12 * dc_s a p + t)
/-- a word; a record; a style's cell; the document -/
def dc_W (wi no st : Int32) : Prop := (-8 ≤ wi.toInt ∧ wi.toInt ≤ 30 ∧ wi ≠ 0) ∧ dc_N no 3 ∧ dc_N st 2
def dc_R (r : Nat → Int32) : Prop := dc_N (r 0) 5 ∧ dc_N (r 2) 16 ∧ ∀ w, w < (r 2).toNatClampNeg → dc_W (r (3 + 3 * w)) (r (4 + 3 * w)) (r (5 + 3 * w))
def dc_T (t : Nat) (x : Int32) : Prop := (t = 3 ∨ t = 4 → dc_N x 9) ∧ (t = 5 → dc_N x 4) ∧ (t = 7 → dc_N x 3) ∧ (t = 11 → dc_N x 1)
def dc_V (a : Nat → Int32) : Prop := dc_N (a 0) 24 ∧ dc_N (a 2) 60 ∧ (a 3 = 1 ∨ a 3 = 2) ∧ (∀ s t, s < 6 → t < 12 → dc_T t (a (4 + 12 * s + t)))
  ∧ (∀ p, p < 24 → dc_R (fun i => a (76 + 51 * p + i))) ∧ (∀ i, 1300 ≤ i → a i = 0)
theorem dc_Vn {a : Nat → Int32} (h : dc_V a) : a 0 = nI (dc_n a) ∧ dc_n a ≤ 24 := h.1
theorem dc_Vs {a : Nat → Int32} (h : dc_V a) {p : Nat} (hp : p < 24) : a (76 + 51 * p) = nI (dc_s a p) ∧ dc_s a p ≤ 5 := (h.2.2.2.2.1 p hp).1
theorem dc_Vw {a : Nat → Int32} (h : dc_V a) {p : Nat} (hp : p < 24) : a (78 + 51 * p) = nI (dc_w a p) ∧ dc_w a p ≤ 16 := by
  have z := (h.2.2.2.2.1 p hp).2.1
  have e : 76 + 51 * p + 2 = 78 + 51 * p := by omega
  unfold dc_w
  rw [← e]
  exact z
theorem dc_Vo {a : Nat → Int32} (h : dc_V a) {p w : Nat} (hp : p < 24) (hw : w < dc_w a p) : dc_W (a (79 + 51 * p + 3 * w)) (a (80 + 51 * p + 3 * w)) (a (81 + 51 * p + 3 * w)) := by
  have z := (h.2.2.2.2.1 p hp).2.2 w (by
    have e : 76 + 51 * p + 2 = 78 + 51 * p := by omega
    unfold dc_w at hw
    rw [← e] at hw
    exact hw)
  have e1 : 76 + 51 * p + (3 + 3 * w) = 79 + 51 * p + 3 * w := by omega
  have e2 : 76 + 51 * p + (4 + 3 * w) = 80 + 51 * p + 3 * w := by omega
  have e3 : 76 + 51 * p + (5 + 3 * w) = 81 + 51 * p + 3 * w := by omega
  rw [← e1, ← e2, ← e3]
  exact z
/-- a record is another one, all else stays -/
theorem dc_rec {a b : Nat → Int32} {p : Nat} (h : dc_V a) (hp : p < 24) (ho : ∀ i, i < 76 + 51 * p ∨ 127 + 51 * p ≤ i → b i = a i) (hr : dc_R (fun i => b (76 + 51 * p + i))) : dc_V b := by
  obtain ⟨h1, h2, h3, h4, h5, h6⟩ := h
  refine ⟨by rw [ho 0 (by omega)]; exact h1, by rw [ho 2 (by omega)]; exact h2, by rw [ho 3 (by omega)]; exact h3, fun s t hs ht => by rw [ho _ (by omega)]; exact h4 s t hs ht, fun q hq => ?_, fun i hi => by rw [ho i (by omega)]; exact h6 i hi⟩
  by_cases e : q = p
  · subst e; exact hr
  · obtain ⟨z1, z2, z3⟩ := h5 q hq
    refine ⟨by show dc_N (b _) 5; rw [ho _ (by omega)]; exact z1, by show dc_N (b _) 16; rw [ho _ (by omega)]; exact z2, fun w hw => ?_⟩
    have hw2 : w < (a (76 + 51 * q + 2)).toNatClampNeg := by
      have hw' : w < (b (76 + 51 * q + 2)).toNatClampNeg := hw
      rw [ho _ (by omega)] at hw'; exact hw'
    have hw3 : (a (76 + 51 * q + 2)).toNatClampNeg ≤ 16 := z2.2
    show dc_W (b _) (b _) (b _)
    rw [ho _ (by omega), ho _ (by omega), ho _ (by omega)]
    exact z3 w hw2
/-- the cells before the records change -/
theorem dc_head {a b : Nat → Int32} (h : dc_V a) (ho : ∀ i, 76 ≤ i → b i = a i) (h1 : dc_N (b 0) 24) (h2 : dc_N (b 2) 60) (h3 : b 3 = 1 ∨ b 3 = 2) (h4 : ∀ s t, s < 6 → t < 12 → dc_T t (b (4 + 12 * s + t))) : dc_V b := by
  obtain ⟨_, _, _, _, h5, h6⟩ := h
  refine ⟨h1, h2, h3, h4, fun q hq => ?_, fun i hi => by rw [ho i (by omega)]; exact h6 i hi⟩
  have e : (fun i => b (76 + 51 * q + i)) = fun i => a (76 + 51 * q + i) := funext fun i => ho _ (by omega)
  rw [e]; exact h5 q hq
theorem dc_many {a : Nat → Int32} (h : dc_V a) {n : Nat} (hn : n ≤ 24) : dc_V (upd a 0 (nI n)) :=
  dc_head h (fun i hi => pk_un (by omega)) (by rw [pk_us]; exact dc_Nm hn (by omega)) (by rw [pk_un (by omega)]; exact h.2.1) (by rw [pk_un (by omega)]; exact h.2.2.1)
    (fun s t hs ht => by rw [pk_un (by omega)]; exact h.2.2.2.1 s t hs ht)
/-- a record copied -/
def dc_cp (a : Nat → Int32) (f t : Nat) : Nat → Int32 := cp_b a (76 + 51 * f) (76 + 51 * t) 51
theorem dc_cpV {a : Nat → Int32} {f t : Nat} (h : dc_V a) (hf : f < 24) (ht : t < 24) : dc_V (dc_cp a f t) := by
  refine dc_rec h ht (fun i hi => cp_out (by omega)) ?_
  obtain ⟨z1, z2, z3⟩ := h.2.2.2.2.1 f hf
  have e : ∀ i, i < 51 → dc_cp a f t (76 + 51 * t + i) = a (76 + 51 * f + i) := fun i hi => by
    unfold dc_cp; rw [cp_in (by omega) (by omega)]; exact congrArg a (by omega)
  refine ⟨by show dc_N (dc_cp a f t _) 5; rw [e 0 (by omega)]; exact z1, by show dc_N (dc_cp a f t _) 16; rw [e 2 (by omega)]; exact z2, fun w hw => ?_⟩
  have hw2 : w < (a (76 + 51 * f + 2)).toNatClampNeg := by
    have hw' : w < (dc_cp a f t (76 + 51 * t + 2)).toNatClampNeg := hw
    rw [e 2 (by omega)] at hw'; exact hw'
  have hw3 : (a (76 + 51 * f + 2)).toNatClampNeg ≤ 16 := z2.2
  show dc_W (dc_cp a f t _) (dc_cp a f t _) (dc_cp a f t _)
  rw [e _ (by omega), e _ (by omega), e _ (by omega)]
  exact z3 w hw2
theorem dc_cp0 {a : Nat → Int32} {f t : Nat} : dc_cp a f t 0 = a 0 := cp_out (by omega)
/-- insert's and remove's loops -/
def dc_iL (a : Nat → Int32) (p : Nat) : Nat → Nat → Int32
  | 0 => a
  | d + 1 => dc_iL (dc_cp a (p + d) (p + d + 1)) p d
theorem dc_iLV {p : Nat} : ∀ {d : Nat} {a : Nat → Int32}, dc_V a → p + d < 24 → dc_V (dc_iL a p d) ∧ dc_iL a p d 0 = a 0
  | 0, a, h, _ => ⟨h, rfl⟩
  | d + 1, a, h, hd => by
    have z := dc_iLV (p := p) (d := d) (dc_cpV (f := p + d) (t := p + d + 1) h (by omega) (by omega)) (by omega)
    exact ⟨z.1, z.2.trans dc_cp0⟩
def dc_rL (a : Nat → Int32) : Nat → Nat → Nat → Int32
  | _, 0 => a
  | q, d + 1 => dc_rL (dc_cp a (q + 1) q) (q + 1) d
theorem dc_rLV : ∀ {d q : Nat} {a : Nat → Int32}, dc_V a → q + d < 24 → dc_V (dc_rL a q d) ∧ dc_rL a q d 0 = a 0
  | 0, _, a, h, _ => ⟨h, rfl⟩
  | d + 1, q, a, h, hd => by
    have z := dc_rLV (d := d) (q := q + 1) (dc_cpV (f := q + 1) (t := q) h (by omega) (by omega)) (by omega)
    exact ⟨z.1, z.2.trans dc_cp0⟩
theorem dc_cpc {a : Nat → Int32} {f t : Nat} {v : Int32} : dc_cp (upd a 0 v) f t = upd (dc_cp a f t) 0 v := by
  funext i
  unfold dc_cp
  by_cases e : i = 0
  · subst e; rw [pk_us, cp_out (by omega), pk_us]
  · rw [pk_un e]
    by_cases h : 76 + 51 * t ≤ i ∧ i < 76 + 51 * t + 51
    · rw [cp_in h.1 h.2, cp_in h.1 h.2, pk_un (by omega)]
    · rw [cp_out (by omega), cp_out (by omega), pk_un e]
theorem dc_rLc {v : Int32} : ∀ {d q : Nat} {a : Nat → Int32}, dc_rL (upd a 0 v) q d = upd (dc_rL a q d) 0 v
  | 0, _, _ => rfl
  | d + 1, q, a => by show dc_rL (dc_cp (upd a 0 v) (q + 1) q) (q + 1) d = _; rw [dc_cpc]; exact dc_rLc
/-- one of a record's cells -/
theorem dc_cell {a : Nat → Int32} {p j : Nat} {v : Int32} (h : dc_V a) (hp : p < 24) (hj : j < 51) (hr : dc_R (upd (fun i => a (76 + 51 * p + i)) j v)) : dc_V (upd a (76 + 51 * p + j) v) := by
  refine dc_rec h hp (fun i hi => pk_un (by omega)) ?_
  have e : (fun i => upd a (76 + 51 * p + j) v (76 + 51 * p + i)) = upd (fun i => a (76 + 51 * p + i)) j v := by
    funext i
    by_cases q : i = j
    · subst q; rw [pk_us, pk_us]
    · rw [pk_un q, pk_un (by omega)]
  rw [e]; exact hr
theorem dc_R0 {r : Nat → Int32} (h : dc_R r) {s : Nat} (hs : s ≤ 5) : dc_R (upd r 0 (nI s)) := by
  obtain ⟨z1, z2, z3⟩ := h
  refine ⟨by rw [pk_us]; exact dc_Nm hs (by omega), by rw [pk_un (by omega)]; exact z2, fun w hw => ?_⟩
  rw [pk_un (by omega)] at hw
  rw [pk_un (by omega), pk_un (by omega), pk_un (by omega)]; exact z3 w hw
theorem dc_R1 {r : Nat → Int32} (h : dc_R r) {v : Int32} : dc_R (upd r 1 v) := by
  obtain ⟨z1, z2, z3⟩ := h
  refine ⟨by rw [pk_un (by omega)]; exact z1, by rw [pk_un (by omega)]; exact z2, fun w hw => ?_⟩
  rw [pk_un (by omega)] at hw
  rw [pk_un (by omega), pk_un (by omega), pk_un (by omega)]; exact z3 w hw
/-- fewer words -/
theorem dc_R2 {r : Nat → Int32} (h : dc_R r) {n : Nat} (hn : n ≤ (r 2).toNatClampNeg) : dc_R (upd r 2 (nI n)) := by
  obtain ⟨z1, z2, z3⟩ := h
  have z22 := z2.2
  refine ⟨by rw [pk_un (by omega)]; exact z1, by rw [pk_us]; exact dc_Nm (by omega) (by omega), fun w hw => ?_⟩
  rw [pk_us, nI_clamp (by omega)] at hw
  rw [pk_un (by omega), pk_un (by omega), pk_un (by omega)]; exact z3 w (by omega)
/-- a word's state -/
theorem dc_R5 {r : Nat → Int32} (h : dc_R r) {w : Nat} {s : Nat} (hs : s ≤ 2) : dc_R (upd r (5 + 3 * w) (nI s)) := by
  obtain ⟨z1, z2, z3⟩ := h
  refine ⟨by rw [pk_un (by omega)]; exact z1, by rw [pk_un (by omega)]; exact z2, fun v hv => ?_⟩
  rw [pk_un (by omega)] at hv
  obtain ⟨y1, y2, y3⟩ := z3 v hv
  rw [pk_un (by omega), pk_un (by omega)]
  refine ⟨y1, y2, ?_⟩
  by_cases e : v = w
  · subst e; rw [pk_us]; exact dc_Nm hs (by omega)
  · rw [pk_un (by omega)]; exact y3
/-- a word taken out: those behind it move -/
def dc_tk (a : Nat → Int32) (p w : Nat) : Nat → Int32 :=
  upd (cp_b a (82 + 51 * p + 3 * w) (79 + 51 * p + 3 * w) (3 * (dc_w a p - 1 - w))) (78 + 51 * p) (nI (dc_w a p - 1))
theorem dc_tkV {a : Nat → Int32} {p w : Nat} (h : dc_V a) (hp : p < 24) (hw : w < dc_w a p) : dc_V (dc_tk a p w) ∧ dc_w (dc_tk a p w) p = dc_w a p - 1 := by
  obtain ⟨e2, h16⟩ := dc_Vw h hp
  have ew : dc_w (dc_tk a p w) p = dc_w a p - 1 := by
    show (dc_tk a p w (78 + 51 * p)).toNatClampNeg = _
    unfold dc_tk; rw [pk_us, nI_clamp (by omega)]
  refine ⟨dc_rec h hp (fun i hi => by unfold dc_tk; rw [pk_un (by omega), cp_out (by omega)]) ?_, ew⟩
  have e8 : 76 + 51 * p + 2 = 78 + 51 * p := by omega
  refine ⟨by show dc_N (dc_tk a p w _) 5; unfold dc_tk; rw [pk_un (by omega), cp_out (by omega)]; exact (h.2.2.2.2.1 p hp).1, ?_, fun v hv => ?_⟩
  · show dc_N (dc_tk a p w (76 + 51 * p + 2)) 16
    rw [e8]; unfold dc_tk; rw [pk_us]; exact dc_Nm (by omega) (by omega)
  · have hv' : v < dc_w (dc_tk a p w) p := by
      have z : v < (dc_tk a p w (76 + 51 * p + 2)).toNatClampNeg := hv
      rw [e8] at z; exact z
    rw [ew] at hv'
    have f : ∀ j, j < 3 → dc_tk a p w (76 + 51 * p + (3 + j + 3 * v)) = if v < w then a (79 + 51 * p + 3 * v + j) else a (79 + 51 * p + 3 * (v + 1) + j) := by
      intro j hj
      unfold dc_tk
      rw [pk_un (by omega)]
      by_cases q : v < w
      · rw [if_pos q, cp_out (by omega)]; exact congrArg a (by omega)
      · rw [if_neg q, cp_in (by omega) (by omega)]; exact congrArg a (by omega)
    have g0 := f 0 (by omega)
    have g1 := f 1 (by omega)
    have g2 := f 2 (by omega)
    show dc_W (dc_tk a p w (76 + 51 * p + (3 + 3 * v))) (dc_tk a p w (76 + 51 * p + (4 + 3 * v))) (dc_tk a p w (76 + 51 * p + (5 + 3 * v)))
    rw [show 3 + 3 * v = 3 + 0 + 3 * v from by omega, g0, show 4 + 3 * v = 3 + 1 + 3 * v from by omega, g1, show 5 + 3 * v = 3 + 2 + 3 * v from by omega, g2]
    by_cases q : v < w
    · rw [if_pos q, if_pos q, if_pos q]
      have z := dc_Vo h hp (w := v) (by omega)
      rw [show 80 + 51 * p + 3 * v = 79 + 51 * p + 3 * v + 1 from by omega, show 81 + 51 * p + 3 * v = 79 + 51 * p + 3 * v + 2 from by omega] at z
      exact z
    · rw [if_neg q, if_neg q, if_neg q]
      have z := dc_Vo h hp (w := v + 1) (by omega)
      rw [show 80 + 51 * p + 3 * (v + 1) = 79 + 51 * p + 3 * (v + 1) + 1 from by omega, show 81 + 51 * p + 3 * (v + 1) = 79 + 51 * p + 3 * (v + 1) + 2 from by omega] at z
      exact z
end
section
variable {x_tracking x_view x_slotNow x_stepsBack x_stepsAgain x_stale x_rounds x_columnCount : Int32} {x_doc x_kept x_referenceWidth x_labelValue x_labelWidth x_lineCount x_gapBefore x_headNeeds x_groupNeeds x_wordLine x_wordLeft x_lineFirst x_lineWords x_lineLeft x_lineSlack x_lineNotes x_lineColumn x_lineTop x_columnParagraph x_columnFirst x_columnLines x_columnNotes x_columnFilled : Nat → Int32}
theorem xs_saveL {post : SX → Prop} {s : Nat} (h21 : s < 21) (h : post (x_tracking, x_view, x_slotNow, x_stepsBack, x_stepsAgain, x_stale, x_rounds, x_columnCount, x_doc, (st_b x_kept (1300 * s) 1300 x_doc), x_referenceWidth, x_labelValue, x_labelWidth, x_lineCount, x_gapBefore, x_headNeeds, x_groupNeeds, x_wordLine, x_wordLeft, x_lineFirst, x_lineWords, x_lineLeft, x_lineSlack, x_lineNotes, x_lineColumn, x_lineTop, x_columnParagraph, x_columnFirst, x_columnLines, x_columnNotes, x_columnFilled)) : ∀ n i, i + n = 1300 →
    wX_saveState_11 post (nI (1300 * s)) x_tracking x_view x_slotNow x_stepsBack x_stepsAgain x_stale x_rounds x_columnCount (n + 1) (nI i) x_doc (st_b x_kept (1300 * s) i x_doc) x_referenceWidth x_labelValue x_labelWidth x_lineCount x_gapBefore x_headNeeds x_groupNeeds x_wordLine x_wordLeft x_lineFirst x_lineWords x_lineLeft x_lineSlack x_lineNotes x_lineColumn x_lineTop x_columnParagraph x_columnFirst x_columnLines x_columnNotes x_columnFilled
  | 0, i, hi => by
    obtain rfl : i = 1300 := by omega
    exact br_t (nI_le (a := 1300) (b := 1300) (by omega) (by omega)) h
  | n + 1, i, hi => by
    refine br_f (nI_ge (b := 1300) (by omega) (by omega)) ⟨vp_in_nI (by omega) (by omega), ix_in (nI_add _ _) (by omega) (by omega), nm_r (e' := st_b x_kept (1300 * s) (i + 1) x_doc) ?_ (nm_r (nI_1 i) (xs_saveL h21 h n (i + 1) (by omega)))⟩
    rw [nI_add, nI_clamp (by omega), nI_clamp (by omega)]
    exact st_s
theorem xs_save {post : SX → Prop} {s : Nat} (hs : x_slotNow = nI s) (h21 : s < 21) (h : post (x_tracking, x_view, x_slotNow, x_stepsBack, x_stepsAgain, x_stale, x_rounds, x_columnCount, x_doc, (st_b x_kept (1300 * s) 1300 x_doc), x_referenceWidth, x_labelValue, x_labelWidth, x_lineCount, x_gapBefore, x_headNeeds, x_groupNeeds, x_wordLine, x_wordLeft, x_lineFirst, x_lineWords, x_lineLeft, x_lineSlack, x_lineNotes, x_lineColumn, x_lineTop, x_columnParagraph, x_columnFirst, x_columnLines, x_columnNotes, x_columnFilled)) : wpX_saveState post (x_tracking, x_view, x_slotNow, x_stepsBack, x_stepsAgain, x_stale, x_rounds, x_columnCount, x_doc, x_kept, x_referenceWidth, x_labelValue, x_labelWidth, x_lineCount, x_gapBefore, x_headNeeds, x_groupNeeds, x_wordLine, x_wordLeft, x_lineFirst, x_lineWords, x_lineLeft, x_lineSlack, x_lineNotes, x_lineColumn, x_lineTop, x_columnParagraph, x_columnFirst, x_columnLines, x_columnNotes, x_columnFilled) := by
  refine nm_r (e' := nI (1300 * s)) ?_ ⟨1301, ?_⟩
  · subst hs; simp only [li_, pk_mul]; exact congrArg nI (by omega)
  · have z := xs_saveL (post := post) h21 h 1300 0 rfl
    rw [st_0] at z
    exact z
theorem xs_keep {post : SX → Prop} {s b : Nat} (hs : x_slotNow = nI s) (h21 : s < 21) (hb : x_stepsBack = nI b) (h20 : b ≤ 20)
    (h : post (x_tracking, x_view, (nI ((s + 1) % 21)), (nI (if b < 20 then b + 1 else b)), 0, 1, x_rounds, x_columnCount, x_doc, (st_b x_kept (1300 * ((s + 1) % 21)) 1300 x_doc), x_referenceWidth, x_labelValue, x_labelWidth, x_lineCount, x_gapBefore, x_headNeeds, x_groupNeeds, x_wordLine, x_wordLeft, x_lineFirst, x_lineWords, x_lineLeft, x_lineSlack, x_lineNotes, x_lineColumn, x_lineTop, x_columnParagraph, x_columnFirst, x_columnLines, x_columnNotes, x_columnFilled)) : wpX_keepStep post (x_tracking, x_view, x_slotNow, x_stepsBack, x_stepsAgain, x_stale, x_rounds, x_columnCount, x_doc, x_kept, x_referenceWidth, x_labelValue, x_labelWidth, x_lineCount, x_gapBefore, x_headNeeds, x_groupNeeds, x_wordLine, x_wordLeft, x_lineFirst, x_lineWords, x_lineLeft, x_lineSlack, x_lineNotes, x_lineColumn, x_lineTop, x_columnParagraph, x_columnFirst, x_columnLines, x_columnNotes, x_columnFilled) := by
  refine ⟨by decide, nm_r (e' := nI ((s + 1) % 21)) ?_ (xs_save rfl (by omega) ?_)⟩
  · subst hs; rw [nI_1]; exact pk_rem (d := 21) (by omega) (by omega) (by omega)
  · subst hb
    refine pk_le 20 b (fun z => ?_) (fun z => nm_r (nI_1 b) ?_)
    · rw [if_neg (by omega)] at h; exact h
    · rw [if_pos (by omega)] at h; exact h
theorem xs_loadL {post : SX → Prop} {s : Nat} (h21 : s < 21) (h : post (x_tracking, x_view, x_slotNow, x_stepsBack, x_stepsAgain, x_stale, x_rounds, x_columnCount, (st_b x_doc 0 1300 (fun i => x_kept (1300 * s + i))), x_kept, x_referenceWidth, x_labelValue, x_labelWidth, x_lineCount, x_gapBefore, x_headNeeds, x_groupNeeds, x_wordLine, x_wordLeft, x_lineFirst, x_lineWords, x_lineLeft, x_lineSlack, x_lineNotes, x_lineColumn, x_lineTop, x_columnParagraph, x_columnFirst, x_columnLines, x_columnNotes, x_columnFilled)) : ∀ n i, i + n = 1300 →
    wX_loadState_11 post (nI (1300 * s)) x_tracking x_view x_slotNow x_stepsBack x_stepsAgain x_stale x_rounds x_columnCount (n + 1) (nI i) (st_b x_doc 0 i (fun i => x_kept (1300 * s + i))) x_kept x_referenceWidth x_labelValue x_labelWidth x_lineCount x_gapBefore x_headNeeds x_groupNeeds x_wordLine x_wordLeft x_lineFirst x_lineWords x_lineLeft x_lineSlack x_lineNotes x_lineColumn x_lineTop x_columnParagraph x_columnFirst x_columnLines x_columnNotes x_columnFilled
  | 0, i, hi => by
    obtain rfl : i = 1300 := by omega
    exact br_t (nI_le (a := 1300) (b := 1300) (by omega) (by omega)) h
  | n + 1, i, hi => by
    refine br_f (nI_ge (b := 1300) (by omega) (by omega)) ⟨ix_in (nI_add _ _) (by omega) (by omega), vp_in_nI (by omega) (by omega), nm_r (e' := st_b x_doc 0 (i + 1) (fun i => x_kept (1300 * s + i))) ?_ (nm_r (nI_1 i) (xs_loadL h21 h n (i + 1) (by omega)))⟩
    rw [nI_add, nI_clamp (by omega), nI_clamp (by omega)]
    have z := st_s (k := x_doc) (g := fun i => x_kept (1300 * s + i)) (t := 0) (n := i)
    rw [Nat.zero_add] at z
    exact z
theorem xs_load {post : SX → Prop} {s : Nat} (hs : x_slotNow = nI s) (h21 : s < 21) (h : post (x_tracking, x_view, x_slotNow, x_stepsBack, x_stepsAgain, x_stale, x_rounds, x_columnCount, (st_b x_doc 0 1300 (fun i => x_kept (1300 * s + i))), x_kept, x_referenceWidth, x_labelValue, x_labelWidth, x_lineCount, x_gapBefore, x_headNeeds, x_groupNeeds, x_wordLine, x_wordLeft, x_lineFirst, x_lineWords, x_lineLeft, x_lineSlack, x_lineNotes, x_lineColumn, x_lineTop, x_columnParagraph, x_columnFirst, x_columnLines, x_columnNotes, x_columnFilled)) : wpX_loadState post (x_tracking, x_view, x_slotNow, x_stepsBack, x_stepsAgain, x_stale, x_rounds, x_columnCount, x_doc, x_kept, x_referenceWidth, x_labelValue, x_labelWidth, x_lineCount, x_gapBefore, x_headNeeds, x_groupNeeds, x_wordLine, x_wordLeft, x_lineFirst, x_lineWords, x_lineLeft, x_lineSlack, x_lineNotes, x_lineColumn, x_lineTop, x_columnParagraph, x_columnFirst, x_columnLines, x_columnNotes, x_columnFilled) := by
  refine nm_r (e' := nI (1300 * s)) ?_ ⟨1301, ?_⟩
  · subst hs; simp only [li_, pk_mul]; exact congrArg nI (by omega)
  · have z := xs_loadL (post := post) h21 h 1300 0 rfl
    rw [st_0] at z
    exact z
end
section
theorem op_ix {x : Int32} {n : Nat} (h0 : 0 ≤ x) (h1 : x < nI n) (hn : n < 2 ^ 31) : ∃ j : Nat, j < n ∧ x = nI j := by
  obtain ⟨j, hj, rfl⟩ := nI_of (x := x) (Int32.not_lt.mpr h0)
  exact ⟨j, (nI_ltI hj hn).mp h1, rfl⟩
theorem op_ix2 {x : Int32} {n : Nat} (h0 : 0 ≤ x) (h1 : x ≤ nI n) (hn : n < 2 ^ 31) : ∃ j : Nat, j ≤ n ∧ x = nI j := by
  obtain ⟨j, hj, rfl⟩ := nI_of (x := x) (Int32.not_lt.mpr h0)
  exact ⟨j, (nI_leI hj hn).mp h1, rfl⟩
theorem op_m1 {x : Int32} {n : Nat} (hn : n < 2 ^ 31) (h0 : 0 ≤ x) : x ≤ nI n - 1 ↔ x < nI n := by
  obtain ⟨j, hj, rfl⟩ := nI_of (x := x) (Int32.not_lt.mpr h0)
  rw [nI_ltI hj hn]
  by_cases e : n = 0
  · subst e
    have z : ¬ nI j ≤ nI 0 - 1 := by
      rw [Int32.le_iff_toInt_le, nI_toInt hj, show (nI 0 - 1).toInt = -1 from by decide]; omega
    exact ⟨fun q => absurd q z, fun q => absurd q (by omega)⟩
  · obtain ⟨m, rfl⟩ : ∃ m, n = m + 1 := ⟨n - 1, by omega⟩
    rw [nI_pred, nI_leI hj (by omega)]; omega
/-- insert -/
def op_ins (a : Nat → Int32) (p s : Int32) : Int32 × (Nat → Int32) :=
  if (0 ≤ p ∧ p ≤ a 0) ∧ (0 ≤ s ∧ s ≤ 5) then
    (if a 0 = 24 then (-2, a) else (a 0 + 1, upd (upd (upd (upd (dc_iL a p.toNatClampNeg (dc_n a - p.toNatClampNeg)) (76 + 51 * p.toNatClampNeg) s) (77 + 51 * p.toNatClampNeg) (-1)) (78 + 51 * p.toNatClampNeg) 0) 0 (a 0 + 1)))
  else (-1, a)
def op_rem (a : Nat → Int32) (p : Int32) : Int32 × (Nat → Int32) :=
  if 0 ≤ p ∧ p < a 0 then (a 0 - 1, upd (dc_rL a p.toNatClampNeg (dc_n a - 1 - p.toNatClampNeg)) 0 (a 0 - 1)) else (-1, a)
def op_sty (a : Nat → Int32) (p s : Int32) : Int32 × (Nat → Int32) :=
  if (0 ≤ p ∧ p < a 0) ∧ (0 ≤ s ∧ s ≤ 5) then (0, upd a (76 + 51 * p.toNatClampNeg) s) else (-1, a)
def op_mrk (a : Nat → Int32) (p m : Int32) : Int32 × (Nat → Int32) :=
  if (0 ≤ p ∧ p < a 0) ∧ (-1 ≤ m ∧ m ≤ 7) then (0, upd a (77 + 51 * p.toNatClampNeg) m) else (-1, a)
def op_add (a : Nat → Int32) (p wi no on : Int32) : Int32 × (Nat → Int32) :=
  if (0 ≤ p ∧ p < a 0) ∧ (¬ wi = 0 ∧ -8 ≤ wi ∧ wi ≤ 30) ∧ (0 ≤ no ∧ no ≤ 3) then
    (if a (78 + 51 * p.toNatClampNeg) = 16 then (-2, a) else
      (a (78 + 51 * p.toNatClampNeg) + 1, upd (upd (upd (upd a (79 + 51 * p.toNatClampNeg + 3 * dc_w a p.toNatClampNeg) wi) (80 + 51 * p.toNatClampNeg + 3 * dc_w a p.toNatClampNeg) no)
        (81 + 51 * p.toNatClampNeg + 3 * dc_w a p.toNatClampNeg) (if on = 0 then 0 else 1)) (78 + 51 * p.toNatClampNeg) (a (78 + 51 * p.toNatClampNeg) + 1)))
  else (-1, a)
/-- the last word that is not GONE -/
def dc_lg (a : Nat → Int32) (p : Nat) : Nat → Option Nat
  | 0 => none
  | w + 1 => if a (81 + 51 * p + 3 * w) = 2 then dc_lg a p w else some w
def op_drp (a : Nat → Int32) (p on : Int32) : Int32 × (Nat → Int32) :=
  if 0 ≤ p ∧ p < a 0 then
    (match dc_lg a p.toNatClampNeg (dc_w a p.toNatClampNeg) with
    | none => (-1, a)
    | some w => if ¬ on = 0 ∧ a (81 + 51 * p.toNatClampNeg + 3 * w) = 0 then (a (78 + 51 * p.toNatClampNeg), upd a (81 + 51 * p.toNatClampNeg + 3 * w) 2)
        else (nI (dc_w a p.toNatClampNeg - 1), dc_tk a p.toNatClampNeg w))
  else (-1, a)
def op_lo (t : Nat) : Int32 := if t = 2 then -5 else if t = 5 then 1 else 0
def op_hi (t : Nat) : Int32 := if t < 3 then 10 else if t < 5 then 9 else if t = 5 then 4 else if t < 8 then 3 else 1
def op_stl (a : Nat → Int32) (s t v : Int32) : Int32 × (Nat → Int32) :=
  if (0 ≤ s ∧ s ≤ 5) ∧ (0 ≤ t ∧ t ≤ 11) ∧ (op_lo t.toNatClampNeg ≤ v ∧ v ≤ op_hi t.toNatClampNeg) then (0, upd a (4 + 12 * s.toNatClampNeg + t.toNatClampNeg) v) else (-1, a)
def op_pag (a : Nat → Int32) (w h c : Int32) : Int32 × (Nat → Int32) :=
  if (20 ≤ w ∧ w ≤ 80) ∧ (10 ≤ h ∧ h ≤ 60) ∧ (1 ≤ c ∧ c ≤ 2) then (0, upd (upd (upd a 1 w) 2 h) 3 c) else (-1, a)
/-- how many words are NEW or GONE; resolve's loop -/
def dc_cg (a : Nat → Int32) (p : Nat) : Nat → Nat
  | 0 => 0
  | w + 1 => dc_cg a p w + if a (81 + 51 * p + 3 * w) = 0 then 0 else 1
def dc_rs (p : Nat) (un : Int32) : Nat → (Nat → Int32) → Nat → Int32
  | 0, a => a
  | w + 1, a => dc_rs p un w (if a (81 + 51 * p + 3 * w) = un then dc_tk a p w else upd a (81 + 51 * p + 3 * w) 0)
def op_res (a : Nat → Int32) (p acc : Int32) : Int32 × (Nat → Int32) :=
  if 0 ≤ p ∧ p < a 0 then (nI (dc_cg a p.toNatClampNeg (dc_w a p.toNatClampNeg)), dc_rs p.toNatClampNeg (if acc = 0 then 1 else 2) (dc_w a p.toNatClampNeg) a) else (-1, a)
/-- what a step does -/
def op_go (w p b c on : Int32) (a : Nat → Int32) : Int32 × (Nat → Int32) :=
  if w = 0 then op_ins a p b else if w = 1 then op_rem a p else if w = 2 then op_sty a p b else if w = 3 then op_mrk a p b else if w = 4 then op_add a p b c on
  else if w = 5 then op_drp a p on else if w = 6 then op_stl a p b c else if w = 7 then op_pag a p b c else op_res a p (if b = 1 then 1 else 0)
theorem op_upd2 {a : Nat → Int32} {k : Nat} {v : Int32} (h : a k = v) : upd a k v = a := by
  funext i
  by_cases e : i = k
  · subst e; rw [pk_us, h]
  · exact pk_un e
theorem op_insV {a : Nat → Int32} {p s : Int32} (h : dc_V a) : dc_V (op_ins a p s).2 := by
  unfold op_ins
  obtain ⟨e0, h24⟩ := dc_Vn h
  split
  · rename_i c
    split
    · exact h
    · rename_i c4
      obtain ⟨j, hj, rfl⟩ := op_ix2 c.1.1 (e0 ▸ c.1.2) (by omega)
      obtain ⟨k, hk, rfl⟩ := op_ix2 (n := 5) c.2.1 c.2.2 (by omega)
      have hn : dc_n a < 24 := by
        rcases Nat.lt_or_eq_of_le h24 with z | z
        · exact z
        · exact absurd (by rw [e0, z]; rfl) c4
      show dc_V (upd _ 0 (a 0 + 1))
      rw [e0, nI_1, nI_clamp (by omega)]
      refine dc_many ?_ (by omega)
      have v0 := (dc_iLV (p := j) (d := dc_n a - j) h (by omega)).1
      have v1 := dc_cell (p := j) (j := 0) (v := nI k) v0 (by omega) (by omega) (dc_R0 (v0.2.2.2.2.1 j (by omega)) hk)
      have v2 := dc_cell (p := j) (j := 1) (v := -1) v1 (by omega) (by omega) (dc_R1 (v1.2.2.2.2.1 j (by omega)))
      have v3 := dc_cell (p := j) (j := 2) (v := nI 0) v2 (by omega) (by omega) (dc_R2 (v2.2.2.2.2.1 j (by omega)) (by omega))
      rw [show 76 + 51 * j + 1 = 77 + 51 * j from by omega, show 76 + 51 * j + 2 = 78 + 51 * j from by omega] at v3
      exact v3
  · exact h
theorem op_remV {a : Nat → Int32} {p : Int32} (h : dc_V a) : dc_V (op_rem a p).2 := by
  unfold op_rem
  obtain ⟨e0, h24⟩ := dc_Vn h
  split
  · rename_i c
    obtain ⟨j, hj, rfl⟩ := op_ix c.1 (e0 ▸ c.2) (by omega)
    show dc_V (upd _ 0 (a 0 - 1))
    obtain ⟨m, hm⟩ : ∃ m, dc_n a = m + 1 := ⟨dc_n a - 1, by omega⟩
    rw [e0, hm, nI_pred, nI_clamp (by omega)]
    exact dc_many (dc_rLV h (by omega)).1 (by omega)
  · exact h
theorem op_styV {a : Nat → Int32} {p s : Int32} (h : dc_V a) : dc_V (op_sty a p s).2 := by
  unfold op_sty
  obtain ⟨e0, h24⟩ := dc_Vn h
  split
  · rename_i c
    obtain ⟨j, hj, rfl⟩ := op_ix c.1.1 (e0 ▸ c.1.2) (by omega)
    obtain ⟨k, hk, rfl⟩ := op_ix2 (n := 5) c.2.1 c.2.2 (by omega)
    show dc_V (upd a _ _)
    rw [nI_clamp (by omega)]
    exact dc_cell (p := j) (j := 0) (v := nI k) h (by omega) (by omega) (dc_R0 (h.2.2.2.2.1 j (by omega)) hk)
  · exact h
theorem op_mrkV {a : Nat → Int32} {p m : Int32} (h : dc_V a) : dc_V (op_mrk a p m).2 := by
  unfold op_mrk
  obtain ⟨e0, h24⟩ := dc_Vn h
  split
  · rename_i c
    obtain ⟨j, hj, rfl⟩ := op_ix c.1.1 (e0 ▸ c.1.2) (by omega)
    show dc_V (upd a _ _)
    rw [nI_clamp (by omega)]
    have v := dc_cell (p := j) (j := 1) (v := m) h (by omega) (by omega) (dc_R1 (h.2.2.2.2.1 j (by omega)))
    rw [show 76 + 51 * j + 1 = 77 + 51 * j from by omega] at v
    exact v
  · exact h
theorem dc_sh {a : Nat → Int32} {b k j : Nat} {v : Int32} (hk : k = b + j) : (fun i => upd a k v (b + i)) = upd (fun i => a (b + i)) j v := by
  funext i
  by_cases q : i = j
  · subst q; rw [pk_us, hk, pk_us]
  · rw [pk_un q, pk_un (by omega)]
/-- one word more -/
theorem dc_RA {r : Nat → Int32} (h : dc_R r) {n : Nat} (hn : (r 2).toNatClampNeg = n) (h16 : n < 16) {wi no st : Int32} (hw : dc_W wi no st) :
    dc_R (upd (upd (upd (upd r (3 + 3 * n) wi) (4 + 3 * n) no) (5 + 3 * n) st) 2 (nI (n + 1))) := by
  obtain ⟨z1, z2, z3⟩ := h
  refine ⟨by rw [pk_un (by omega), pk_un (by omega), pk_un (by omega), pk_un (by omega)]; exact z1, by rw [pk_us]; exact dc_Nm (by omega) (by omega), fun w hw2 => ?_⟩
  rw [pk_us, nI_clamp (by omega)] at hw2
  by_cases e : w = n
  · subst e
    rw [pk_un (by omega), pk_un (by omega), pk_un (by omega), pk_us, pk_un (by omega), pk_un (by omega), pk_us, pk_un (by omega), pk_us]
    exact hw
  · rw [pk_un (by omega), pk_un (by omega), pk_un (by omega), pk_un (by omega), pk_un (by omega), pk_un (by omega), pk_un (by omega), pk_un (by omega), pk_un (by omega), pk_un (by omega), pk_un (by omega), pk_un (by omega)]
    exact z3 w (by omega)
theorem op_addV {a : Nat → Int32} {p wi no on : Int32} (h : dc_V a) : dc_V (op_add a p wi no on).2 := by
  unfold op_add
  obtain ⟨e0, h24⟩ := dc_Vn h
  split
  · rename_i c
    split
    · exact h
    · rename_i c16
      obtain ⟨j, hj, rfl⟩ := op_ix c.1.1 (e0 ▸ c.1.2) (by omega)
      obtain ⟨k, hk, rfl⟩ := op_ix2 (n := 3) c.2.2.1 c.2.2.2 (by omega)
      rw [nI_clamp (by omega)] at c16
      obtain ⟨ew, h16⟩ := dc_Vw h (p := j) (by omega)
      have hn : dc_w a j < 16 := by
        rcases Nat.lt_or_eq_of_le h16 with z | z
        · exact z
        · exact absurd (by rw [ew, z]; rfl) c16
      show dc_V (upd _ _ _)
      rw [nI_clamp (by omega), ew, nI_1]
      refine dc_rec (p := j) h (by omega) (fun i hi => by rw [pk_un (by omega), pk_un (by omega), pk_un (by omega), pk_un (by omega)]) ?_
      have R := dc_RA (h.2.2.2.2.1 j (by omega)) (n := dc_w a j) (by rw [show 76 + 51 * j + 2 = 78 + 51 * j from by omega]; rfl) hn (wi := wi) (no := nI k) (st := if on = 0 then 0 else 1)
        ⟨⟨by have z := Int32.le_iff_toInt_le.mp c.2.1.2.1; rw [show (-8 : Int32).toInt = -8 from by decide] at z; exact z, by have z := Int32.le_iff_toInt_le.mp c.2.1.2.2; rw [show (30 : Int32).toInt = 30 from by decide] at z; exact z, c.2.1.1⟩, dc_Nm hk (by omega), by split; exact dc_Nm (n := 0) (by omega) (by omega); exact dc_Nm (n := 1) (by omega) (by omega)⟩
      have e : (fun i => upd (upd (upd (upd a (79 + 51 * j + 3 * dc_w a j) wi) (80 + 51 * j + 3 * dc_w a j) (nI k)) (81 + 51 * j + 3 * dc_w a j) (if on = 0 then 0 else 1)) (78 + 51 * j) (nI (dc_w a j + 1)) (76 + 51 * j + i))
          = upd (upd (upd (upd (fun i => a (76 + 51 * j + i)) (3 + 3 * dc_w a j) wi) (4 + 3 * dc_w a j) (nI k)) (5 + 3 * dc_w a j) (if on = 0 then 0 else 1)) 2 (nI (dc_w a j + 1)) := by
        rw [dc_sh (j := 2) (by omega), dc_sh (j := 5 + 3 * dc_w a j) (by omega), dc_sh (j := 4 + 3 * dc_w a j) (by omega), dc_sh (j := 3 + 3 * dc_w a j) (by omega)]
      rw [e]; exact R
  · exact h
theorem dc_lgw {a : Nat → Int32} {p : Nat} : ∀ {n w : Nat}, dc_lg a p n = some w → w < n
  | 0, _, h => by cases h
  | n + 1, w, h => by
    unfold dc_lg at h
    split at h
    · have := dc_lgw h; omega
    · cases h; omega
theorem op_drpV {a : Nat → Int32} {p on : Int32} (h : dc_V a) : dc_V (op_drp a p on).2 := by
  unfold op_drp
  obtain ⟨e0, h24⟩ := dc_Vn h
  split
  · rename_i c
    obtain ⟨j, hj, rfl⟩ := op_ix c.1 (e0 ▸ c.2) (by omega)
    rw [nI_clamp (by omega)]
    split
    · exact h
    · rename_i w hw
      have hw' := dc_lgw hw
      split
      · show dc_V (upd a _ _)
        have v := dc_cell (p := j) (j := 5 + 3 * w) (v := nI 2) h (by omega) (by have := (dc_Vw h (p := j) (by omega)).2; omega) (dc_R5 (h.2.2.2.2.1 j (by omega)) (by omega))
        rw [show 76 + 51 * j + (5 + 3 * w) = 81 + 51 * j + 3 * w from by omega] at v
        exact v
      · exact (dc_tkV h (by omega) hw').1
  · exact h
theorem op_stlV {a : Nat → Int32} {s t v : Int32} (h : dc_V a) : dc_V (op_stl a s t v).2 := by
  unfold op_stl
  split
  · rename_i c
    obtain ⟨j, hj, rfl⟩ := op_ix2 (n := 5) c.1.1 c.1.2 (by omega)
    obtain ⟨k, hk, rfl⟩ := op_ix2 (n := 11) c.2.1.1 c.2.1.2 (by omega)
    have c2 := c.2.2
    rw [nI_clamp (by omega)] at c2
    show dc_V (upd a _ _)
    rw [nI_clamp (by omega), nI_clamp (by omega)]
    refine dc_head h (fun i hi => pk_un (by omega)) (by rw [pk_un (by omega)]; exact h.1) (by rw [pk_un (by omega)]; exact h.2.1) (by rw [pk_un (by omega)]; exact h.2.2.1) (fun s' t' hs ht => ?_)
    by_cases e : s' = j ∧ t' = k
    · obtain ⟨rfl, rfl⟩ := e
      rw [pk_us]
      refine ⟨fun q => ?_, fun q => ?_, fun q => ?_, fun q => ?_⟩
      · have e1 : op_lo t' = 0 := by rcases q with rfl | rfl <;> rfl
        have e2 : op_hi t' = nI 9 := by rcases q with rfl | rfl <;> rfl
        rw [e1, e2] at c2
        obtain ⟨m, hm, rfl⟩ := op_ix2 c2.1 c2.2 (by omega)
        exact dc_Nm hm (by omega)
      · subst q
        have c3 : (1 : Int32) ≤ v ∧ v ≤ nI 4 := c2
        obtain ⟨m, hm, rfl⟩ := op_ix2 (Int32.le_trans (by decide) c3.1) c3.2 (by omega)
        exact dc_Nm hm (by omega)
      · subst q
        have c3 : (0 : Int32) ≤ v ∧ v ≤ nI 3 := c2
        obtain ⟨m, hm, rfl⟩ := op_ix2 c3.1 c3.2 (by omega)
        exact dc_Nm hm (by omega)
      · subst q
        have c3 : (0 : Int32) ≤ v ∧ v ≤ nI 1 := c2
        obtain ⟨m, hm, rfl⟩ := op_ix2 c3.1 c3.2 (by omega)
        exact dc_Nm hm (by omega)
    · rw [pk_un (by omega)]; exact h.2.2.2.1 s' t' hs ht
  · exact h
theorem op_pagV {a : Nat → Int32} {w y c : Int32} (h : dc_V a) : dc_V (op_pag a w y c).2 := by
  unfold op_pag
  split
  · rename_i q
    obtain ⟨k, hk, rfl⟩ := op_ix2 (n := 60) (x := y) (Int32.le_trans (by decide) q.2.1.1) q.2.1.2 (by omega)
    obtain ⟨j, hj, rfl⟩ := op_ix2 (n := 2) (x := c) (Int32.le_trans (by decide) q.2.2.1) q.2.2.2 (by omega)
    have hj1 : 1 ≤ j := by
      have z := q.2.2.1
      exact (nI_leI (a := 1) (by omega) (by omega)).mp z
    show dc_V (upd (upd (upd a 1 w) 2 (nI k)) 3 (nI j))
    refine dc_head h (fun i hi => by rw [pk_un (by omega), pk_un (by omega), pk_un (by omega)]) (by rw [pk_un (by omega), pk_un (by omega), pk_un (by omega)]; exact h.1) (by rw [pk_un (by omega), pk_us]; exact dc_Nm hk (by omega)) ?_ (fun s' t' hs ht => by rw [pk_un (by omega), pk_un (by omega), pk_un (by omega)]; exact h.2.2.2.1 s' t' hs ht)
    rw [pk_us]
    rcases Nat.lt_or_ge j 2 with z | z
    · left; obtain rfl : j = 1 := by omega
      rfl
    · right; obtain rfl : j = 2 := by omega
      rfl
  · exact h
theorem dc_rsV {p : Nat} {un : Int32} (hp : p < 24) : ∀ {w : Nat} {a : Nat → Int32}, dc_V a → w ≤ dc_w a p → dc_V (dc_rs p un w a)
  | 0, _, h, _ => h
  | w + 1, a, h, hw => by
    show dc_V (dc_rs p un w (if a (81 + 51 * p + 3 * w) = un then dc_tk a p w else upd a (81 + 51 * p + 3 * w) 0))
    split
    · obtain ⟨v, e⟩ := dc_tkV h hp (w := w) (by omega)
      exact dc_rsV hp v (by omega)
    · have v := dc_cell (p := p) (j := 5 + 3 * w) (v := nI 0) h hp (by have := (dc_Vw h hp).2; omega) (dc_R5 (h.2.2.2.2.1 p hp) (by omega))
      rw [show 76 + 51 * p + (5 + 3 * w) = 81 + 51 * p + 3 * w from by omega] at v
      refine dc_rsV hp v ?_
      unfold dc_w
      rw [pk_un (by omega)]
      unfold dc_w at hw
      omega
theorem op_resV {a : Nat → Int32} {p c : Int32} (h : dc_V a) : dc_V (op_res a p c).2 := by
  unfold op_res
  obtain ⟨e0, h24⟩ := dc_Vn h
  split
  · rename_i c
    obtain ⟨j, hj, rfl⟩ := op_ix c.1 (e0 ▸ c.2) (by omega)
    show dc_V (dc_rs _ _ _ _)
    rw [nI_clamp (by omega)]
    exact dc_rsV (by omega) h (by omega)
  · exact h
theorem op_goV {w p b c on : Int32} {a : Nat → Int32} (h : dc_V a) : dc_V (op_go w p b c on a).2 := by
  unfold op_go
  split
  · exact op_insV h
  split
  · exact op_remV h
  split
  · exact op_styV h
  split
  · exact op_mrkV h
  split
  · exact op_addV h
  split
  · exact op_drpV h
  split
  · exact op_stlV h
  split
  · exact op_pagV h
  · exact op_resV h
end
section
variable {x_tracking x_view x_slotNow x_stepsBack x_stepsAgain x_stale x_rounds x_columnCount : Int32} {x_doc x_kept x_referenceWidth x_labelValue x_labelWidth x_lineCount x_gapBefore x_headNeeds x_groupNeeds x_wordLine x_wordLeft x_lineFirst x_lineWords x_lineLeft x_lineSlack x_lineNotes x_lineColumn x_lineTop x_columnParagraph x_columnFirst x_columnLines x_columnNotes x_columnFilled : Nat → Int32}
theorem xr_in {post : Int32 → Prop} {v l g : Int32} (h0 : ¬ (l ≤ v ∧ v ≤ g) → post 0) (h1 : l ≤ v → v ≤ g → post 1) : wpX_isWithin post v l g :=
  ⟨fun z => h0 fun q => Int32.not_lt.mpr q.1 z, fun z => ⟨fun y => h0 fun q => Int32.not_lt.mpr q.2 y, fun y => h1 (Int32.not_lt.mp z) (Int32.not_lt.mp y)⟩⟩
theorem xr_isP {post : Int32 → Prop} {x : Int32} (h0 : ¬ (0 ≤ x ∧ x < x_doc 0) → post 0) (h1 : 0 ≤ x → x < x_doc 0 → post 1) : wpX_isParagraph post (x_tracking, x_view, x_slotNow, x_stepsBack, x_stepsAgain, x_stale, x_rounds, x_columnCount, x_doc, x_kept, x_referenceWidth, x_labelValue, x_labelWidth, x_lineCount, x_gapBefore, x_headNeeds, x_groupNeeds, x_wordLine, x_wordLeft, x_lineFirst, x_lineWords, x_lineLeft, x_lineSlack, x_lineNotes, x_lineColumn, x_lineTop, x_columnParagraph, x_columnFirst, x_columnLines, x_columnNotes, x_columnFilled) x :=
  ⟨fun z => h0 fun q => Int32.not_lt.mpr q.1 z, fun z => ⟨fun y => h0 fun q => Int32.not_lt.mpr y q.2, fun y => h1 (Int32.not_lt.mp z) (Int32.not_le.mp y)⟩⟩
theorem xr_rec {post : Int32 → Prop} {x : Int32} {p : Nat} (hx : x = nI p) (h : post (nI (76 + 51 * p))) : wpX_recordAt post (x_tracking, x_view, x_slotNow, x_stepsBack, x_stepsAgain, x_stale, x_rounds, x_columnCount, x_doc, x_kept, x_referenceWidth, x_labelValue, x_labelWidth, x_lineCount, x_gapBefore, x_headNeeds, x_groupNeeds, x_wordLine, x_wordLeft, x_lineFirst, x_lineWords, x_lineLeft, x_lineSlack, x_lineNotes, x_lineColumn, x_lineTop, x_columnParagraph, x_columnFirst, x_columnLines, x_columnNotes, x_columnFilled) x := by
  subst hx; rw [← ad_r] at h; exact h
theorem xr_wo {post : Int32 → Prop} {x : Int32} {p : Nat} (hx : x = nI p) (hp : p < 24) (h : post (x_doc (78 + 51 * p))) : wpX_wordsOf post (x_tracking, x_view, x_slotNow, x_stepsBack, x_stepsAgain, x_stale, x_rounds, x_columnCount, x_doc, x_kept, x_referenceWidth, x_labelValue, x_labelWidth, x_lineCount, x_gapBefore, x_headNeeds, x_groupNeeds, x_wordLine, x_wordLeft, x_lineFirst, x_lineWords, x_lineLeft, x_lineSlack, x_lineNotes, x_lineColumn, x_lineTop, x_columnParagraph, x_columnFirst, x_columnLines, x_columnNotes, x_columnFilled) x := by
  have e : ((76 : Int32) + x * 51) + 2 = nI (78 + 51 * p) := by subst hx; rw [ad_r]; exact (nI_add _ 2).trans (congrArg nI (by omega))
  refine ⟨ix_in e (by omega) (by omega), ?_⟩
  rw [ix_c e (by omega)]; exact h
theorem xr_wa {post : Int32 → Prop} {x y : Int32} {p w : Nat} (hx : x = nI p) (hy : y = nI w) (h : post (nI (79 + 51 * p + 3 * w))) : wpX_wordAt post (x_tracking, x_view, x_slotNow, x_stepsBack, x_stepsAgain, x_stale, x_rounds, x_columnCount, x_doc, x_kept, x_referenceWidth, x_labelValue, x_labelWidth, x_lineCount, x_gapBefore, x_headNeeds, x_groupNeeds, x_wordLine, x_wordLeft, x_lineFirst, x_lineWords, x_lineLeft, x_lineSlack, x_lineNotes, x_lineColumn, x_lineTop, x_columnParagraph, x_columnFirst, x_columnLines, x_columnNotes, x_columnFilled) x y := by
  subst hx hy; rw [← ad_w] at h; exact h
theorem xs_cpL {post : SX → Prop} {f t : Nat} (hf : f < 24) (ht : t < 24) (hne : f ≠ t) (h : post (x_tracking, x_view, x_slotNow, x_stepsBack, x_stepsAgain, x_stale, x_rounds, x_columnCount, (dc_cp x_doc f t), x_kept, x_referenceWidth, x_labelValue, x_labelWidth, x_lineCount, x_gapBefore, x_headNeeds, x_groupNeeds, x_wordLine, x_wordLeft, x_lineFirst, x_lineWords, x_lineLeft, x_lineSlack, x_lineNotes, x_lineColumn, x_lineTop, x_columnParagraph, x_columnFirst, x_columnLines, x_columnNotes, x_columnFilled)) : ∀ n i, i + n = 51 →
    wX_copyRecord_16 post (nI (76 + 51 * f)) (nI (76 + 51 * t)) x_tracking x_view x_slotNow x_stepsBack x_stepsAgain x_stale x_rounds x_columnCount (n + 1) (nI i) (cp_b x_doc (76 + 51 * f) (76 + 51 * t) i) x_kept x_referenceWidth x_labelValue x_labelWidth x_lineCount x_gapBefore x_headNeeds x_groupNeeds x_wordLine x_wordLeft x_lineFirst x_lineWords x_lineLeft x_lineSlack x_lineNotes x_lineColumn x_lineTop x_columnParagraph x_columnFirst x_columnLines x_columnNotes x_columnFilled
  | 0, i, hi => by
    obtain rfl : i = 51 := by omega
    exact br_t (nI_le (a := 51) (b := 51) (by omega) (by omega)) h
  | n + 1, i, hi => by
    refine br_f (nI_ge (b := 51) (by omega) (by omega)) ⟨ix_in (nI_add _ _) (by omega) (by omega), ix_in (nI_add _ _) (by omega) (by omega), nm_r (e' := cp_b x_doc (76 + 51 * f) (76 + 51 * t) (i + 1)) ?_ (nm_r (nI_1 i) (xs_cpL hf ht hne h n (i + 1) (by omega)))⟩
    rw [nI_add, nI_add, nI_clamp (by omega), nI_clamp (by omega)]
    exact cp_s (by omega)
theorem xs_cp {post : SX → Prop} {x y : Int32} {f t : Nat} (hx : x = nI f) (hy : y = nI t) (hf : f < 24) (ht : t < 24) (hne : f ≠ t) (h : post (x_tracking, x_view, x_slotNow, x_stepsBack, x_stepsAgain, x_stale, x_rounds, x_columnCount, (dc_cp x_doc f t), x_kept, x_referenceWidth, x_labelValue, x_labelWidth, x_lineCount, x_gapBefore, x_headNeeds, x_groupNeeds, x_wordLine, x_wordLeft, x_lineFirst, x_lineWords, x_lineLeft, x_lineSlack, x_lineNotes, x_lineColumn, x_lineTop, x_columnParagraph, x_columnFirst, x_columnLines, x_columnNotes, x_columnFilled)) : wpX_copyRecord post (x_tracking, x_view, x_slotNow, x_stepsBack, x_stepsAgain, x_stale, x_rounds, x_columnCount, x_doc, x_kept, x_referenceWidth, x_labelValue, x_labelWidth, x_lineCount, x_gapBefore, x_headNeeds, x_groupNeeds, x_wordLine, x_wordLeft, x_lineFirst, x_lineWords, x_lineLeft, x_lineSlack, x_lineNotes, x_lineColumn, x_lineTop, x_columnParagraph, x_columnFirst, x_columnLines, x_columnNotes, x_columnFilled) x y := by
  unfold wpX_copyRecord
  refine xr_rec hx ?_
  refine xr_rec hy ?_
  refine ⟨52, ?_⟩
  have z := xs_cpL (post := post) hf ht hne h 51 0 rfl
  rw [cp_0] at z
  exact z
/-- insert -/
theorem xs_insL {post : Int32 → SX → Prop} {p n b s : Nat} {st : Int32} (hs : x_slotNow = nI s) (h21 : s < 21) (hb : x_stepsBack = nI b) (h20 : b ≤ 20) (hp : p ≤ n) (hn : n < 24) : ∀ (d : Nat) (x_doc : Nat → Int32), p + d < 24 →
    (∀ e, e = upd (upd (upd (upd (dc_iL x_doc p d) (76 + 51 * p) st) (77 + 51 * p) (-1)) (78 + 51 * p) 0) 0 (nI n + 1) →
      post (nI n + 1) (x_tracking, x_view, (nI ((s + 1) % 21)), (nI (if b < 20 then b + 1 else b)), 0, 1, x_rounds, x_columnCount, e, (st_b x_kept (1300 * ((s + 1) % 21)) 1300 e), x_referenceWidth, x_labelValue, x_labelWidth, x_lineCount, x_gapBefore, x_headNeeds, x_groupNeeds, x_wordLine, x_wordLeft, x_lineFirst, x_lineWords, x_lineLeft, x_lineSlack, x_lineNotes, x_lineColumn, x_lineTop, x_columnParagraph, x_columnFirst, x_columnLines, x_columnNotes, x_columnFilled)) →
    wX_insert_39 post (nI p) st (nI n) (d + 1) (nI (p + d)) x_tracking x_view x_slotNow x_stepsBack x_stepsAgain x_stale x_rounds x_columnCount x_doc x_kept x_referenceWidth x_labelValue x_labelWidth x_lineCount x_gapBefore x_headNeeds x_groupNeeds x_wordLine x_wordLeft x_lineFirst x_lineWords x_lineLeft x_lineSlack x_lineNotes x_lineColumn x_lineTop x_columnParagraph x_columnFirst x_columnLines x_columnNotes x_columnFilled
  | 0, x_doc, hd, h => by
    refine br_t (nI_le (by omega) (by omega)) (xr_rec rfl ⟨ix_in (nI_add _ 0) (by omega) (by omega), nm_r (e' := upd x_doc (76 + 51 * p) st) ?_ ⟨ix_in (nI_add _ 1) (by omega) (by omega), nm_r (e' := upd (upd x_doc (76 + 51 * p) st) (77 + 51 * p) (-1)) ?_
      ⟨ix_in (nI_add _ 2) (by omega) (by omega), nm_r (e' := upd (upd (upd x_doc (76 + 51 * p) st) (77 + 51 * p) (-1)) (78 + 51 * p) 0) ?_ (nm_e (xs_keep hs h21 hb h20 (h _ rfl)))⟩⟩⟩)
    · rw [ix_c (ad_0 _) (by omega)]
    · rw [ix_c (nI_1 _) (by omega)]; exact congrArg (fun i => upd _ i _) (by omega)
    · rw [ix_c (ad_2 _) (by omega)]; exact congrArg (fun i => upd _ i _) (by omega)
  | d + 1, x_doc, hd, h => by
    refine br_f (nI_ge (by omega) (by omega)) (xs_cp (f := p + d) (t := p + d + 1) (nI_pred _) rfl (by omega) (by omega) (by omega) (nm_r (pk_m1 _) ?_))
    exact xs_insL hs h21 hb h20 hp hn d _ (by omega) h
theorem xo_ins {post : Int32 → SX → Prop} {p st : Int32} {b s : Nat} (hs : x_slotNow = nI s) (h21 : s < 21) (hb : x_stepsBack = nI b) (h20 : b ≤ 20) (hv : dc_V x_doc)
    (h0 : ∀ r, op_ins x_doc p st = (r, x_doc) → r < 0 → post r (x_tracking, x_view, x_slotNow, x_stepsBack, x_stepsAgain, x_stale, x_rounds, x_columnCount, x_doc, x_kept, x_referenceWidth, x_labelValue, x_labelWidth, x_lineCount, x_gapBefore, x_headNeeds, x_groupNeeds, x_wordLine, x_wordLeft, x_lineFirst, x_lineWords, x_lineLeft, x_lineSlack, x_lineNotes, x_lineColumn, x_lineTop, x_columnParagraph, x_columnFirst, x_columnLines, x_columnNotes, x_columnFilled))
    (h1 : ∀ r e, op_ins x_doc p st = (r, e) → ¬ r < 0 → post r (x_tracking, x_view, (nI ((s + 1) % 21)), (nI (if b < 20 then b + 1 else b)), 0, 1, x_rounds, x_columnCount, e, (st_b x_kept (1300 * ((s + 1) % 21)) 1300 e), x_referenceWidth, x_labelValue, x_labelWidth, x_lineCount, x_gapBefore, x_headNeeds, x_groupNeeds, x_wordLine, x_wordLeft, x_lineFirst, x_lineWords, x_lineLeft, x_lineSlack, x_lineNotes, x_lineColumn, x_lineTop, x_columnParagraph, x_columnFirst, x_columnLines, x_columnNotes, x_columnFilled)) :
    wpX_insert post (x_tracking, x_view, x_slotNow, x_stepsBack, x_stepsAgain, x_stale, x_rounds, x_columnCount, x_doc, x_kept, x_referenceWidth, x_labelValue, x_labelWidth, x_lineCount, x_gapBefore, x_headNeeds, x_groupNeeds, x_wordLine, x_wordLeft, x_lineFirst, x_lineWords, x_lineLeft, x_lineSlack, x_lineNotes, x_lineColumn, x_lineTop, x_columnParagraph, x_columnFirst, x_columnLines, x_columnNotes, x_columnFilled) p st := by
  obtain ⟨e0, h24⟩ := dc_Vn hv
  refine nm_e (xr_in (fun z => br_t rfl ?_) (fun z1 z2 => br_f (by decide) (xr_in (fun z => br_t rfl ?_) (fun z3 z4 => br_f (by decide) (br_c (fun z => ?_) (fun z => ?_))))))
  · exact h0 _ (if_neg fun q => z q.1) (by decide)
  · exact h0 _ (if_neg fun q => z q.2) (by decide)
  · exact h0 (-2) ((if_pos ⟨⟨z1, z2⟩, ⟨z3, z4⟩⟩).trans (if_pos z)) (by decide)
  · obtain ⟨j, hj, rfl⟩ := op_ix2 z1 (e0 ▸ z2) (by omega)
    have hn : dc_n x_doc < 24 := by
      rcases Nat.lt_or_eq_of_le h24 with q | q
      · exact q
      · exact absurd (by rw [e0, q]; rfl) z
    have e : op_ins x_doc (nI j) st = _ := (if_pos ⟨⟨z1, z2⟩, ⟨z3, z4⟩⟩).trans (if_neg z)
    rw [nI_clamp (by omega), e0] at e
    refine ⟨dc_n x_doc - j + 1, ?_⟩
    rw [e0]
    have E : nI (dc_n x_doc) = nI (j + (dc_n x_doc - j)) := congrArg nI (by omega)
    have L := xs_insL (x_stale := x_stale) (x_stepsAgain := x_stepsAgain) (post := post) (p := j) (n := dc_n x_doc) (st := st) hs h21 hb h20 hj hn (dc_n x_doc - j) x_doc (by omega) (fun e' he => by
      subst he
      exact h1 _ _ e (by rw [nI_1]; exact nI_pos (by omega)))
    rw [← E] at L
    exact L
end
section
variable {x_tracking x_view x_slotNow x_stepsBack x_stepsAgain x_stale x_rounds x_columnCount : Int32} {x_doc x_kept x_referenceWidth x_labelValue x_labelWidth x_lineCount x_gapBefore x_headNeeds x_groupNeeds x_wordLine x_wordLeft x_lineFirst x_lineWords x_lineLeft x_lineSlack x_lineNotes x_lineColumn x_lineTop x_columnParagraph x_columnFirst x_columnLines x_columnNotes x_columnFilled : Nat → Int32}
/-- remove -/
theorem xs_remL {post : Int32 → SX → Prop} {b s m : Nat} (hs : x_slotNow = nI s) (h21 : s < 21) (hb : x_stepsBack = nI b) (h20 : b ≤ 20) (hm : m < 24) : ∀ (d q : Nat) (x_doc : Nat → Int32), q + d = m →
    (∀ e, e = upd (dc_rL x_doc q d) 0 (nI m) →
      post (nI m) (x_tracking, x_view, (nI ((s + 1) % 21)), (nI (if b < 20 then b + 1 else b)), 0, 1, x_rounds, x_columnCount, e, (st_b x_kept (1300 * ((s + 1) % 21)) 1300 e), x_referenceWidth, x_labelValue, x_labelWidth, x_lineCount, x_gapBefore, x_headNeeds, x_groupNeeds, x_wordLine, x_wordLeft, x_lineFirst, x_lineWords, x_lineLeft, x_lineSlack, x_lineNotes, x_lineColumn, x_lineTop, x_columnParagraph, x_columnFirst, x_columnLines, x_columnNotes, x_columnFilled)) →
    wX_remove_21 post (nI m) (d + 1) (nI q) x_tracking x_view x_slotNow x_stepsBack x_stepsAgain x_stale x_rounds x_columnCount x_doc x_kept x_referenceWidth x_labelValue x_labelWidth x_lineCount x_gapBefore x_headNeeds x_groupNeeds x_wordLine x_wordLeft x_lineFirst x_lineWords x_lineLeft x_lineSlack x_lineNotes x_lineColumn x_lineTop x_columnParagraph x_columnFirst x_columnLines x_columnNotes x_columnFilled
  | 0, q, x_doc, hd, h => by
    exact br_t (nI_le (by omega) (by omega)) (nm_e (xs_keep hs h21 hb h20 (h _ rfl)))
  | d + 1, q, x_doc, hd, h => by
    refine br_f (nI_ge (by omega) (by omega)) (xs_cp (f := q + 1) (t := q) (nI_1 _) rfl (by omega) (by omega) (by omega) (nm_r (nI_1 _) ?_))
    exact xs_remL hs h21 hb h20 hm d (q + 1) _ (by omega) h
theorem xo_rem {post : Int32 → SX → Prop} {p : Int32} {b s : Nat} (hs : x_slotNow = nI s) (h21 : s < 21) (hb : x_stepsBack = nI b) (h20 : b ≤ 20) (hv : dc_V x_doc)
    (h0 : ∀ r, op_rem x_doc p = (r, x_doc) → r < 0 → post r (x_tracking, x_view, x_slotNow, x_stepsBack, x_stepsAgain, x_stale, x_rounds, x_columnCount, x_doc, x_kept, x_referenceWidth, x_labelValue, x_labelWidth, x_lineCount, x_gapBefore, x_headNeeds, x_groupNeeds, x_wordLine, x_wordLeft, x_lineFirst, x_lineWords, x_lineLeft, x_lineSlack, x_lineNotes, x_lineColumn, x_lineTop, x_columnParagraph, x_columnFirst, x_columnLines, x_columnNotes, x_columnFilled))
    (h1 : ∀ r e, op_rem x_doc p = (r, e) → ¬ r < 0 → post r (x_tracking, x_view, (nI ((s + 1) % 21)), (nI (if b < 20 then b + 1 else b)), 0, 1, x_rounds, x_columnCount, e, (st_b x_kept (1300 * ((s + 1) % 21)) 1300 e), x_referenceWidth, x_labelValue, x_labelWidth, x_lineCount, x_gapBefore, x_headNeeds, x_groupNeeds, x_wordLine, x_wordLeft, x_lineFirst, x_lineWords, x_lineLeft, x_lineSlack, x_lineNotes, x_lineColumn, x_lineTop, x_columnParagraph, x_columnFirst, x_columnLines, x_columnNotes, x_columnFilled)) :
    wpX_remove post (x_tracking, x_view, x_slotNow, x_stepsBack, x_stepsAgain, x_stale, x_rounds, x_columnCount, x_doc, x_kept, x_referenceWidth, x_labelValue, x_labelWidth, x_lineCount, x_gapBefore, x_headNeeds, x_groupNeeds, x_wordLine, x_wordLeft, x_lineFirst, x_lineWords, x_lineLeft, x_lineSlack, x_lineNotes, x_lineColumn, x_lineTop, x_columnParagraph, x_columnFirst, x_columnLines, x_columnNotes, x_columnFilled) p := by
  unfold wpX_remove
  obtain ⟨e0, h24⟩ := dc_Vn hv
  refine xr_isP (fun z => br_t rfl ?_) (fun z1 z2 => br_f (by decide) ?_)
  · exact h0 _ (if_neg z) (by decide)
  · obtain ⟨j, hj, rfl⟩ := op_ix z1 (e0 ▸ z2) (by omega)
    have e : op_rem x_doc (nI j) = _ := if_pos ⟨z1, z2⟩
    obtain ⟨m, hm⟩ : ∃ m, dc_n x_doc = m + 1 := ⟨dc_n x_doc - 1, by omega⟩
    have e1 : x_doc 0 - 1 = nI m := by rw [e0, hm, nI_pred]
    rw [nI_clamp (by omega), e1, hm, show m + 1 - 1 - j = m - j from by omega] at e
    refine nm_r e1 ⟨m - j + 1, xs_remL hs h21 hb h20 (by omega) (m - j) j x_doc (by omega) (fun e' he => ?_)⟩
    subst he
    exact h1 _ _ e (nI_pos (by omega))
/-- restyle, mark: X answers 1 or 0 -/
theorem xo_sty {post : Int32 → SX → Prop} {p st : Int32} {b s : Nat} (hs : x_slotNow = nI s) (h21 : s < 21) (hb : x_stepsBack = nI b) (h20 : b ≤ 20) (hv : dc_V x_doc)
    (h0 : op_sty x_doc p st = (-1, x_doc) → post 0 (x_tracking, x_view, x_slotNow, x_stepsBack, x_stepsAgain, x_stale, x_rounds, x_columnCount, x_doc, x_kept, x_referenceWidth, x_labelValue, x_labelWidth, x_lineCount, x_gapBefore, x_headNeeds, x_groupNeeds, x_wordLine, x_wordLeft, x_lineFirst, x_lineWords, x_lineLeft, x_lineSlack, x_lineNotes, x_lineColumn, x_lineTop, x_columnParagraph, x_columnFirst, x_columnLines, x_columnNotes, x_columnFilled))
    (h1 : ∀ e, op_sty x_doc p st = (0, e) → post 1 (x_tracking, x_view, (nI ((s + 1) % 21)), (nI (if b < 20 then b + 1 else b)), 0, 1, x_rounds, x_columnCount, e, (st_b x_kept (1300 * ((s + 1) % 21)) 1300 e), x_referenceWidth, x_labelValue, x_labelWidth, x_lineCount, x_gapBefore, x_headNeeds, x_groupNeeds, x_wordLine, x_wordLeft, x_lineFirst, x_lineWords, x_lineLeft, x_lineSlack, x_lineNotes, x_lineColumn, x_lineTop, x_columnParagraph, x_columnFirst, x_columnLines, x_columnNotes, x_columnFilled)) :
    wpX_restyle post (x_tracking, x_view, x_slotNow, x_stepsBack, x_stepsAgain, x_stale, x_rounds, x_columnCount, x_doc, x_kept, x_referenceWidth, x_labelValue, x_labelWidth, x_lineCount, x_gapBefore, x_headNeeds, x_groupNeeds, x_wordLine, x_wordLeft, x_lineFirst, x_lineWords, x_lineLeft, x_lineSlack, x_lineNotes, x_lineColumn, x_lineTop, x_columnParagraph, x_columnFirst, x_columnLines, x_columnNotes, x_columnFilled) p st := by
  unfold wpX_restyle
  obtain ⟨e0, h24⟩ := dc_Vn hv
  refine xr_isP (fun z => br_t rfl ?_) (fun z1 z2 => br_f (by decide) (xr_in (fun z => br_t rfl ?_) (fun z3 z4 => br_f (by decide) ?_)))
  · exact h0 (if_neg fun q => z q.1)
  · exact h0 (if_neg fun q => z q.2)
  · obtain ⟨j, hj, rfl⟩ := op_ix z1 (e0 ▸ z2) (by omega)
    have e : op_sty x_doc (nI j) st = _ := if_pos ⟨⟨z1, z2⟩, ⟨z3, z4⟩⟩
    rw [nI_clamp (by omega)] at e
    refine xr_rec rfl ⟨ix_in (nI_add _ 0) (by omega) (by omega), nm_r (e' := upd x_doc (76 + 51 * j) st) ?_ (xs_keep hs h21 hb h20 (h1 _ e))⟩
    rw [ix_c (ad_0 _) (by omega)]
theorem xo_mrk {post : Int32 → SX → Prop} {p st : Int32} {b s : Nat} (hs : x_slotNow = nI s) (h21 : s < 21) (hb : x_stepsBack = nI b) (h20 : b ≤ 20) (hv : dc_V x_doc)
    (h0 : op_mrk x_doc p st = (-1, x_doc) → post 0 (x_tracking, x_view, x_slotNow, x_stepsBack, x_stepsAgain, x_stale, x_rounds, x_columnCount, x_doc, x_kept, x_referenceWidth, x_labelValue, x_labelWidth, x_lineCount, x_gapBefore, x_headNeeds, x_groupNeeds, x_wordLine, x_wordLeft, x_lineFirst, x_lineWords, x_lineLeft, x_lineSlack, x_lineNotes, x_lineColumn, x_lineTop, x_columnParagraph, x_columnFirst, x_columnLines, x_columnNotes, x_columnFilled))
    (h1 : ∀ e, op_mrk x_doc p st = (0, e) → post 1 (x_tracking, x_view, (nI ((s + 1) % 21)), (nI (if b < 20 then b + 1 else b)), 0, 1, x_rounds, x_columnCount, e, (st_b x_kept (1300 * ((s + 1) % 21)) 1300 e), x_referenceWidth, x_labelValue, x_labelWidth, x_lineCount, x_gapBefore, x_headNeeds, x_groupNeeds, x_wordLine, x_wordLeft, x_lineFirst, x_lineWords, x_lineLeft, x_lineSlack, x_lineNotes, x_lineColumn, x_lineTop, x_columnParagraph, x_columnFirst, x_columnLines, x_columnNotes, x_columnFilled)) :
    wpX_mark post (x_tracking, x_view, x_slotNow, x_stepsBack, x_stepsAgain, x_stale, x_rounds, x_columnCount, x_doc, x_kept, x_referenceWidth, x_labelValue, x_labelWidth, x_lineCount, x_gapBefore, x_headNeeds, x_groupNeeds, x_wordLine, x_wordLeft, x_lineFirst, x_lineWords, x_lineLeft, x_lineSlack, x_lineNotes, x_lineColumn, x_lineTop, x_columnParagraph, x_columnFirst, x_columnLines, x_columnNotes, x_columnFilled) p st := by
  unfold wpX_mark
  obtain ⟨e0, h24⟩ := dc_Vn hv
  refine xr_isP (fun z => br_t rfl ?_) (fun z1 z2 => br_f (by decide) (xr_in (fun z => br_t rfl ?_) (fun z3 z4 => br_f (by decide) ?_)))
  · exact h0 (if_neg fun q => z q.1)
  · exact h0 (if_neg fun q => z q.2)
  · obtain ⟨j, hj, rfl⟩ := op_ix z1 (e0 ▸ z2) (by omega)
    have e : op_mrk x_doc (nI j) st = _ := if_pos ⟨⟨z1, z2⟩, ⟨z3, z4⟩⟩
    rw [nI_clamp (by omega)] at e
    refine xr_rec rfl ⟨ix_in (nI_add _ 1) (by omega) (by omega), nm_r (e' := upd x_doc (77 + 51 * j) st) ?_ (xs_keep hs h21 hb h20 (h1 _ e))⟩
    rw [ix_c (nI_1 _) (by omega)]; exact congrArg (fun i => upd _ i _) (by omega)
/-- style, page -/
theorem xr_lo {post : Int32 → Prop} {j : Nat} (hj : j < 12) (h : post (op_lo j)) : wpX_leastOf post (nI j) := by
  refine pk_eq j 2 (fun z => ?_) (fun z => pk_eq j 5 (fun y => ?_) (fun y => ?_))
  · subst z; exact h
  · subst y; exact h
  · unfold op_lo at h; rw [if_neg z, if_neg y] at h; exact h
theorem xr_hi {post : Int32 → Prop} {j : Nat} (hj : j < 12) (h : post (op_hi j)) : wpX_greatestOf post (nI j) := by
  refine br_f (nI_pos (by omega)) (pk_lt 7 j (fun z => ?_) (fun z => ?_))
  · unfold op_hi at h; rw [if_neg (by omega), if_neg (by omega), if_neg (by omega), if_neg (by omega)] at h; exact h
  · refine pk_eq j 0 (fun z => ?_) (fun z0 => pk_eq j 1 (fun z => ?_) (fun z1 => pk_eq j 2 (fun z => ?_) (fun z2 => pk_eq j 3 (fun z => ?_) (fun z3 => pk_eq j 4 (fun z => ?_) (fun z4 => pk_eq j 5 (fun z => ?_) (fun z5 => pk_eq j 6 (fun z => ?_) (fun z6 => pk_eq j 7 (fun z => ?_) (fun z7 => trivial))))))))
      <;> (subst z; exact h)
theorem xo_stl {post : Int32 → SX → Prop} {p t v : Int32} {b s : Nat} (hs : x_slotNow = nI s) (h21 : s < 21) (hb : x_stepsBack = nI b) (h20 : b ≤ 20)
    (h0 : op_stl x_doc p t v = (-1, x_doc) → post 0 (x_tracking, x_view, x_slotNow, x_stepsBack, x_stepsAgain, x_stale, x_rounds, x_columnCount, x_doc, x_kept, x_referenceWidth, x_labelValue, x_labelWidth, x_lineCount, x_gapBefore, x_headNeeds, x_groupNeeds, x_wordLine, x_wordLeft, x_lineFirst, x_lineWords, x_lineLeft, x_lineSlack, x_lineNotes, x_lineColumn, x_lineTop, x_columnParagraph, x_columnFirst, x_columnLines, x_columnNotes, x_columnFilled))
    (h1 : ∀ e, op_stl x_doc p t v = (0, e) → post 1 (x_tracking, x_view, (nI ((s + 1) % 21)), (nI (if b < 20 then b + 1 else b)), 0, 1, x_rounds, x_columnCount, e, (st_b x_kept (1300 * ((s + 1) % 21)) 1300 e), x_referenceWidth, x_labelValue, x_labelWidth, x_lineCount, x_gapBefore, x_headNeeds, x_groupNeeds, x_wordLine, x_wordLeft, x_lineFirst, x_lineWords, x_lineLeft, x_lineSlack, x_lineNotes, x_lineColumn, x_lineTop, x_columnParagraph, x_columnFirst, x_columnLines, x_columnNotes, x_columnFilled)) :
    wpX_style post (x_tracking, x_view, x_slotNow, x_stepsBack, x_stepsAgain, x_stale, x_rounds, x_columnCount, x_doc, x_kept, x_referenceWidth, x_labelValue, x_labelWidth, x_lineCount, x_gapBefore, x_headNeeds, x_groupNeeds, x_wordLine, x_wordLeft, x_lineFirst, x_lineWords, x_lineLeft, x_lineSlack, x_lineNotes, x_lineColumn, x_lineTop, x_columnParagraph, x_columnFirst, x_columnLines, x_columnNotes, x_columnFilled) p t v := by
  unfold wpX_style
  refine xr_in (fun z => br_t rfl ?_) (fun z1 z2 => br_f (by decide) (xr_in (fun z => br_t rfl ?_) (fun z3 z4 => br_f (by decide) ?_)))
  · exact h0 (if_neg fun q => z q.1)
  · exact h0 (if_neg fun q => z q.2.1)
  · obtain ⟨j, hj, rfl⟩ := op_ix2 (n := 5) z1 z2 (by omega)
    obtain ⟨k, hk, rfl⟩ := op_ix2 (n := 11) z3 z4 (by omega)
    refine xr_lo (by omega) (xr_hi (by omega) (xr_in (fun z => br_t rfl ?_) (fun z5 z6 => br_f (by decide) ?_)))
    · exact h0 (if_neg fun q => z (by have q2 := q.2.2; rw [nI_clamp (by omega)] at q2; exact q2))
    · have e : op_stl x_doc (nI j) (nI k) v = _ := if_pos ⟨⟨z1, z2⟩, ⟨z3, z4⟩, by rw [nI_clamp (by omega)]; exact ⟨z5, z6⟩⟩
      rw [nI_clamp (by omega), nI_clamp (by omega)] at e
      refine ⟨ix_in (ad_s j k) (by omega) (by omega), nm_r (e' := upd x_doc (4 + 12 * j + k) v) ?_ (xs_keep hs h21 hb h20 (h1 _ e))⟩
      rw [ix_c (ad_s j k) (by omega)]
theorem xo_pag {post : Int32 → SX → Prop} {p t v : Int32} {b s : Nat} (hs : x_slotNow = nI s) (h21 : s < 21) (hb : x_stepsBack = nI b) (h20 : b ≤ 20)
    (h0 : op_pag x_doc p t v = (-1, x_doc) → post 0 (x_tracking, x_view, x_slotNow, x_stepsBack, x_stepsAgain, x_stale, x_rounds, x_columnCount, x_doc, x_kept, x_referenceWidth, x_labelValue, x_labelWidth, x_lineCount, x_gapBefore, x_headNeeds, x_groupNeeds, x_wordLine, x_wordLeft, x_lineFirst, x_lineWords, x_lineLeft, x_lineSlack, x_lineNotes, x_lineColumn, x_lineTop, x_columnParagraph, x_columnFirst, x_columnLines, x_columnNotes, x_columnFilled))
    (h1 : ∀ e, op_pag x_doc p t v = (0, e) → post 1 (x_tracking, x_view, (nI ((s + 1) % 21)), (nI (if b < 20 then b + 1 else b)), 0, 1, x_rounds, x_columnCount, e, (st_b x_kept (1300 * ((s + 1) % 21)) 1300 e), x_referenceWidth, x_labelValue, x_labelWidth, x_lineCount, x_gapBefore, x_headNeeds, x_groupNeeds, x_wordLine, x_wordLeft, x_lineFirst, x_lineWords, x_lineLeft, x_lineSlack, x_lineNotes, x_lineColumn, x_lineTop, x_columnParagraph, x_columnFirst, x_columnLines, x_columnNotes, x_columnFilled)) :
    wpX_page post (x_tracking, x_view, x_slotNow, x_stepsBack, x_stepsAgain, x_stale, x_rounds, x_columnCount, x_doc, x_kept, x_referenceWidth, x_labelValue, x_labelWidth, x_lineCount, x_gapBefore, x_headNeeds, x_groupNeeds, x_wordLine, x_wordLeft, x_lineFirst, x_lineWords, x_lineLeft, x_lineSlack, x_lineNotes, x_lineColumn, x_lineTop, x_columnParagraph, x_columnFirst, x_columnLines, x_columnNotes, x_columnFilled) p t v := by
  unfold wpX_page
  refine xr_in (fun z => br_t rfl ?_) (fun z1 z2 => br_f (by decide) (xr_in (fun z => br_t rfl ?_) (fun z3 z4 => br_f (by decide) (xr_in (fun z => br_t rfl ?_) (fun z5 z6 => br_f (by decide) ?_)))))
  · exact h0 (if_neg fun q => z q.1)
  · exact h0 (if_neg fun q => z q.2.1)
  · exact h0 (if_neg fun q => z q.2.2)
  · exact nm_e (nm_e (nm_e (xs_keep hs h21 hb h20 (h1 _ (if_pos ⟨⟨z1, z2⟩, ⟨z3, z4⟩, ⟨z5, z6⟩⟩)))))
end
section
variable {x_tracking x_view x_slotNow x_stepsBack x_stepsAgain x_stale x_rounds x_columnCount : Int32} {x_doc x_kept x_referenceWidth x_labelValue x_labelWidth x_lineCount x_gapBefore x_headNeeds x_groupNeeds x_wordLine x_wordLeft x_lineFirst x_lineWords x_lineLeft x_lineSlack x_lineNotes x_lineColumn x_lineTop x_columnParagraph x_columnFirst x_columnLines x_columnNotes x_columnFilled : Nat → Int32}
/-- add -/
theorem xs_add109 {post : Int32 → SX → Prop} {b s p n : Nat} {x z0 z1 x5 : Int32} (hs : x_slotNow = nI s) (h21 : s < 21) (hb : x_stepsBack = nI b) (h20 : b ≤ 20) (hx : x = nI p) (hp : p < 24) (hn : n < 16) (hz : z1 = nI (81 + 51 * p + 3 * n)) (h5 : x5 = nI n)
    (h : ∀ e, e = upd (upd x_doc (81 + 51 * p + 3 * n) z0) (78 + 51 * p) (x5 + 1) → post (x5 + 1) (x_tracking, x_view, (nI ((s + 1) % 21)), (nI (if b < 20 then b + 1 else b)), 0, 1, x_rounds, x_columnCount, e, (st_b x_kept (1300 * ((s + 1) % 21)) 1300 e), x_referenceWidth, x_labelValue, x_labelWidth, x_lineCount, x_gapBefore, x_headNeeds, x_groupNeeds, x_wordLine, x_wordLeft, x_lineFirst, x_lineWords, x_lineLeft, x_lineSlack, x_lineNotes, x_lineColumn, x_lineTop, x_columnParagraph, x_columnFirst, x_columnLines, x_columnNotes, x_columnFilled)) :
    wX_add_109 post x x5 z0 z1 x_tracking x_view x_slotNow x_stepsBack x_stepsAgain x_stale x_rounds x_columnCount x_doc x_kept x_referenceWidth x_labelValue x_labelWidth x_lineCount x_gapBefore x_headNeeds x_groupNeeds x_wordLine x_wordLeft x_lineFirst x_lineWords x_lineLeft x_lineSlack x_lineNotes x_lineColumn x_lineTop x_columnParagraph x_columnFirst x_columnLines x_columnNotes x_columnFilled := by
  refine ⟨ix_in hz (by omega) (by omega), nm_r (e' := upd x_doc (81 + 51 * p + 3 * n) z0) (by rw [ix_c hz (by omega)]) (xr_rec hx ⟨ix_in (nI_add _ 2) (by omega) (by omega), nm_r (e' := upd (upd x_doc (81 + 51 * p + 3 * n) z0) (78 + 51 * p) (x5 + 1)) ?_ (xs_keep hs h21 hb h20 (h _ rfl))⟩)⟩
  rw [ix_c (ad_2 _) (by omega)]; exact congrArg (fun i => upd _ i _) (by omega)
theorem xs_add32 {post : Int32 → SX → Prop} {p wi no : Int32} {b s : Nat} (hs : x_slotNow = nI s) (h21 : s < 21) (hb : x_stepsBack = nI b) (h20 : b ≤ 20) (hv : dc_V x_doc) (hp : 0 ≤ p ∧ p < x_doc 0) (hw : ¬ wi = 0 ∧ -8 ≤ wi ∧ wi ≤ 30)
    (h0 : ∀ r, op_add x_doc p wi no x_tracking = (r, x_doc) → r < 0 → post r (x_tracking, x_view, x_slotNow, x_stepsBack, x_stepsAgain, x_stale, x_rounds, x_columnCount, x_doc, x_kept, x_referenceWidth, x_labelValue, x_labelWidth, x_lineCount, x_gapBefore, x_headNeeds, x_groupNeeds, x_wordLine, x_wordLeft, x_lineFirst, x_lineWords, x_lineLeft, x_lineSlack, x_lineNotes, x_lineColumn, x_lineTop, x_columnParagraph, x_columnFirst, x_columnLines, x_columnNotes, x_columnFilled))
    (h1 : ∀ r e, op_add x_doc p wi no x_tracking = (r, e) → ¬ r < 0 → post r (x_tracking, x_view, (nI ((s + 1) % 21)), (nI (if b < 20 then b + 1 else b)), 0, 1, x_rounds, x_columnCount, e, (st_b x_kept (1300 * ((s + 1) % 21)) 1300 e), x_referenceWidth, x_labelValue, x_labelWidth, x_lineCount, x_gapBefore, x_headNeeds, x_groupNeeds, x_wordLine, x_wordLeft, x_lineFirst, x_lineWords, x_lineLeft, x_lineSlack, x_lineNotes, x_lineColumn, x_lineTop, x_columnParagraph, x_columnFirst, x_columnLines, x_columnNotes, x_columnFilled)) :
    wX_add_32 post p wi no x_tracking x_view x_slotNow x_stepsBack x_stepsAgain x_stale x_rounds x_columnCount x_doc x_kept x_referenceWidth x_labelValue x_labelWidth x_lineCount x_gapBefore x_headNeeds x_groupNeeds x_wordLine x_wordLeft x_lineFirst x_lineWords x_lineLeft x_lineSlack x_lineNotes x_lineColumn x_lineTop x_columnParagraph x_columnFirst x_columnLines x_columnNotes x_columnFilled := by
  unfold wX_add_32
  obtain ⟨e0, h24⟩ := dc_Vn hv
  refine xr_in (fun z => br_t rfl ?_) (fun z1 z2 => br_f (by decide) ?_)
  · exact h0 _ (if_neg fun q => z q.2.2) (by decide)
  · obtain ⟨j, hj, rfl⟩ := op_ix hp.1 (e0 ▸ hp.2) (by omega)
    obtain ⟨ew, h16⟩ := dc_Vw hv (p := j) (by omega)
    have ec := nI_clamp (n := j) (by omega)
    refine xr_wo rfl (by omega) (br_c (fun z => ?_) (fun z => ?_))
    · exact h0 (-2) ((if_pos ⟨hp, hw, ⟨z1, z2⟩⟩).trans (if_pos (by rw [ec]; exact z))) (by decide)
    · have hn : dc_w x_doc j < 16 := by
        rcases Nat.lt_or_eq_of_le h16 with q | q
        · exact q
        · exact absurd (by rw [ew, q]; rfl) z
      have e : op_add x_doc (nI j) wi no x_tracking = _ := (if_pos ⟨hp, hw, ⟨z1, z2⟩⟩).trans (if_neg (by rw [ec]; exact z))
      rw [ec, ew] at e
      rw [ew]
      refine xr_wa rfl rfl ⟨ix_in (nI_add _ 0) (by omega) (by omega), nm_r (e' := upd x_doc (79 + 51 * j + 3 * dc_w x_doc j) wi) ?_ ⟨ix_in (nI_add _ 1) (by omega) (by omega), nm_r (e' := upd (upd x_doc (79 + 51 * j + 3 * dc_w x_doc j) wi) (80 + 51 * j + 3 * dc_w x_doc j) no) ?_ (br_c (fun zt => ?_) (fun zt => ?_))⟩⟩
      · rw [ix_c (ad_0 _) (by omega)]
      · rw [ix_c (nI_1 _) (by omega)]; exact congrArg (fun i => upd _ i _) (by omega)
      · rw [if_pos zt] at e
        refine xs_add109 (p := j) (n := dc_w x_doc j) hs h21 hb h20 rfl (by omega) hn ((nI_add _ 2).trans (congrArg nI (by omega))) rfl (fun e' he => ?_)
        subst he
        exact h1 _ _ e (by rw [nI_1]; exact nI_pos (by omega))
      · rw [if_neg zt] at e
        refine xs_add109 (p := j) (n := dc_w x_doc j) hs h21 hb h20 rfl (by omega) hn ((nI_add _ 2).trans (congrArg nI (by omega))) rfl (fun e' he => ?_)
        subst he
        exact h1 _ _ e (by rw [nI_1]; exact nI_pos (by omega))
theorem xo_add {post : Int32 → SX → Prop} {p wi no : Int32} {b s : Nat} (hs : x_slotNow = nI s) (h21 : s < 21) (hb : x_stepsBack = nI b) (h20 : b ≤ 20) (hv : dc_V x_doc)
    (h0 : ∀ r, op_add x_doc p wi no x_tracking = (r, x_doc) → r < 0 → post r (x_tracking, x_view, x_slotNow, x_stepsBack, x_stepsAgain, x_stale, x_rounds, x_columnCount, x_doc, x_kept, x_referenceWidth, x_labelValue, x_labelWidth, x_lineCount, x_gapBefore, x_headNeeds, x_groupNeeds, x_wordLine, x_wordLeft, x_lineFirst, x_lineWords, x_lineLeft, x_lineSlack, x_lineNotes, x_lineColumn, x_lineTop, x_columnParagraph, x_columnFirst, x_columnLines, x_columnNotes, x_columnFilled))
    (h1 : ∀ r e, op_add x_doc p wi no x_tracking = (r, e) → ¬ r < 0 → post r (x_tracking, x_view, (nI ((s + 1) % 21)), (nI (if b < 20 then b + 1 else b)), 0, 1, x_rounds, x_columnCount, e, (st_b x_kept (1300 * ((s + 1) % 21)) 1300 e), x_referenceWidth, x_labelValue, x_labelWidth, x_lineCount, x_gapBefore, x_headNeeds, x_groupNeeds, x_wordLine, x_wordLeft, x_lineFirst, x_lineWords, x_lineLeft, x_lineSlack, x_lineNotes, x_lineColumn, x_lineTop, x_columnParagraph, x_columnFirst, x_columnLines, x_columnNotes, x_columnFilled)) :
    wpX_add post (x_tracking, x_view, x_slotNow, x_stepsBack, x_stepsAgain, x_stale, x_rounds, x_columnCount, x_doc, x_kept, x_referenceWidth, x_labelValue, x_labelWidth, x_lineCount, x_gapBefore, x_headNeeds, x_groupNeeds, x_wordLine, x_wordLeft, x_lineFirst, x_lineWords, x_lineLeft, x_lineSlack, x_lineNotes, x_lineColumn, x_lineTop, x_columnParagraph, x_columnFirst, x_columnLines, x_columnNotes, x_columnFilled) p wi no := by
  unfold wpX_add
  have n1 : (-1 : Int32).toInt = -1 := by decide
  have n8 : (-8 : Int32).toInt = -8 := by decide
  have n30 : (30 : Int32).toInt = 30 := by decide
  have n00 : (0 : Int32).toInt = 0 := by decide
  have n11 : (1 : Int32).toInt = 1 := by decide
  have ez : wi = 0 ↔ wi.toInt = 0 := ⟨fun z => by rw [z]; decide, fun z => Int32.toInt_inj.mp (by rw [z]; decide)⟩
  refine xr_in (fun y => xr_isP (fun z => br_t rfl ?_) (fun z1 z2 => br_f (by decide) (br_t rfl (xr_in (fun z => br_t rfl ?_) (fun z3 z4 => br_f (by decide) ?_))))) (fun y1 y2 => xr_isP (fun z => br_t rfl ?_) (fun z1 z2 => br_f (by decide) (br_f (by decide) ?_)))
  · exact h0 _ (if_neg fun q => z q.1) (by decide)
  · refine h0 _ (if_neg fun q => z ?_) (by decide)
    have q2 := q.2.1
    rw [Int32.le_iff_toInt_le, Int32.le_iff_toInt_le, n8, n1] at y
    rw [ez, Int32.le_iff_toInt_le, Int32.le_iff_toInt_le, n8, n30] at q2
    rw [Int32.le_iff_toInt_le, Int32.le_iff_toInt_le, n11, n30]
    omega
  · refine xs_add32 hs h21 hb h20 hv ⟨z1, z2⟩ ?_ h0 h1
    rw [Int32.le_iff_toInt_le, n11] at z3
    rw [Int32.le_iff_toInt_le, n30] at z4
    rw [ez, Int32.le_iff_toInt_le, Int32.le_iff_toInt_le, n8, n30]
    omega
  · exact h0 _ (if_neg fun q => z q.1) (by decide)
  · refine xs_add32 hs h21 hb h20 hv ⟨z1, z2⟩ ?_ h0 h1
    rw [Int32.le_iff_toInt_le, n8] at y1
    rw [Int32.le_iff_toInt_le, n1] at y2
    rw [ez, Int32.le_iff_toInt_le, Int32.le_iff_toInt_le, n8, n30]
    omega
/-- drop -/
theorem xs_lgL {post : Int32 → Prop} {p : Nat} (hp : p < 24) : ∀ (w : Nat), w ≤ 16 → post (match dc_lg x_doc p w with | none => -1 | some v => nI v) →
    wX_lastNotGone_8 post (nI p) x_tracking x_view x_slotNow x_stepsBack x_stepsAgain x_stale x_rounds x_columnCount x_doc x_kept x_referenceWidth x_labelValue x_labelWidth x_lineCount x_gapBefore x_headNeeds x_groupNeeds x_wordLine x_wordLeft x_lineFirst x_lineWords x_lineLeft x_lineSlack x_lineNotes x_lineColumn x_lineTop x_columnParagraph x_columnFirst x_columnLines x_columnNotes x_columnFilled (w + 1) (nI w - 1)
  | 0, hw, h => br_t (by decide) h
  | w + 1, hw, h => by
    rw [nI_pred]
    refine br_f (nI_pos (by omega)) (xr_wa rfl rfl ⟨ix_in (nI_add _ 2) (by omega) (by omega), ?_⟩)
    rw [ix_c (ad_2 _) (by omega), show 79 + 51 * p + 3 * w + 2 = 81 + 51 * p + 3 * w from by omega]
    unfold dc_lg at h
    refine br_c (fun z => nm_r (Int32.sub_eq_add_neg (nI w) 1).symm ?_) (fun z => ?_)
    · rw [if_pos z] at h
      have L := xs_lgL (post := post) hp w (by omega) h
      exact L
    · rw [if_neg z] at h
      exact h
theorem xs_tkL {post : SX → Prop} {p w n : Nat} {x3 : Int32} (hp : p < 24) (hw : w < n) (hn : n ≤ 16) (h3 : x3 = nI n) (h : post (x_tracking, x_view, x_slotNow, x_stepsBack, x_stepsAgain, x_stale, x_rounds, x_columnCount, (upd (cp_b x_doc (82 + 51 * p + 3 * w) (79 + 51 * p + 3 * w) (3 * (n - 1 - w))) (78 + 51 * p) (nI (n - 1))), x_kept, x_referenceWidth, x_labelValue, x_labelWidth, x_lineCount, x_gapBefore, x_headNeeds, x_groupNeeds, x_wordLine, x_wordLeft, x_lineFirst, x_lineWords, x_lineLeft, x_lineSlack, x_lineNotes, x_lineColumn, x_lineTop, x_columnParagraph, x_columnFirst, x_columnLines, x_columnNotes, x_columnFilled)) : ∀ m i, i + m = 3 * (n - 1 - w) →
    wX_takeOut_24 post (nI p) x3 (nI (79 + 51 * p + 3 * (n - 1))) x_tracking x_view x_slotNow x_stepsBack x_stepsAgain x_stale x_rounds x_columnCount (m + 1) (nI (79 + 51 * p + 3 * w + i)) (cp_b x_doc (82 + 51 * p + 3 * w) (79 + 51 * p + 3 * w) i) x_kept x_referenceWidth x_labelValue x_labelWidth x_lineCount x_gapBefore x_headNeeds x_groupNeeds x_wordLine x_wordLeft x_lineFirst x_lineWords x_lineLeft x_lineSlack x_lineNotes x_lineColumn x_lineTop x_columnParagraph x_columnFirst x_columnLines x_columnNotes x_columnFilled
  | 0, i, hi => by
    obtain rfl : i = 3 * (n - 1 - w) := by omega
    refine br_t (nI_le (by omega) (by omega)) (xr_rec rfl ⟨ix_in (nI_add _ 2) (by omega) (by omega), nm_r (e' := _) ?_ h⟩)
    rw [ix_c (ad_2 _) (by omega), h3, show 76 + 51 * p + 2 = 78 + 51 * p from by omega]
    obtain ⟨k, rfl⟩ : ∃ k, n = k + 1 := ⟨n - 1, by omega⟩
    rw [nI_pred]; rfl
  | m + 1, i, hi => by
    refine br_f (nI_ge (by omega) (by omega)) ⟨ix_in (nI_add _ 3) (by omega) (by omega), vp_in_nI (by omega) (by omega), nm_r (e' := cp_b x_doc (82 + 51 * p + 3 * w) (79 + 51 * p + 3 * w) (i + 1)) ?_ (nm_r (nI_1 _) (xs_tkL hp hw hn h3 h m (i + 1) (by omega)))⟩
    rw [ix_c (ad_3 _) (by omega), nI_clamp (by omega), show 79 + 51 * p + 3 * w + i + 3 = 82 + 51 * p + 3 * w + i from by omega]
    exact cp_s (by omega)
theorem xs_tk {post : SX → Prop} {x y : Int32} {p w : Nat} (hx : x = nI p) (hy : y = nI w) (hv : dc_V x_doc) (hp : p < 24) (hw : w < dc_w x_doc p) (h : post (x_tracking, x_view, x_slotNow, x_stepsBack, x_stepsAgain, x_stale, x_rounds, x_columnCount, (dc_tk x_doc p w), x_kept, x_referenceWidth, x_labelValue, x_labelWidth, x_lineCount, x_gapBefore, x_headNeeds, x_groupNeeds, x_wordLine, x_wordLeft, x_lineFirst, x_lineWords, x_lineLeft, x_lineSlack, x_lineNotes, x_lineColumn, x_lineTop, x_columnParagraph, x_columnFirst, x_columnLines, x_columnNotes, x_columnFilled)) : wpX_takeOut post (x_tracking, x_view, x_slotNow, x_stepsBack, x_stepsAgain, x_stale, x_rounds, x_columnCount, x_doc, x_kept, x_referenceWidth, x_labelValue, x_labelWidth, x_lineCount, x_gapBefore, x_headNeeds, x_groupNeeds, x_wordLine, x_wordLeft, x_lineFirst, x_lineWords, x_lineLeft, x_lineSlack, x_lineNotes, x_lineColumn, x_lineTop, x_columnParagraph, x_columnFirst, x_columnLines, x_columnNotes, x_columnFilled) x y := by
  unfold wpX_takeOut
  subst hx hy
  obtain ⟨ew, h16⟩ := dc_Vw hv hp
  refine xr_wo rfl hp ?_
  rw [ew]
  refine xr_wa (w := dc_w x_doc p - 1) rfl ?_ (xr_wa rfl rfl ⟨3 * (dc_w x_doc p - 1 - w) + 1, ?_⟩)
  · obtain ⟨k, hk⟩ : ∃ k, dc_w x_doc p = k + 1 := ⟨dc_w x_doc p - 1, by omega⟩
    rw [hk, nI_pred]; rfl
  · have L := xs_tkL (post := post) (x_doc := x_doc) (x3 := nI (dc_w x_doc p)) hp hw h16 rfl h (3 * (dc_w x_doc p - 1 - w)) 0 (by omega)
    rw [cp_0] at L
    exact L
end
section
variable {x_tracking x_view x_slotNow x_stepsBack x_stepsAgain x_stale x_rounds x_columnCount : Int32} {x_doc x_kept x_referenceWidth x_labelValue x_labelWidth x_lineCount x_gapBefore x_headNeeds x_groupNeeds x_wordLine x_wordLeft x_lineFirst x_lineWords x_lineLeft x_lineSlack x_lineNotes x_lineColumn x_lineTop x_columnParagraph x_columnFirst x_columnLines x_columnNotes x_columnFilled : Nat → Int32}
theorem xs_drop65 {post : Int32 → SX → Prop} {b s p : Nat} (hs : x_slotNow = nI s) (h21 : s < 21) (hb : x_stepsBack = nI b) (h20 : b ≤ 20) (hp : p < 24)
    (h : post (x_doc (78 + 51 * p)) (x_tracking, x_view, (nI ((s + 1) % 21)), (nI (if b < 20 then b + 1 else b)), 0, 1, x_rounds, x_columnCount, x_doc, (st_b x_kept (1300 * ((s + 1) % 21)) 1300 x_doc), x_referenceWidth, x_labelValue, x_labelWidth, x_lineCount, x_gapBefore, x_headNeeds, x_groupNeeds, x_wordLine, x_wordLeft, x_lineFirst, x_lineWords, x_lineLeft, x_lineSlack, x_lineNotes, x_lineColumn, x_lineTop, x_columnParagraph, x_columnFirst, x_columnLines, x_columnNotes, x_columnFilled)) :
    wX_drop_65 post (nI p) x_tracking x_view x_slotNow x_stepsBack x_stepsAgain x_stale x_rounds x_columnCount x_doc x_kept x_referenceWidth x_labelValue x_labelWidth x_lineCount x_gapBefore x_headNeeds x_groupNeeds x_wordLine x_wordLeft x_lineFirst x_lineWords x_lineLeft x_lineSlack x_lineNotes x_lineColumn x_lineTop x_columnParagraph x_columnFirst x_columnLines x_columnNotes x_columnFilled := by
  unfold wX_drop_65
  exact xs_keep hs h21 hb h20 (xr_wo rfl hp h)
theorem xo_drp {post : Int32 → SX → Prop} {p : Int32} {b s : Nat} (hs : x_slotNow = nI s) (h21 : s < 21) (hb : x_stepsBack = nI b) (h20 : b ≤ 20) (hv : dc_V x_doc)
    (h0 : ∀ r, op_drp x_doc p x_tracking = (r, x_doc) → r < 0 → post r (x_tracking, x_view, x_slotNow, x_stepsBack, x_stepsAgain, x_stale, x_rounds, x_columnCount, x_doc, x_kept, x_referenceWidth, x_labelValue, x_labelWidth, x_lineCount, x_gapBefore, x_headNeeds, x_groupNeeds, x_wordLine, x_wordLeft, x_lineFirst, x_lineWords, x_lineLeft, x_lineSlack, x_lineNotes, x_lineColumn, x_lineTop, x_columnParagraph, x_columnFirst, x_columnLines, x_columnNotes, x_columnFilled))
    (h1 : ∀ r e, op_drp x_doc p x_tracking = (r, e) → ¬ r < 0 → post r (x_tracking, x_view, (nI ((s + 1) % 21)), (nI (if b < 20 then b + 1 else b)), 0, 1, x_rounds, x_columnCount, e, (st_b x_kept (1300 * ((s + 1) % 21)) 1300 e), x_referenceWidth, x_labelValue, x_labelWidth, x_lineCount, x_gapBefore, x_headNeeds, x_groupNeeds, x_wordLine, x_wordLeft, x_lineFirst, x_lineWords, x_lineLeft, x_lineSlack, x_lineNotes, x_lineColumn, x_lineTop, x_columnParagraph, x_columnFirst, x_columnLines, x_columnNotes, x_columnFilled)) :
    wpX_drop post (x_tracking, x_view, x_slotNow, x_stepsBack, x_stepsAgain, x_stale, x_rounds, x_columnCount, x_doc, x_kept, x_referenceWidth, x_labelValue, x_labelWidth, x_lineCount, x_gapBefore, x_headNeeds, x_groupNeeds, x_wordLine, x_wordLeft, x_lineFirst, x_lineWords, x_lineLeft, x_lineSlack, x_lineNotes, x_lineColumn, x_lineTop, x_columnParagraph, x_columnFirst, x_columnLines, x_columnNotes, x_columnFilled) p := by
  unfold wpX_drop
  obtain ⟨e0, h24⟩ := dc_Vn hv
  refine xr_isP (fun z => br_t rfl ?_) (fun z1 z2 => br_f (by decide) ?_)
  · exact h0 _ (if_neg z) (by decide)
  · obtain ⟨j, hj, rfl⟩ := op_ix z1 (e0 ▸ z2) (by omega)
    obtain ⟨ew, h16⟩ := dc_Vw hv (p := j) (by omega)
    have ec := nI_clamp (n := j) (by omega)
    have e : op_drp x_doc (nI j) x_tracking = _ := if_pos ⟨z1, z2⟩
    rw [ec] at e
    unfold wpX_lastNotGone
    refine xr_wo rfl (by omega) ?_
    rw [ew]
    refine nm_e ⟨dc_w x_doc j + 1, xs_lgL (by omega) _ h16 ?_⟩
    cases hg : dc_lg x_doc j (dc_w x_doc j) with
    | none =>
      rw [hg] at e
      exact br_f (by decide) (h0 _ e (by decide))
    | some w =>
      rw [hg] at e
      have hw := dc_lgw hg
      have e' : op_drp x_doc (nI j) x_tracking = if ¬ x_tracking = 0 ∧ x_doc (81 + 51 * j + 3 * w) = 0 then (x_doc (78 + 51 * j), upd x_doc (81 + 51 * j + 3 * w) 2) else (nI (dc_w x_doc j - 1), dc_tk x_doc j w) := e
      have tk : ∀ (hc : ¬ (¬ x_tracking = 0 ∧ x_doc (81 + 51 * j + 3 * w) = 0)), wX_drop_59 post (nI j) (nI w) x_tracking x_view x_slotNow x_stepsBack x_stepsAgain x_stale x_rounds x_columnCount x_doc x_kept x_referenceWidth x_labelValue x_labelWidth x_lineCount x_gapBefore x_headNeeds x_groupNeeds x_wordLine x_wordLeft x_lineFirst x_lineWords x_lineLeft x_lineSlack x_lineNotes x_lineColumn x_lineTop x_columnParagraph x_columnFirst x_columnLines x_columnNotes x_columnFilled := fun hc => by
        rw [if_neg hc] at e'
        refine xs_tk rfl rfl hv (by omega) hw (xs_drop65 hs h21 hb h20 (by omega) ?_)
        have q : dc_tk x_doc j w (78 + 51 * j) = nI (dc_w x_doc j - 1) := pk_us
        rw [q]
        exact h1 _ _ e' (nI_pos (by omega))
      refine br_t (nI_pos' (by omega)) (xr_wa rfl rfl (br_c (fun zt => tk fun q => q.1 zt) (fun zt => ⟨ix_in (nI_add _ 2) (by omega) (by omega), br_c (fun zs => ⟨ix_in (nI_add _ 2) (by omega) (by omega), nm_r (e' := upd x_doc (81 + 51 * j + 3 * w) 2) ?_ ?_⟩) (fun zs => tk fun q => zs ?_)⟩)))
      · rw [ix_c (ad_2 _) (by omega)]; exact congrArg (fun i => upd _ i _) (by omega)
      · rw [ix_c (ad_2 _) (by omega), show 79 + 51 * j + 3 * w + 2 = 81 + 51 * j + 3 * w from by omega] at zs
        rw [if_pos ⟨zt, zs⟩] at e'
        refine xs_drop65 hs h21 hb h20 (by omega) ?_
        rw [pk_un (by omega)]
        exact h1 _ _ e' (by rw [ew]; exact nI_pos (by omega))
      · rw [ix_c (ad_2 _) (by omega), show 79 + 51 * j + 3 * w + 2 = 81 + 51 * j + 3 * w from by omega]; exact q.2
/-- resolve -/
theorem xs_cgL {post : Int32 → Prop} {p : Nat} (hv : dc_V x_doc) (hp : p < 24) (h : post (nI (dc_cg x_doc p (dc_w x_doc p)))) : ∀ d w, w + d = dc_w x_doc p →
    wX_changedWords_4 post (nI p) x_tracking x_view x_slotNow x_stepsBack x_stepsAgain x_stale x_rounds x_columnCount x_doc x_kept x_referenceWidth x_labelValue x_labelWidth x_lineCount x_gapBefore x_headNeeds x_groupNeeds x_wordLine x_wordLeft x_lineFirst x_lineWords x_lineLeft x_lineSlack x_lineNotes x_lineColumn x_lineTop x_columnParagraph x_columnFirst x_columnLines x_columnNotes x_columnFilled (d + 1) (nI (dc_cg x_doc p w)) (nI w)
  | 0, w, hw => by
    obtain ⟨ew, h16⟩ := dc_Vw hv hp
    obtain rfl : w = dc_w x_doc p := by omega
    unfold wX_changedWords_4
    refine xr_wo rfl hp ?_
    rw [ew]
    exact br_t (nI_le (by omega) (by omega)) h
  | d + 1, w, hw => by
    obtain ⟨ew, h16⟩ := dc_Vw hv hp
    unfold wX_changedWords_4
    refine xr_wo rfl hp ?_
    rw [ew]
    refine br_f (nI_ge (by omega) (by omega)) (xr_wa rfl rfl ⟨ix_in (nI_add _ 2) (by omega) (by omega), ?_⟩)
    rw [ix_c (ad_2 _) (by omega), show 79 + 51 * p + 3 * w + 2 = 81 + 51 * p + 3 * w from by omega]
    have L := xs_cgL hv hp h d (w + 1) (by omega)
    have ec : dc_cg x_doc p (w + 1) = dc_cg x_doc p w + if x_doc (81 + 51 * p + 3 * w) = 0 then 0 else 1 := rfl
    refine br_c (fun z => nm_r (nI_1 _) ?_) (fun z => nm_r (nI_1 _) (nm_r (nI_1 _) ?_))
    · rw [if_pos z] at ec; rw [ec] at L; exact L
    · rw [if_neg z] at ec; rw [ec] at L; exact L
theorem xs_cg {post : Int32 → Prop} {x : Int32} {p : Nat} (hx : x = nI p) (hv : dc_V x_doc) (hp : p < 24) (h : post (nI (dc_cg x_doc p (dc_w x_doc p)))) : wpX_changedWords post (x_tracking, x_view, x_slotNow, x_stepsBack, x_stepsAgain, x_stale, x_rounds, x_columnCount, x_doc, x_kept, x_referenceWidth, x_labelValue, x_labelWidth, x_lineCount, x_gapBefore, x_headNeeds, x_groupNeeds, x_wordLine, x_wordLeft, x_lineFirst, x_lineWords, x_lineLeft, x_lineSlack, x_lineNotes, x_lineColumn, x_lineTop, x_columnParagraph, x_columnFirst, x_columnLines, x_columnNotes, x_columnFilled) x := by
  subst hx
  exact ⟨_, xs_cgL hv hp h (dc_w x_doc p) 0 (by omega)⟩
theorem xs_rsL {post : Int32 → SX → Prop} {p b s : Nat} {x3 un : Int32} (hs : x_slotNow = nI s) (h21 : s < 21) (hb : x_stepsBack = nI b) (h20 : b ≤ 20) (hp : p < 24) : ∀ (w : Nat) (x_doc : Nat → Int32), dc_V x_doc → w ≤ dc_w x_doc p →
    (∀ e, e = dc_rs p un w x_doc → post x3 (x_tracking, x_view, (nI ((s + 1) % 21)), (nI (if b < 20 then b + 1 else b)), 0, 1, x_rounds, x_columnCount, e, (st_b x_kept (1300 * ((s + 1) % 21)) 1300 e), x_referenceWidth, x_labelValue, x_labelWidth, x_lineCount, x_gapBefore, x_headNeeds, x_groupNeeds, x_wordLine, x_wordLeft, x_lineFirst, x_lineWords, x_lineLeft, x_lineSlack, x_lineNotes, x_lineColumn, x_lineTop, x_columnParagraph, x_columnFirst, x_columnLines, x_columnNotes, x_columnFilled)) →
    wX_resolve_42 post (nI p) x3 un (w + 1) (nI w - 1) x_tracking x_view x_slotNow x_stepsBack x_stepsAgain x_stale x_rounds x_columnCount x_doc x_kept x_referenceWidth x_labelValue x_labelWidth x_lineCount x_gapBefore x_headNeeds x_groupNeeds x_wordLine x_wordLeft x_lineFirst x_lineWords x_lineLeft x_lineSlack x_lineNotes x_lineColumn x_lineTop x_columnParagraph x_columnFirst x_columnLines x_columnNotes x_columnFilled
  | 0, x_doc, hv, hw, h => br_t (by decide) (xs_keep hs h21 hb h20 (h _ rfl))
  | w + 1, x_doc, hv, hw, h => by
    have h16 := (dc_Vw hv hp).2
    rw [nI_pred]
    have e6 : nI (79 + 51 * p + 3 * w) + 2 = nI (81 + 51 * p + 3 * w) := (nI_add _ 2).trans (congrArg nI (by omega))
    refine br_f (nI_pos (by omega)) (xr_wa rfl rfl (nm_r e6 ⟨vp_in_nI (by omega) (by omega), ?_⟩))
    rw [nI_clamp (by omega)]
    refine br_c (fun z => ?_) (fun z => ⟨vp_in_nI (by omega) (by omega), nm_e (nm_r (Int32.sub_eq_add_neg (nI w) 1).symm ?_)⟩)
    · obtain ⟨v, ew⟩ := dc_tkV hv hp (w := w) (by omega)
      refine xs_tk rfl rfl hv hp (by omega) (nm_r (Int32.sub_eq_add_neg (nI w) 1).symm ?_)
      exact xs_rsL hs h21 hb h20 hp w _ v (by omega) (fun e he => h e (he.trans (congrArg (dc_rs p un w) (if_pos z).symm)))
    · have v := dc_cell (p := p) (j := 5 + 3 * w) (v := nI 0) hv hp (by omega) (dc_R5 (hv.2.2.2.2.1 p hp) (by omega))
      rw [show 76 + 51 * p + (5 + 3 * w) = 81 + 51 * p + 3 * w from by omega] at v
      refine xs_rsL hs h21 hb h20 hp w _ v ?_ (fun e he => h e (he.trans (congrArg (dc_rs p un w) (if_neg z).symm)))
      unfold dc_w; rw [pk_un (by omega)]; unfold dc_w at hw; omega
theorem xo_res {post : Int32 → SX → Prop} {p ac : Int32} {b s : Nat} (hs : x_slotNow = nI s) (h21 : s < 21) (hb : x_stepsBack = nI b) (h20 : b ≤ 20) (hv : dc_V x_doc)
    (h0 : ∀ r e, op_res x_doc p ac = (r, e) → r < 0 ∨ r = 0 → post r (x_tracking, x_view, x_slotNow, x_stepsBack, x_stepsAgain, x_stale, x_rounds, x_columnCount, x_doc, x_kept, x_referenceWidth, x_labelValue, x_labelWidth, x_lineCount, x_gapBefore, x_headNeeds, x_groupNeeds, x_wordLine, x_wordLeft, x_lineFirst, x_lineWords, x_lineLeft, x_lineSlack, x_lineNotes, x_lineColumn, x_lineTop, x_columnParagraph, x_columnFirst, x_columnLines, x_columnNotes, x_columnFilled))
    (h1 : ∀ r e, op_res x_doc p ac = (r, e) → ¬ (r < 0 ∨ r = 0) → post r (x_tracking, x_view, (nI ((s + 1) % 21)), (nI (if b < 20 then b + 1 else b)), 0, 1, x_rounds, x_columnCount, e, (st_b x_kept (1300 * ((s + 1) % 21)) 1300 e), x_referenceWidth, x_labelValue, x_labelWidth, x_lineCount, x_gapBefore, x_headNeeds, x_groupNeeds, x_wordLine, x_wordLeft, x_lineFirst, x_lineWords, x_lineLeft, x_lineSlack, x_lineNotes, x_lineColumn, x_lineTop, x_columnParagraph, x_columnFirst, x_columnLines, x_columnNotes, x_columnFilled)) :
    wpX_resolve post (x_tracking, x_view, x_slotNow, x_stepsBack, x_stepsAgain, x_stale, x_rounds, x_columnCount, x_doc, x_kept, x_referenceWidth, x_labelValue, x_labelWidth, x_lineCount, x_gapBefore, x_headNeeds, x_groupNeeds, x_wordLine, x_wordLeft, x_lineFirst, x_lineWords, x_lineLeft, x_lineSlack, x_lineNotes, x_lineColumn, x_lineTop, x_columnParagraph, x_columnFirst, x_columnLines, x_columnNotes, x_columnFilled) p ac := by
  unfold wpX_resolve
  obtain ⟨e0, h24⟩ := dc_Vn hv
  refine xr_isP (fun z => br_t rfl ?_) (fun z1 z2 => br_f (by decide) ?_)
  · exact h0 _ _ (if_neg z) (Or.inl (by decide))
  · obtain ⟨j, hj, rfl⟩ := op_ix z1 (e0 ▸ z2) (by omega)
    have ec := nI_clamp (n := j) (by omega)
    have e : op_res x_doc (nI j) ac = _ := if_pos ⟨z1, z2⟩
    rw [ec] at e
    have hc : dc_cg x_doc j (dc_w x_doc j) < 2 ^ 31 := by
      have q : ∀ w, dc_cg x_doc j w ≤ w := by
        intro w
        induction w with
        | zero => exact Nat.le_refl _
        | succ w ih => unfold dc_cg; split <;> omega
      have := q (dc_w x_doc j); have := (dc_Vw hv (p := j) (by omega)).2; omega
    refine xs_cg rfl hv (by omega) (br_c (fun z => ?_) (fun z => ?_))
    · have q := h0 _ _ e (Or.inr z); rw [z] at q; exact q
    · have h2 := h1 _ _ e (fun q => q.elim (nI_pos hc) z)
      have go : ∀ un : Int32, un = (if ac = 0 then 1 else 2) → wX_resolve_31 post (nI j) (nI (dc_cg x_doc j (dc_w x_doc j))) un x_tracking x_view x_slotNow x_stepsBack x_stepsAgain x_stale x_rounds x_columnCount x_doc x_kept x_referenceWidth x_labelValue x_labelWidth x_lineCount x_gapBefore x_headNeeds x_groupNeeds x_wordLine x_wordLeft x_lineFirst x_lineWords x_lineLeft x_lineSlack x_lineNotes x_lineColumn x_lineTop x_columnParagraph x_columnFirst x_columnLines x_columnNotes x_columnFilled := fun un hu => by
        subst hu
        unfold wX_resolve_31
        refine xr_wo rfl (by omega) ?_
        rw [(dc_Vw hv (p := j) (by omega)).1]
        exact nm_e ⟨_, xs_rsL hs h21 hb h20 (by omega) _ x_doc hv (by omega) (fun e' he => by subst he; exact h2)⟩
      exact br_c (fun za => go 1 (if_pos za).symm) (fun za => go 2 (if_neg za).symm)
/-- step -/
theorem xo_step {post : Int32 → SX → Prop} {bk : Int32} {b s g : Nat} (hs : x_slotNow = nI s) (h21 : s < 21) (hb : x_stepsBack = nI b) (hg : x_stepsAgain = nI g) (h20 : b + g ≤ 20)
    (h0 : (bk = 0 → g = 0) → (¬ bk = 0 → b = 0) → post 0 (x_tracking, x_view, x_slotNow, x_stepsBack, x_stepsAgain, x_stale, x_rounds, x_columnCount, x_doc, x_kept, x_referenceWidth, x_labelValue, x_labelWidth, x_lineCount, x_gapBefore, x_headNeeds, x_groupNeeds, x_wordLine, x_wordLeft, x_lineFirst, x_lineWords, x_lineLeft, x_lineSlack, x_lineNotes, x_lineColumn, x_lineTop, x_columnParagraph, x_columnFirst, x_columnLines, x_columnNotes, x_columnFilled))
    (h1 : bk = 0 → 0 < g → post 1 (x_tracking, x_view, (nI ((s + 1) % 21)), (nI (b + 1)), (nI (g - 1)), 1, x_rounds, x_columnCount, (st_b x_doc 0 1300 (fun i => x_kept (1300 * ((s + 1) % 21) + i))), x_kept, x_referenceWidth, x_labelValue, x_labelWidth, x_lineCount, x_gapBefore, x_headNeeds, x_groupNeeds, x_wordLine, x_wordLeft, x_lineFirst, x_lineWords, x_lineLeft, x_lineSlack, x_lineNotes, x_lineColumn, x_lineTop, x_columnParagraph, x_columnFirst, x_columnLines, x_columnNotes, x_columnFilled))
    (h2 : ¬ bk = 0 → 0 < b → post 1 (x_tracking, x_view, (nI ((s + 20) % 21)), (nI (b - 1)), (nI (g + 1)), 1, x_rounds, x_columnCount, (st_b x_doc 0 1300 (fun i => x_kept (1300 * ((s + 20) % 21) + i))), x_kept, x_referenceWidth, x_labelValue, x_labelWidth, x_lineCount, x_gapBefore, x_headNeeds, x_groupNeeds, x_wordLine, x_wordLeft, x_lineFirst, x_lineWords, x_lineLeft, x_lineSlack, x_lineNotes, x_lineColumn, x_lineTop, x_columnParagraph, x_columnFirst, x_columnLines, x_columnNotes, x_columnFilled)) :
    wpX_step post (x_tracking, x_view, x_slotNow, x_stepsBack, x_stepsAgain, x_stale, x_rounds, x_columnCount, x_doc, x_kept, x_referenceWidth, x_labelValue, x_labelWidth, x_lineCount, x_gapBefore, x_headNeeds, x_groupNeeds, x_wordLine, x_wordLeft, x_lineFirst, x_lineWords, x_lineLeft, x_lineSlack, x_lineNotes, x_lineColumn, x_lineTop, x_columnParagraph, x_columnFirst, x_columnLines, x_columnNotes, x_columnFilled) bk := by
  subst hs hb hg
  refine br_c (fun z => pk_eq g 0 (fun y => h0 (fun _ => y) (fun q => absurd z q)) (fun y => ?_)) (fun z => pk_eq b 0 (fun y => h0 (fun q => absurd q z) (fun _ => y)) (fun y => ?_))
  · refine br_t z (nm_r (nI_1 b) (nm_r (e' := nI (g - 1)) ?_ ⟨by decide, nm_r (e' := nI ((s + 1) % 21)) ?_ (xs_load rfl (by omega) (h1 z (by omega)))⟩))
    · exact pk_sub (b := 1) (by omega)
    · have e : nI s + 1 + 21 = nI (s + 1 + 21) := by rw [nI_1]; exact nI_add _ 21
      rw [e]
      exact (pk_rem (d := 21) (by omega) (by omega) (by omega)).trans (congrArg nI (by omega))
  · refine br_f z (nm_r (e' := nI (b - 1)) ?_ (nm_r (e' := nI (g + 1)) ?_ ⟨by decide, nm_r (e' := nI ((s + 20) % 21)) ?_ (xs_load rfl (by omega) (h2 z (by omega)))⟩))
    · obtain ⟨k, rfl⟩ : ∃ k, b = k + 1 := ⟨b - 1, by omega⟩
      exact pk_m1 k
    · rw [← nI_1, Int32.sub_eq_add_neg, show (-(-1) : Int32) = 1 from by decide]
    · have e : nI s + (-1) + 21 = nI (s + 20) := by
        rw [Int32.add_assoc, show (-1 : Int32) + 21 = nI 20 from by decide, nI_add]
      rw [e]
      exact pk_rem (d := 21) (by omega) (by omega) (by omega)
theorem xo_track {post : Int32 → SX → Prop} {on vw : Int32} (ho : on = 0 ∨ on = 1)
    (h0 : ¬ (0 ≤ vw ∧ vw ≤ 2) → post 0 (x_tracking, x_view, x_slotNow, x_stepsBack, x_stepsAgain, x_stale, x_rounds, x_columnCount, x_doc, x_kept, x_referenceWidth, x_labelValue, x_labelWidth, x_lineCount, x_gapBefore, x_headNeeds, x_groupNeeds, x_wordLine, x_wordLeft, x_lineFirst, x_lineWords, x_lineLeft, x_lineSlack, x_lineNotes, x_lineColumn, x_lineTop, x_columnParagraph, x_columnFirst, x_columnLines, x_columnNotes, x_columnFilled)) (h1 : 0 ≤ vw ∧ vw ≤ 2 → post 1 (on, vw, x_slotNow, x_stepsBack, x_stepsAgain, 1, x_rounds, x_columnCount, x_doc, x_kept, x_referenceWidth, x_labelValue, x_labelWidth, x_lineCount, x_gapBefore, x_headNeeds, x_groupNeeds, x_wordLine, x_wordLeft, x_lineFirst, x_lineWords, x_lineLeft, x_lineSlack, x_lineNotes, x_lineColumn, x_lineTop, x_columnParagraph, x_columnFirst, x_columnLines, x_columnNotes, x_columnFilled)) : wpX_track post (x_tracking, x_view, x_slotNow, x_stepsBack, x_stepsAgain, x_stale, x_rounds, x_columnCount, x_doc, x_kept, x_referenceWidth, x_labelValue, x_labelWidth, x_lineCount, x_gapBefore, x_headNeeds, x_groupNeeds, x_wordLine, x_wordLeft, x_lineFirst, x_lineWords, x_lineLeft, x_lineSlack, x_lineNotes, x_lineColumn, x_lineTop, x_columnParagraph, x_columnFirst, x_columnLines, x_columnNotes, x_columnFilled) on vw := by
  unfold wpX_track
  refine xr_in (fun z => br_t rfl (h0 z)) (fun z1 z2 => br_f (by decide) ⟨?_, ?_, h1 ⟨z1, z2⟩⟩)
  · rcases ho with rfl | rfl <;> rfl
  · rcases ho with rfl | rfl <;> rfl
end
section
/-- one of two documents is another one -/
def ya_s (A : Nat → Nat → Int32) (d : Nat) (a : Nat → Int32) : Nat → Nat → Int32 := fun e => if e = d then a else A e
theorem ya_ss {A : Nat → Nat → Int32} {d : Nat} {a : Nat → Int32} : ya_s A d a d = a := if_pos rfl
theorem ya_sn {A : Nat → Nat → Int32} {d e : Nat} {a : Nat → Int32} (h : e ≠ d) : ya_s A d a e = A e := if_neg h
theorem ya_s2 {A : Nat → Nat → Int32} {d : Nat} {a b : Nat → Int32} : ya_s (ya_s A d a) d b = ya_s A d b := by
  funext e
  by_cases q : e = d
  · subst q; rw [ya_ss, ya_ss]
  · rw [ya_sn q, ya_sn q, ya_sn q]
theorem ya_sI {A : Nat → Nat → Int32} {d : Nat} : ya_s A d (A d) = A := by
  funext e
  by_cases q : e = d
  · subst q; rw [ya_ss]
  · rw [ya_sn q]
/-- Y's arrays hold the documents A 0 and A 1 -/
def ya_A (A : Nat → Nat → Int32) (y_many y_pages y_styles y_styleOf y_markOf y_words y_width y_note y_status : Nat → Int32) : Prop :=
  (∀ d, d < 2 → A d 0 = y_many d)
  ∧ (∀ d j, d < 2 → j < 3 → A d (1 + j) = y_pages (3 * d + j))
  ∧ (∀ d j, d < 2 → j < 72 → A d (4 + j) = y_styles (72 * d + j))
  ∧ (∀ d p, d < 2 → p < 24 → A d (76 + 51 * p) = y_styleOf (24 * d + p))
  ∧ (∀ d p, d < 2 → p < 24 → A d (77 + 51 * p) = y_markOf (24 * d + p))
  ∧ (∀ d p, d < 2 → p < 24 → A d (78 + 51 * p) = y_words (24 * d + p))
  ∧ (∀ d p w, d < 2 → p < 24 → w < 16 → A d (79 + 51 * p + 3 * w) = y_width (384 * d + 16 * p + w))
  ∧ (∀ d p w, d < 2 → p < 24 → w < 16 → A d (80 + 51 * p + 3 * w) = y_note (384 * d + 16 * p + w))
  ∧ (∀ d p w, d < 2 → p < 24 → w < 16 → A d (81 + 51 * p + 3 * w) = y_status (384 * d + 16 * p + w))
theorem ya_many {A : Nat → Nat → Int32} {y_many y_pages y_styles y_styleOf y_markOf y_words y_width y_note y_status : Nat → Int32} (H : ya_A A y_many y_pages y_styles y_styleOf y_markOf y_words y_width y_note y_status) {d  : Nat} (hd : d < 2) : A d 0 = y_many d := H.1 d  hd 
theorem ya_pages {A : Nat → Nat → Int32} {y_many y_pages y_styles y_styleOf y_markOf y_words y_width y_note y_status : Nat → Int32} (H : ya_A A y_many y_pages y_styles y_styleOf y_markOf y_words y_width y_note y_status) {d j : Nat} (hd : d < 2) (hj : j < 3) : A d (1 + j) = y_pages (3 * d + j) := H.2.1 d j hd hj
theorem ya_styles {A : Nat → Nat → Int32} {y_many y_pages y_styles y_styleOf y_markOf y_words y_width y_note y_status : Nat → Int32} (H : ya_A A y_many y_pages y_styles y_styleOf y_markOf y_words y_width y_note y_status) {d j : Nat} (hd : d < 2) (hj : j < 72) : A d (4 + j) = y_styles (72 * d + j) := H.2.2.1 d j hd hj
theorem ya_styleOf {A : Nat → Nat → Int32} {y_many y_pages y_styles y_styleOf y_markOf y_words y_width y_note y_status : Nat → Int32} (H : ya_A A y_many y_pages y_styles y_styleOf y_markOf y_words y_width y_note y_status) {d p : Nat} (hd : d < 2) (hp : p < 24) : A d (76 + 51 * p) = y_styleOf (24 * d + p) := H.2.2.2.1 d p hd hp
theorem ya_markOf {A : Nat → Nat → Int32} {y_many y_pages y_styles y_styleOf y_markOf y_words y_width y_note y_status : Nat → Int32} (H : ya_A A y_many y_pages y_styles y_styleOf y_markOf y_words y_width y_note y_status) {d p : Nat} (hd : d < 2) (hp : p < 24) : A d (77 + 51 * p) = y_markOf (24 * d + p) := H.2.2.2.2.1 d p hd hp
theorem ya_words {A : Nat → Nat → Int32} {y_many y_pages y_styles y_styleOf y_markOf y_words y_width y_note y_status : Nat → Int32} (H : ya_A A y_many y_pages y_styles y_styleOf y_markOf y_words y_width y_note y_status) {d p : Nat} (hd : d < 2) (hp : p < 24) : A d (78 + 51 * p) = y_words (24 * d + p) := H.2.2.2.2.2.1 d p hd hp
theorem ya_width {A : Nat → Nat → Int32} {y_many y_pages y_styles y_styleOf y_markOf y_words y_width y_note y_status : Nat → Int32} (H : ya_A A y_many y_pages y_styles y_styleOf y_markOf y_words y_width y_note y_status) {d p w : Nat} (hd : d < 2) (hp : p < 24) (hw : w < 16) : A d (79 + 51 * p + 3 * w) = y_width (384 * d + 16 * p + w) := H.2.2.2.2.2.2.1 d p w hd hp hw
theorem ya_note {A : Nat → Nat → Int32} {y_many y_pages y_styles y_styleOf y_markOf y_words y_width y_note y_status : Nat → Int32} (H : ya_A A y_many y_pages y_styles y_styleOf y_markOf y_words y_width y_note y_status) {d p w : Nat} (hd : d < 2) (hp : p < 24) (hw : w < 16) : A d (80 + 51 * p + 3 * w) = y_note (384 * d + 16 * p + w) := H.2.2.2.2.2.2.2.1 d p w hd hp hw
theorem ya_status {A : Nat → Nat → Int32} {y_many y_pages y_styles y_styleOf y_markOf y_words y_width y_note y_status : Nat → Int32} (H : ya_A A y_many y_pages y_styles y_styleOf y_markOf y_words y_width y_note y_status) {d p w : Nat} (hd : d < 2) (hp : p < 24) (hw : w < 16) : A d (81 + 51 * p + 3 * w) = y_status (384 * d + 16 * p + w) := H.2.2.2.2.2.2.2.2 d p w hd hp hw
theorem yu_many {A : Nat → Nat → Int32} {y_many y_pages y_styles y_styleOf y_markOf y_words y_width y_note y_status : Nat → Int32} {d  : Nat} {v : Int32} (H : ya_A A y_many y_pages y_styles y_styleOf y_markOf y_words y_width y_note y_status) (hd : d < 2) : ya_A (ya_s A d (upd (A d) 0 v)) (upd y_many d v) y_pages y_styles y_styleOf y_markOf y_words y_width y_note y_status := by
  refine ⟨fun e he => ?_, fun e j' he hj' => ?_, fun e j' he hj' => ?_, fun e p' he hp' => ?_, fun e p' he hp' => ?_, fun e p' he hp' => ?_, fun e p' w' he hp' hw' => ?_, fun e p' w' he hp' hw' => ?_, fun e p' w' he hp' hw' => ?_⟩
  · by_cases q : e = d
    · obtain rfl := q; rw [ya_ss, pk_us, pk_us]
    · rw [pk_un (by omega)]
      rw [ya_sn q]; exact (H.1 e he )
  · by_cases q2 : e = d
    · subst q2; rw [ya_ss, pk_un (by omega)]; exact (H.2.1 e j' he hj')
    · rw [ya_sn q2]; exact (H.2.1 e j' he hj')
  · by_cases q2 : e = d
    · subst q2; rw [ya_ss, pk_un (by omega)]; exact (H.2.2.1 e j' he hj')
    · rw [ya_sn q2]; exact (H.2.2.1 e j' he hj')
  · by_cases q2 : e = d
    · subst q2; rw [ya_ss, pk_un (by omega)]; exact (H.2.2.2.1 e p' he hp')
    · rw [ya_sn q2]; exact (H.2.2.2.1 e p' he hp')
  · by_cases q2 : e = d
    · subst q2; rw [ya_ss, pk_un (by omega)]; exact (H.2.2.2.2.1 e p' he hp')
    · rw [ya_sn q2]; exact (H.2.2.2.2.1 e p' he hp')
  · by_cases q2 : e = d
    · subst q2; rw [ya_ss, pk_un (by omega)]; exact (H.2.2.2.2.2.1 e p' he hp')
    · rw [ya_sn q2]; exact (H.2.2.2.2.2.1 e p' he hp')
  · by_cases q2 : e = d
    · subst q2; rw [ya_ss, pk_un (by omega)]; exact (H.2.2.2.2.2.2.1 e p' w' he hp' hw')
    · rw [ya_sn q2]; exact (H.2.2.2.2.2.2.1 e p' w' he hp' hw')
  · by_cases q2 : e = d
    · subst q2; rw [ya_ss, pk_un (by omega)]; exact (H.2.2.2.2.2.2.2.1 e p' w' he hp' hw')
    · rw [ya_sn q2]; exact (H.2.2.2.2.2.2.2.1 e p' w' he hp' hw')
  · by_cases q2 : e = d
    · subst q2; rw [ya_ss, pk_un (by omega)]; exact (H.2.2.2.2.2.2.2.2 e p' w' he hp' hw')
    · rw [ya_sn q2]; exact (H.2.2.2.2.2.2.2.2 e p' w' he hp' hw')
theorem yu_pages {A : Nat → Nat → Int32} {y_many y_pages y_styles y_styleOf y_markOf y_words y_width y_note y_status : Nat → Int32} {d j : Nat} {v : Int32} (H : ya_A A y_many y_pages y_styles y_styleOf y_markOf y_words y_width y_note y_status) (hd : d < 2) (hj : j < 3) : ya_A (ya_s A d (upd (A d) (1 + j) v)) y_many (upd y_pages (3 * d + j) v) y_styles y_styleOf y_markOf y_words y_width y_note y_status := by
  refine ⟨fun e he => ?_, fun e j' he hj' => ?_, fun e j' he hj' => ?_, fun e p' he hp' => ?_, fun e p' he hp' => ?_, fun e p' he hp' => ?_, fun e p' w' he hp' hw' => ?_, fun e p' w' he hp' hw' => ?_, fun e p' w' he hp' hw' => ?_⟩
  · by_cases q2 : e = d
    · subst q2; rw [ya_ss, pk_un (by omega)]; exact (H.1 e he )
    · rw [ya_sn q2]; exact (H.1 e he )
  · by_cases q : e = d ∧ j' = j
    · obtain ⟨rfl, rfl⟩ := q; rw [ya_ss, pk_us, pk_us]
    · rw [pk_un (by omega)]
      by_cases q2 : e = d
      · subst q2; rw [ya_ss, pk_un (by omega)]; exact (H.2.1 e j' he hj')
      · rw [ya_sn q2]; exact (H.2.1 e j' he hj')
  · by_cases q2 : e = d
    · subst q2; rw [ya_ss, pk_un (by omega)]; exact (H.2.2.1 e j' he hj')
    · rw [ya_sn q2]; exact (H.2.2.1 e j' he hj')
  · by_cases q2 : e = d
    · subst q2; rw [ya_ss, pk_un (by omega)]; exact (H.2.2.2.1 e p' he hp')
    · rw [ya_sn q2]; exact (H.2.2.2.1 e p' he hp')
  · by_cases q2 : e = d
    · subst q2; rw [ya_ss, pk_un (by omega)]; exact (H.2.2.2.2.1 e p' he hp')
    · rw [ya_sn q2]; exact (H.2.2.2.2.1 e p' he hp')
  · by_cases q2 : e = d
    · subst q2; rw [ya_ss, pk_un (by omega)]; exact (H.2.2.2.2.2.1 e p' he hp')
    · rw [ya_sn q2]; exact (H.2.2.2.2.2.1 e p' he hp')
  · by_cases q2 : e = d
    · subst q2; rw [ya_ss, pk_un (by omega)]; exact (H.2.2.2.2.2.2.1 e p' w' he hp' hw')
    · rw [ya_sn q2]; exact (H.2.2.2.2.2.2.1 e p' w' he hp' hw')
  · by_cases q2 : e = d
    · subst q2; rw [ya_ss, pk_un (by omega)]; exact (H.2.2.2.2.2.2.2.1 e p' w' he hp' hw')
    · rw [ya_sn q2]; exact (H.2.2.2.2.2.2.2.1 e p' w' he hp' hw')
  · by_cases q2 : e = d
    · subst q2; rw [ya_ss, pk_un (by omega)]; exact (H.2.2.2.2.2.2.2.2 e p' w' he hp' hw')
    · rw [ya_sn q2]; exact (H.2.2.2.2.2.2.2.2 e p' w' he hp' hw')
theorem yu_styles {A : Nat → Nat → Int32} {y_many y_pages y_styles y_styleOf y_markOf y_words y_width y_note y_status : Nat → Int32} {d j : Nat} {v : Int32} (H : ya_A A y_many y_pages y_styles y_styleOf y_markOf y_words y_width y_note y_status) (hd : d < 2) (hj : j < 72) : ya_A (ya_s A d (upd (A d) (4 + j) v)) y_many y_pages (upd y_styles (72 * d + j) v) y_styleOf y_markOf y_words y_width y_note y_status := by
  refine ⟨fun e he => ?_, fun e j' he hj' => ?_, fun e j' he hj' => ?_, fun e p' he hp' => ?_, fun e p' he hp' => ?_, fun e p' he hp' => ?_, fun e p' w' he hp' hw' => ?_, fun e p' w' he hp' hw' => ?_, fun e p' w' he hp' hw' => ?_⟩
  · by_cases q2 : e = d
    · subst q2; rw [ya_ss, pk_un (by omega)]; exact (H.1 e he )
    · rw [ya_sn q2]; exact (H.1 e he )
  · by_cases q2 : e = d
    · subst q2; rw [ya_ss, pk_un (by omega)]; exact (H.2.1 e j' he hj')
    · rw [ya_sn q2]; exact (H.2.1 e j' he hj')
  · by_cases q : e = d ∧ j' = j
    · obtain ⟨rfl, rfl⟩ := q; rw [ya_ss, pk_us, pk_us]
    · rw [pk_un (by omega)]
      by_cases q2 : e = d
      · subst q2; rw [ya_ss, pk_un (by omega)]; exact (H.2.2.1 e j' he hj')
      · rw [ya_sn q2]; exact (H.2.2.1 e j' he hj')
  · by_cases q2 : e = d
    · subst q2; rw [ya_ss, pk_un (by omega)]; exact (H.2.2.2.1 e p' he hp')
    · rw [ya_sn q2]; exact (H.2.2.2.1 e p' he hp')
  · by_cases q2 : e = d
    · subst q2; rw [ya_ss, pk_un (by omega)]; exact (H.2.2.2.2.1 e p' he hp')
    · rw [ya_sn q2]; exact (H.2.2.2.2.1 e p' he hp')
  · by_cases q2 : e = d
    · subst q2; rw [ya_ss, pk_un (by omega)]; exact (H.2.2.2.2.2.1 e p' he hp')
    · rw [ya_sn q2]; exact (H.2.2.2.2.2.1 e p' he hp')
  · by_cases q2 : e = d
    · subst q2; rw [ya_ss, pk_un (by omega)]; exact (H.2.2.2.2.2.2.1 e p' w' he hp' hw')
    · rw [ya_sn q2]; exact (H.2.2.2.2.2.2.1 e p' w' he hp' hw')
  · by_cases q2 : e = d
    · subst q2; rw [ya_ss, pk_un (by omega)]; exact (H.2.2.2.2.2.2.2.1 e p' w' he hp' hw')
    · rw [ya_sn q2]; exact (H.2.2.2.2.2.2.2.1 e p' w' he hp' hw')
  · by_cases q2 : e = d
    · subst q2; rw [ya_ss, pk_un (by omega)]; exact (H.2.2.2.2.2.2.2.2 e p' w' he hp' hw')
    · rw [ya_sn q2]; exact (H.2.2.2.2.2.2.2.2 e p' w' he hp' hw')
theorem yu_styleOf {A : Nat → Nat → Int32} {y_many y_pages y_styles y_styleOf y_markOf y_words y_width y_note y_status : Nat → Int32} {d p : Nat} {v : Int32} (H : ya_A A y_many y_pages y_styles y_styleOf y_markOf y_words y_width y_note y_status) (hd : d < 2) (hp : p < 24) : ya_A (ya_s A d (upd (A d) (76 + 51 * p) v)) y_many y_pages y_styles (upd y_styleOf (24 * d + p) v) y_markOf y_words y_width y_note y_status := by
  refine ⟨fun e he => ?_, fun e j' he hj' => ?_, fun e j' he hj' => ?_, fun e p' he hp' => ?_, fun e p' he hp' => ?_, fun e p' he hp' => ?_, fun e p' w' he hp' hw' => ?_, fun e p' w' he hp' hw' => ?_, fun e p' w' he hp' hw' => ?_⟩
  · by_cases q2 : e = d
    · subst q2; rw [ya_ss, pk_un (by omega)]; exact (H.1 e he )
    · rw [ya_sn q2]; exact (H.1 e he )
  · by_cases q2 : e = d
    · subst q2; rw [ya_ss, pk_un (by omega)]; exact (H.2.1 e j' he hj')
    · rw [ya_sn q2]; exact (H.2.1 e j' he hj')
  · by_cases q2 : e = d
    · subst q2; rw [ya_ss, pk_un (by omega)]; exact (H.2.2.1 e j' he hj')
    · rw [ya_sn q2]; exact (H.2.2.1 e j' he hj')
  · by_cases q : e = d ∧ p' = p
    · obtain ⟨rfl, rfl⟩ := q; rw [ya_ss, pk_us, pk_us]
    · rw [pk_un (by omega)]
      by_cases q2 : e = d
      · subst q2; rw [ya_ss, pk_un (by omega)]; exact (H.2.2.2.1 e p' he hp')
      · rw [ya_sn q2]; exact (H.2.2.2.1 e p' he hp')
  · by_cases q2 : e = d
    · subst q2; rw [ya_ss, pk_un (by omega)]; exact (H.2.2.2.2.1 e p' he hp')
    · rw [ya_sn q2]; exact (H.2.2.2.2.1 e p' he hp')
  · by_cases q2 : e = d
    · subst q2; rw [ya_ss, pk_un (by omega)]; exact (H.2.2.2.2.2.1 e p' he hp')
    · rw [ya_sn q2]; exact (H.2.2.2.2.2.1 e p' he hp')
  · by_cases q2 : e = d
    · subst q2; rw [ya_ss, pk_un (by omega)]; exact (H.2.2.2.2.2.2.1 e p' w' he hp' hw')
    · rw [ya_sn q2]; exact (H.2.2.2.2.2.2.1 e p' w' he hp' hw')
  · by_cases q2 : e = d
    · subst q2; rw [ya_ss, pk_un (by omega)]; exact (H.2.2.2.2.2.2.2.1 e p' w' he hp' hw')
    · rw [ya_sn q2]; exact (H.2.2.2.2.2.2.2.1 e p' w' he hp' hw')
  · by_cases q2 : e = d
    · subst q2; rw [ya_ss, pk_un (by omega)]; exact (H.2.2.2.2.2.2.2.2 e p' w' he hp' hw')
    · rw [ya_sn q2]; exact (H.2.2.2.2.2.2.2.2 e p' w' he hp' hw')
theorem yu_markOf {A : Nat → Nat → Int32} {y_many y_pages y_styles y_styleOf y_markOf y_words y_width y_note y_status : Nat → Int32} {d p : Nat} {v : Int32} (H : ya_A A y_many y_pages y_styles y_styleOf y_markOf y_words y_width y_note y_status) (hd : d < 2) (hp : p < 24) : ya_A (ya_s A d (upd (A d) (77 + 51 * p) v)) y_many y_pages y_styles y_styleOf (upd y_markOf (24 * d + p) v) y_words y_width y_note y_status := by
  refine ⟨fun e he => ?_, fun e j' he hj' => ?_, fun e j' he hj' => ?_, fun e p' he hp' => ?_, fun e p' he hp' => ?_, fun e p' he hp' => ?_, fun e p' w' he hp' hw' => ?_, fun e p' w' he hp' hw' => ?_, fun e p' w' he hp' hw' => ?_⟩
  · by_cases q2 : e = d
    · subst q2; rw [ya_ss, pk_un (by omega)]; exact (H.1 e he )
    · rw [ya_sn q2]; exact (H.1 e he )
  · by_cases q2 : e = d
    · subst q2; rw [ya_ss, pk_un (by omega)]; exact (H.2.1 e j' he hj')
    · rw [ya_sn q2]; exact (H.2.1 e j' he hj')
  · by_cases q2 : e = d
    · subst q2; rw [ya_ss, pk_un (by omega)]; exact (H.2.2.1 e j' he hj')
    · rw [ya_sn q2]; exact (H.2.2.1 e j' he hj')
  · by_cases q2 : e = d
    · subst q2; rw [ya_ss, pk_un (by omega)]; exact (H.2.2.2.1 e p' he hp')
    · rw [ya_sn q2]; exact (H.2.2.2.1 e p' he hp')
  · by_cases q : e = d ∧ p' = p
    · obtain ⟨rfl, rfl⟩ := q; rw [ya_ss, pk_us, pk_us]
    · rw [pk_un (by omega)]
      by_cases q2 : e = d
      · subst q2; rw [ya_ss, pk_un (by omega)]; exact (H.2.2.2.2.1 e p' he hp')
      · rw [ya_sn q2]; exact (H.2.2.2.2.1 e p' he hp')
  · by_cases q2 : e = d
    · subst q2; rw [ya_ss, pk_un (by omega)]; exact (H.2.2.2.2.2.1 e p' he hp')
    · rw [ya_sn q2]; exact (H.2.2.2.2.2.1 e p' he hp')
  · by_cases q2 : e = d
    · subst q2; rw [ya_ss, pk_un (by omega)]; exact (H.2.2.2.2.2.2.1 e p' w' he hp' hw')
    · rw [ya_sn q2]; exact (H.2.2.2.2.2.2.1 e p' w' he hp' hw')
  · by_cases q2 : e = d
    · subst q2; rw [ya_ss, pk_un (by omega)]; exact (H.2.2.2.2.2.2.2.1 e p' w' he hp' hw')
    · rw [ya_sn q2]; exact (H.2.2.2.2.2.2.2.1 e p' w' he hp' hw')
  · by_cases q2 : e = d
    · subst q2; rw [ya_ss, pk_un (by omega)]; exact (H.2.2.2.2.2.2.2.2 e p' w' he hp' hw')
    · rw [ya_sn q2]; exact (H.2.2.2.2.2.2.2.2 e p' w' he hp' hw')
theorem yu_words {A : Nat → Nat → Int32} {y_many y_pages y_styles y_styleOf y_markOf y_words y_width y_note y_status : Nat → Int32} {d p : Nat} {v : Int32} (H : ya_A A y_many y_pages y_styles y_styleOf y_markOf y_words y_width y_note y_status) (hd : d < 2) (hp : p < 24) : ya_A (ya_s A d (upd (A d) (78 + 51 * p) v)) y_many y_pages y_styles y_styleOf y_markOf (upd y_words (24 * d + p) v) y_width y_note y_status := by
  refine ⟨fun e he => ?_, fun e j' he hj' => ?_, fun e j' he hj' => ?_, fun e p' he hp' => ?_, fun e p' he hp' => ?_, fun e p' he hp' => ?_, fun e p' w' he hp' hw' => ?_, fun e p' w' he hp' hw' => ?_, fun e p' w' he hp' hw' => ?_⟩
  · by_cases q2 : e = d
    · subst q2; rw [ya_ss, pk_un (by omega)]; exact (H.1 e he )
    · rw [ya_sn q2]; exact (H.1 e he )
  · by_cases q2 : e = d
    · subst q2; rw [ya_ss, pk_un (by omega)]; exact (H.2.1 e j' he hj')
    · rw [ya_sn q2]; exact (H.2.1 e j' he hj')
  · by_cases q2 : e = d
    · subst q2; rw [ya_ss, pk_un (by omega)]; exact (H.2.2.1 e j' he hj')
    · rw [ya_sn q2]; exact (H.2.2.1 e j' he hj')
  · by_cases q2 : e = d
    · subst q2; rw [ya_ss, pk_un (by omega)]; exact (H.2.2.2.1 e p' he hp')
    · rw [ya_sn q2]; exact (H.2.2.2.1 e p' he hp')
  · by_cases q2 : e = d
    · subst q2; rw [ya_ss, pk_un (by omega)]; exact (H.2.2.2.2.1 e p' he hp')
    · rw [ya_sn q2]; exact (H.2.2.2.2.1 e p' he hp')
  · by_cases q : e = d ∧ p' = p
    · obtain ⟨rfl, rfl⟩ := q; rw [ya_ss, pk_us, pk_us]
    · rw [pk_un (by omega)]
      by_cases q2 : e = d
      · subst q2; rw [ya_ss, pk_un (by omega)]; exact (H.2.2.2.2.2.1 e p' he hp')
      · rw [ya_sn q2]; exact (H.2.2.2.2.2.1 e p' he hp')
  · by_cases q2 : e = d
    · subst q2; rw [ya_ss, pk_un (by omega)]; exact (H.2.2.2.2.2.2.1 e p' w' he hp' hw')
    · rw [ya_sn q2]; exact (H.2.2.2.2.2.2.1 e p' w' he hp' hw')
  · by_cases q2 : e = d
    · subst q2; rw [ya_ss, pk_un (by omega)]; exact (H.2.2.2.2.2.2.2.1 e p' w' he hp' hw')
    · rw [ya_sn q2]; exact (H.2.2.2.2.2.2.2.1 e p' w' he hp' hw')
  · by_cases q2 : e = d
    · subst q2; rw [ya_ss, pk_un (by omega)]; exact (H.2.2.2.2.2.2.2.2 e p' w' he hp' hw')
    · rw [ya_sn q2]; exact (H.2.2.2.2.2.2.2.2 e p' w' he hp' hw')
theorem yu_width {A : Nat → Nat → Int32} {y_many y_pages y_styles y_styleOf y_markOf y_words y_width y_note y_status : Nat → Int32} {d p w : Nat} {v : Int32} (H : ya_A A y_many y_pages y_styles y_styleOf y_markOf y_words y_width y_note y_status) (hd : d < 2) (hp : p < 24) (hw : w < 16) : ya_A (ya_s A d (upd (A d) (79 + 51 * p + 3 * w) v)) y_many y_pages y_styles y_styleOf y_markOf y_words (upd y_width (384 * d + 16 * p + w) v) y_note y_status := by
  refine ⟨fun e he => ?_, fun e j' he hj' => ?_, fun e j' he hj' => ?_, fun e p' he hp' => ?_, fun e p' he hp' => ?_, fun e p' he hp' => ?_, fun e p' w' he hp' hw' => ?_, fun e p' w' he hp' hw' => ?_, fun e p' w' he hp' hw' => ?_⟩
  · by_cases q2 : e = d
    · subst q2; rw [ya_ss, pk_un (by omega)]; exact (H.1 e he )
    · rw [ya_sn q2]; exact (H.1 e he )
  · by_cases q2 : e = d
    · subst q2; rw [ya_ss, pk_un (by omega)]; exact (H.2.1 e j' he hj')
    · rw [ya_sn q2]; exact (H.2.1 e j' he hj')
  · by_cases q2 : e = d
    · subst q2; rw [ya_ss, pk_un (by omega)]; exact (H.2.2.1 e j' he hj')
    · rw [ya_sn q2]; exact (H.2.2.1 e j' he hj')
  · by_cases q2 : e = d
    · subst q2; rw [ya_ss, pk_un (by omega)]; exact (H.2.2.2.1 e p' he hp')
    · rw [ya_sn q2]; exact (H.2.2.2.1 e p' he hp')
  · by_cases q2 : e = d
    · subst q2; rw [ya_ss, pk_un (by omega)]; exact (H.2.2.2.2.1 e p' he hp')
    · rw [ya_sn q2]; exact (H.2.2.2.2.1 e p' he hp')
  · by_cases q2 : e = d
    · subst q2; rw [ya_ss, pk_un (by omega)]; exact (H.2.2.2.2.2.1 e p' he hp')
    · rw [ya_sn q2]; exact (H.2.2.2.2.2.1 e p' he hp')
  · by_cases q : e = d ∧ p' = p ∧ w' = w
    · obtain ⟨rfl, rfl, rfl⟩ := q; rw [ya_ss, pk_us, pk_us]
    · rw [pk_un (by omega)]
      by_cases q2 : e = d
      · subst q2; rw [ya_ss, pk_un (by omega)]; exact (H.2.2.2.2.2.2.1 e p' w' he hp' hw')
      · rw [ya_sn q2]; exact (H.2.2.2.2.2.2.1 e p' w' he hp' hw')
  · by_cases q2 : e = d
    · subst q2; rw [ya_ss, pk_un (by omega)]; exact (H.2.2.2.2.2.2.2.1 e p' w' he hp' hw')
    · rw [ya_sn q2]; exact (H.2.2.2.2.2.2.2.1 e p' w' he hp' hw')
  · by_cases q2 : e = d
    · subst q2; rw [ya_ss, pk_un (by omega)]; exact (H.2.2.2.2.2.2.2.2 e p' w' he hp' hw')
    · rw [ya_sn q2]; exact (H.2.2.2.2.2.2.2.2 e p' w' he hp' hw')
theorem yu_note {A : Nat → Nat → Int32} {y_many y_pages y_styles y_styleOf y_markOf y_words y_width y_note y_status : Nat → Int32} {d p w : Nat} {v : Int32} (H : ya_A A y_many y_pages y_styles y_styleOf y_markOf y_words y_width y_note y_status) (hd : d < 2) (hp : p < 24) (hw : w < 16) : ya_A (ya_s A d (upd (A d) (80 + 51 * p + 3 * w) v)) y_many y_pages y_styles y_styleOf y_markOf y_words y_width (upd y_note (384 * d + 16 * p + w) v) y_status := by
  refine ⟨fun e he => ?_, fun e j' he hj' => ?_, fun e j' he hj' => ?_, fun e p' he hp' => ?_, fun e p' he hp' => ?_, fun e p' he hp' => ?_, fun e p' w' he hp' hw' => ?_, fun e p' w' he hp' hw' => ?_, fun e p' w' he hp' hw' => ?_⟩
  · by_cases q2 : e = d
    · subst q2; rw [ya_ss, pk_un (by omega)]; exact (H.1 e he )
    · rw [ya_sn q2]; exact (H.1 e he )
  · by_cases q2 : e = d
    · subst q2; rw [ya_ss, pk_un (by omega)]; exact (H.2.1 e j' he hj')
    · rw [ya_sn q2]; exact (H.2.1 e j' he hj')
  · by_cases q2 : e = d
    · subst q2; rw [ya_ss, pk_un (by omega)]; exact (H.2.2.1 e j' he hj')
    · rw [ya_sn q2]; exact (H.2.2.1 e j' he hj')
  · by_cases q2 : e = d
    · subst q2; rw [ya_ss, pk_un (by omega)]; exact (H.2.2.2.1 e p' he hp')
    · rw [ya_sn q2]; exact (H.2.2.2.1 e p' he hp')
  · by_cases q2 : e = d
    · subst q2; rw [ya_ss, pk_un (by omega)]; exact (H.2.2.2.2.1 e p' he hp')
    · rw [ya_sn q2]; exact (H.2.2.2.2.1 e p' he hp')
  · by_cases q2 : e = d
    · subst q2; rw [ya_ss, pk_un (by omega)]; exact (H.2.2.2.2.2.1 e p' he hp')
    · rw [ya_sn q2]; exact (H.2.2.2.2.2.1 e p' he hp')
  · by_cases q2 : e = d
    · subst q2; rw [ya_ss, pk_un (by omega)]; exact (H.2.2.2.2.2.2.1 e p' w' he hp' hw')
    · rw [ya_sn q2]; exact (H.2.2.2.2.2.2.1 e p' w' he hp' hw')
  · by_cases q : e = d ∧ p' = p ∧ w' = w
    · obtain ⟨rfl, rfl, rfl⟩ := q; rw [ya_ss, pk_us, pk_us]
    · rw [pk_un (by omega)]
      by_cases q2 : e = d
      · subst q2; rw [ya_ss, pk_un (by omega)]; exact (H.2.2.2.2.2.2.2.1 e p' w' he hp' hw')
      · rw [ya_sn q2]; exact (H.2.2.2.2.2.2.2.1 e p' w' he hp' hw')
  · by_cases q2 : e = d
    · subst q2; rw [ya_ss, pk_un (by omega)]; exact (H.2.2.2.2.2.2.2.2 e p' w' he hp' hw')
    · rw [ya_sn q2]; exact (H.2.2.2.2.2.2.2.2 e p' w' he hp' hw')
theorem yu_status {A : Nat → Nat → Int32} {y_many y_pages y_styles y_styleOf y_markOf y_words y_width y_note y_status : Nat → Int32} {d p w : Nat} {v : Int32} (H : ya_A A y_many y_pages y_styles y_styleOf y_markOf y_words y_width y_note y_status) (hd : d < 2) (hp : p < 24) (hw : w < 16) : ya_A (ya_s A d (upd (A d) (81 + 51 * p + 3 * w) v)) y_many y_pages y_styles y_styleOf y_markOf y_words y_width y_note (upd y_status (384 * d + 16 * p + w) v) := by
  refine ⟨fun e he => ?_, fun e j' he hj' => ?_, fun e j' he hj' => ?_, fun e p' he hp' => ?_, fun e p' he hp' => ?_, fun e p' he hp' => ?_, fun e p' w' he hp' hw' => ?_, fun e p' w' he hp' hw' => ?_, fun e p' w' he hp' hw' => ?_⟩
  · by_cases q2 : e = d
    · subst q2; rw [ya_ss, pk_un (by omega)]; exact (H.1 e he )
    · rw [ya_sn q2]; exact (H.1 e he )
  · by_cases q2 : e = d
    · subst q2; rw [ya_ss, pk_un (by omega)]; exact (H.2.1 e j' he hj')
    · rw [ya_sn q2]; exact (H.2.1 e j' he hj')
  · by_cases q2 : e = d
    · subst q2; rw [ya_ss, pk_un (by omega)]; exact (H.2.2.1 e j' he hj')
    · rw [ya_sn q2]; exact (H.2.2.1 e j' he hj')
  · by_cases q2 : e = d
    · subst q2; rw [ya_ss, pk_un (by omega)]; exact (H.2.2.2.1 e p' he hp')
    · rw [ya_sn q2]; exact (H.2.2.2.1 e p' he hp')
  · by_cases q2 : e = d
    · subst q2; rw [ya_ss, pk_un (by omega)]; exact (H.2.2.2.2.1 e p' he hp')
    · rw [ya_sn q2]; exact (H.2.2.2.2.1 e p' he hp')
  · by_cases q2 : e = d
    · subst q2; rw [ya_ss, pk_un (by omega)]; exact (H.2.2.2.2.2.1 e p' he hp')
    · rw [ya_sn q2]; exact (H.2.2.2.2.2.1 e p' he hp')
  · by_cases q2 : e = d
    · subst q2; rw [ya_ss, pk_un (by omega)]; exact (H.2.2.2.2.2.2.1 e p' w' he hp' hw')
    · rw [ya_sn q2]; exact (H.2.2.2.2.2.2.1 e p' w' he hp' hw')
  · by_cases q2 : e = d
    · subst q2; rw [ya_ss, pk_un (by omega)]; exact (H.2.2.2.2.2.2.2.1 e p' w' he hp' hw')
    · rw [ya_sn q2]; exact (H.2.2.2.2.2.2.2.1 e p' w' he hp' hw')
  · by_cases q : e = d ∧ p' = p ∧ w' = w
    · obtain ⟨rfl, rfl, rfl⟩ := q; rw [ya_ss, pk_us, pk_us]
    · rw [pk_un (by omega)]
      by_cases q2 : e = d
      · subst q2; rw [ya_ss, pk_un (by omega)]; exact (H.2.2.2.2.2.2.2.2 e p' w' he hp' hw')
      · rw [ya_sn q2]; exact (H.2.2.2.2.2.2.2.2 e p' w' he hp' hw')
theorem yu_cp {A : Nat → Nat → Int32} {y_many y_pages y_styles y_styleOf y_markOf y_words y_width y_note y_status : Nat → Int32} {d f t : Nat} (H : ya_A A y_many y_pages y_styles y_styleOf y_markOf y_words y_width y_note y_status) (hd : d < 2) (hf : f < 24) (ht : t < 24) : ya_A (ya_s A d (dc_cp (A d) f t)) y_many y_pages y_styles (upd y_styleOf (24 * d + t) (y_styleOf (24 * d + f))) (upd y_markOf (24 * d + t) (y_markOf (24 * d + f))) (upd y_words (24 * d + t) (y_words (24 * d + f))) (cp_b y_width (384 * d + 16 * f) (384 * d + 16 * t) 16) (cp_b y_note (384 * d + 16 * f) (384 * d + 16 * t) 16) (cp_b y_status (384 * d + 16 * f) (384 * d + 16 * t) 16) := by
  unfold dc_cp
  refine ⟨fun e he => ?_, fun e j' he hj' => ?_, fun e j' he hj' => ?_, fun e p' he hp' => ?_, fun e p' he hp' => ?_, fun e p' he hp' => ?_, fun e p' w' he hp' hw' => ?_, fun e p' w' he hp' hw' => ?_, fun e p' w' he hp' hw' => ?_⟩
  · by_cases q2 : e = d
    · subst q2; rw [ya_ss, cp_out (by omega)]; exact (H.1 e he )
    · rw [ya_sn q2]; exact (H.1 e he )
  · by_cases q2 : e = d
    · subst q2; rw [ya_ss, cp_out (by omega)]; exact (H.2.1 e j' he hj')
    · rw [ya_sn q2]; exact (H.2.1 e j' he hj')
  · by_cases q2 : e = d
    · subst q2; rw [ya_ss, cp_out (by omega)]; exact (H.2.2.1 e j' he hj')
    · rw [ya_sn q2]; exact (H.2.2.1 e j' he hj')
  · by_cases q2 : e = d
    · subst q2; rw [ya_ss]
      by_cases q : p' = t
      · subst q; rw [pk_us, cp_in (by omega) (by omega), ← (H.2.2.2.1 e f he hf)]; exact congrArg (A e) (by omega)
      · rw [pk_un (by omega), cp_out (by omega)]; exact (H.2.2.2.1 e p' he hp')
    · rw [ya_sn q2, pk_un (by omega)]; exact (H.2.2.2.1 e p' he hp')
  · by_cases q2 : e = d
    · subst q2; rw [ya_ss]
      by_cases q : p' = t
      · subst q; rw [pk_us, cp_in (by omega) (by omega), ← (H.2.2.2.2.1 e f he hf)]; exact congrArg (A e) (by omega)
      · rw [pk_un (by omega), cp_out (by omega)]; exact (H.2.2.2.2.1 e p' he hp')
    · rw [ya_sn q2, pk_un (by omega)]; exact (H.2.2.2.2.1 e p' he hp')
  · by_cases q2 : e = d
    · subst q2; rw [ya_ss]
      by_cases q : p' = t
      · subst q; rw [pk_us, cp_in (by omega) (by omega), ← (H.2.2.2.2.2.1 e f he hf)]; exact congrArg (A e) (by omega)
      · rw [pk_un (by omega), cp_out (by omega)]; exact (H.2.2.2.2.2.1 e p' he hp')
    · rw [ya_sn q2, pk_un (by omega)]; exact (H.2.2.2.2.2.1 e p' he hp')
  · by_cases q2 : e = d
    · subst q2; rw [ya_ss]
      by_cases q : p' = t
      · subst q; rw [cp_in (by omega) (by omega), cp_in (by omega) (by omega), show 384 * e + 16 * p' + w' + (384 * e + 16 * f) - (384 * e + 16 * p') = 384 * e + 16 * f + w' from by omega, ← (H.2.2.2.2.2.2.1 e f w' he hf hw')]; exact congrArg (A e) (by omega)
      · rw [cp_out (by omega), cp_out (by omega)]; exact (H.2.2.2.2.2.2.1 e p' w' he hp' hw')
    · rw [ya_sn q2, cp_out (by omega)]; exact (H.2.2.2.2.2.2.1 e p' w' he hp' hw')
  · by_cases q2 : e = d
    · subst q2; rw [ya_ss]
      by_cases q : p' = t
      · subst q; rw [cp_in (by omega) (by omega), cp_in (by omega) (by omega), show 384 * e + 16 * p' + w' + (384 * e + 16 * f) - (384 * e + 16 * p') = 384 * e + 16 * f + w' from by omega, ← (H.2.2.2.2.2.2.2.1 e f w' he hf hw')]; exact congrArg (A e) (by omega)
      · rw [cp_out (by omega), cp_out (by omega)]; exact (H.2.2.2.2.2.2.2.1 e p' w' he hp' hw')
    · rw [ya_sn q2, cp_out (by omega)]; exact (H.2.2.2.2.2.2.2.1 e p' w' he hp' hw')
  · by_cases q2 : e = d
    · subst q2; rw [ya_ss]
      by_cases q : p' = t
      · subst q; rw [cp_in (by omega) (by omega), cp_in (by omega) (by omega), show 384 * e + 16 * p' + w' + (384 * e + 16 * f) - (384 * e + 16 * p') = 384 * e + 16 * f + w' from by omega, ← (H.2.2.2.2.2.2.2.2 e f w' he hf hw')]; exact congrArg (A e) (by omega)
      · rw [cp_out (by omega), cp_out (by omega)]; exact (H.2.2.2.2.2.2.2.2 e p' w' he hp' hw')
    · rw [ya_sn q2, cp_out (by omega)]; exact (H.2.2.2.2.2.2.2.2 e p' w' he hp' hw')
theorem yu_tk {A : Nat → Nat → Int32} {y_many y_pages y_styles y_styleOf y_markOf y_words y_width y_note y_status : Nat → Int32} {d p w n : Nat} (H : ya_A A y_many y_pages y_styles y_styleOf y_markOf y_words y_width y_note y_status) (hd : d < 2) (hp : p < 24) (hn : n = dc_w (A d) p) (hw : w < n) (h16 : n ≤ 16) : ya_A (ya_s A d (dc_tk (A d) p w)) y_many y_pages y_styles y_styleOf y_markOf (upd y_words (24 * d + p) (nI (n - 1))) (cp_b y_width (384 * d + 16 * p + w + 1) (384 * d + 16 * p + w) (n - 1 - w)) (cp_b y_note (384 * d + 16 * p + w + 1) (384 * d + 16 * p + w) (n - 1 - w)) (cp_b y_status (384 * d + 16 * p + w + 1) (384 * d + 16 * p + w) (n - 1 - w)) := by
  unfold dc_tk
  rw [← hn]
  refine ⟨fun e he => ?_, fun e j' he hj' => ?_, fun e j' he hj' => ?_, fun e p' he hp' => ?_, fun e p' he hp' => ?_, fun e p' he hp' => ?_, fun e p' w' he hp' hw' => ?_, fun e p' w' he hp' hw' => ?_, fun e p' w' he hp' hw' => ?_⟩
  · by_cases q2 : e = d
    · subst q2; rw [ya_ss, pk_un (by omega), cp_out (by omega)]; exact (H.1 e he )
    · rw [ya_sn q2]; exact (H.1 e he )
  · by_cases q2 : e = d
    · subst q2; rw [ya_ss, pk_un (by omega), cp_out (by omega)]; exact (H.2.1 e j' he hj')
    · rw [ya_sn q2]; exact (H.2.1 e j' he hj')
  · by_cases q2 : e = d
    · subst q2; rw [ya_ss, pk_un (by omega), cp_out (by omega)]; exact (H.2.2.1 e j' he hj')
    · rw [ya_sn q2]; exact (H.2.2.1 e j' he hj')
  · by_cases q2 : e = d
    · subst q2; rw [ya_ss, pk_un (by omega), cp_out (by omega)]; exact (H.2.2.2.1 e p' he hp')
    · rw [ya_sn q2]; exact (H.2.2.2.1 e p' he hp')
  · by_cases q2 : e = d
    · subst q2; rw [ya_ss, pk_un (by omega), cp_out (by omega)]; exact (H.2.2.2.2.1 e p' he hp')
    · rw [ya_sn q2]; exact (H.2.2.2.2.1 e p' he hp')
  · by_cases q2 : e = d
    · subst q2; rw [ya_ss]
      by_cases q : p' = p
      · subst q; rw [pk_us, pk_us]
      · rw [pk_un (by omega), pk_un (by omega), cp_out (by omega)]; exact (H.2.2.2.2.2.1 e p' he hp')
    · rw [ya_sn q2, pk_un (by omega)]; exact (H.2.2.2.2.2.1 e p' he hp')
  · by_cases q2 : e = d
    · subst q2; rw [ya_ss, pk_un (by omega)]
      by_cases q : p' = p ∧ w ≤ w' ∧ w' < n - 1
      · obtain ⟨rfl, q3, q4⟩ := q; rw [cp_in (by omega) (by omega), cp_in (by omega) (by omega), show 384 * e + 16 * p' + w' + (384 * e + 16 * p' + w + 1) - (384 * e + 16 * p' + w) = 384 * e + 16 * p' + (w' + 1) from by omega, ← (H.2.2.2.2.2.2.1 e p' (w' + 1) he hp' (by omega))]; exact congrArg (A e) (by omega)
      · rw [cp_out (by omega), cp_out (by omega)]; exact (H.2.2.2.2.2.2.1 e p' w' he hp' hw')
    · rw [ya_sn q2, cp_out (by omega)]; exact (H.2.2.2.2.2.2.1 e p' w' he hp' hw')
  · by_cases q2 : e = d
    · subst q2; rw [ya_ss, pk_un (by omega)]
      by_cases q : p' = p ∧ w ≤ w' ∧ w' < n - 1
      · obtain ⟨rfl, q3, q4⟩ := q; rw [cp_in (by omega) (by omega), cp_in (by omega) (by omega), show 384 * e + 16 * p' + w' + (384 * e + 16 * p' + w + 1) - (384 * e + 16 * p' + w) = 384 * e + 16 * p' + (w' + 1) from by omega, ← (H.2.2.2.2.2.2.2.1 e p' (w' + 1) he hp' (by omega))]; exact congrArg (A e) (by omega)
      · rw [cp_out (by omega), cp_out (by omega)]; exact (H.2.2.2.2.2.2.2.1 e p' w' he hp' hw')
    · rw [ya_sn q2, cp_out (by omega)]; exact (H.2.2.2.2.2.2.2.1 e p' w' he hp' hw')
  · by_cases q2 : e = d
    · subst q2; rw [ya_ss, pk_un (by omega)]
      by_cases q : p' = p ∧ w ≤ w' ∧ w' < n - 1
      · obtain ⟨rfl, q3, q4⟩ := q; rw [cp_in (by omega) (by omega), cp_in (by omega) (by omega), show 384 * e + 16 * p' + w' + (384 * e + 16 * p' + w + 1) - (384 * e + 16 * p' + w) = 384 * e + 16 * p' + (w' + 1) from by omega, ← (H.2.2.2.2.2.2.2.2 e p' (w' + 1) he hp' (by omega))]; exact congrArg (A e) (by omega)
      · rw [cp_out (by omega), cp_out (by omega)]; exact (H.2.2.2.2.2.2.2.2 e p' w' he hp' hw')
    · rw [ya_sn q2, cp_out (by omega)]; exact (H.2.2.2.2.2.2.2.2 e p' w' he hp' hw')
end
section
variable {y_doc y_tracking y_view y_done y_steps y_lines y_columns y_rounds y_known : Int32} {y_many y_styleOf y_markOf y_words y_width y_note y_status y_styles y_pages y_stepKind y_stepA y_stepB y_stepC y_stepOn y_ofParagraph y_firstWord y_wordsOf y_slack y_begin y_needs y_notes y_columnOf y_topOf y_firstLine y_label y_labelWide y_counter y_refWide y_nextWide y_columnLine y_columnLines y_filled y_foot : Nat → Int32} {A : Nat → Nat → Int32} {d : Nat}
theorem yr_in {post : Int32 → Prop} {v l g : Int32} (h0 : ¬ (l ≤ v ∧ v ≤ g) → post 0) (h1 : l ≤ v → v ≤ g → post 1) : wpY_in post v l g :=
  ⟨fun z => h0 fun q => Int32.not_lt.mpr q.1 z, fun z => ⟨fun y => h0 fun q => Int32.not_lt.mpr q.2 y, fun y => h1 (Int32.not_lt.mp z) (Int32.not_lt.mp y)⟩⟩
theorem yr_isT {post : Int32 → Prop} {x : Int32} (hd : y_doc = nI d) (h2 : d < 2) (H : ya_A A y_many y_pages y_styles y_styleOf y_markOf y_words y_width y_note y_status) (hv : dc_V (A d))
    (h0 : ¬ (0 ≤ x ∧ x < A d 0) → post 0) (h1 : 0 ≤ x → x < A d 0 → post 1) : wpY_isThere post (y_doc, y_tracking, y_view, y_done, y_steps, y_lines, y_columns, y_rounds, y_known, y_many, y_styleOf, y_markOf, y_words, y_width, y_note, y_status, y_styles, y_pages, y_stepKind, y_stepA, y_stepB, y_stepC, y_stepOn, y_ofParagraph, y_firstWord, y_wordsOf, y_slack, y_begin, y_needs, y_notes, y_columnOf, y_topOf, y_firstLine, y_label, y_labelWide, y_counter, y_refWide, y_nextWide, y_columnLine, y_columnLines, y_filled, y_foot) x := by
  obtain ⟨e0, h24⟩ := dc_Vn hv
  have em := ya_many H h2
  refine ⟨ix_in hd h2 (by omega), ?_⟩
  rw [ix_c hd (by omega), ← em, e0]
  refine yr_in (fun z => ⟨rfl, h0 fun q => z ⟨q.1, ?_⟩⟩) (fun z1 z2 => ⟨rfl, h1 z1 ?_⟩)
  · rw [op_m1 (by omega) q.1, ← e0]; exact q.2
  · rw [op_m1 (by omega) z1, ← e0] at z2; exact z2
theorem ys_cw {post : SY → Prop} {x y : Int32} {f t : Nat} (hx : x = nI f) (hy : y = nI t) (hf : f < 768) (ht : t < 768)
    (h : post (y_doc, y_tracking, y_view, y_done, y_steps, y_lines, y_columns, y_rounds, y_known, y_many, y_styleOf, y_markOf, y_words, (upd y_width t (y_width f)), (upd y_note t (y_note f)), (upd y_status t (y_status f)), y_styles, y_pages, y_stepKind, y_stepA, y_stepB, y_stepC, y_stepOn, y_ofParagraph, y_firstWord, y_wordsOf, y_slack, y_begin, y_needs, y_notes, y_columnOf, y_topOf, y_firstLine, y_label, y_labelWide, y_counter, y_refWide, y_nextWide, y_columnLine, y_columnLines, y_filled, y_foot)) : wpY_copyWord post (y_doc, y_tracking, y_view, y_done, y_steps, y_lines, y_columns, y_rounds, y_known, y_many, y_styleOf, y_markOf, y_words, y_width, y_note, y_status, y_styles, y_pages, y_stepKind, y_stepA, y_stepB, y_stepC, y_stepOn, y_ofParagraph, y_firstWord, y_wordsOf, y_slack, y_begin, y_needs, y_notes, y_columnOf, y_topOf, y_firstLine, y_label, y_labelWide, y_counter, y_refWide, y_nextWide, y_columnLine, y_columnLines, y_filled, y_foot) x y := by
  have ix := ix_c hx (by omega)
  have iy := ix_c hy (by omega)
  have jx := ix_in hx hf (by omega)
  have jy := ix_in hy ht (by omega)
  exact ⟨jx, jy, nm_r (by rw [ix, iy]) ⟨jx, jy, nm_r (by rw [ix, iy]) ⟨jx, jy, nm_r (by rw [ix, iy]) h⟩⟩⟩
theorem ys_cpL {post : SY → Prop} {f t : Nat} (hd : y_doc = nI d) (h2 : d < 2) (hf : f < 24) (ht : t < 24) (hne : f ≠ t)
    (h : post (y_doc, y_tracking, y_view, y_done, y_steps, y_lines, y_columns, y_rounds, y_known, y_many, y_styleOf, y_markOf, y_words, (cp_b y_width (384 * d + 16 * f) (384 * d + 16 * t) 16), (cp_b y_note (384 * d + 16 * f) (384 * d + 16 * t) 16), (cp_b y_status (384 * d + 16 * f) (384 * d + 16 * t) 16), y_styles, y_pages, y_stepKind, y_stepA, y_stepB, y_stepC, y_stepOn, y_ofParagraph, y_firstWord, y_wordsOf, y_slack, y_begin, y_needs, y_notes, y_columnOf, y_topOf, y_firstLine, y_label, y_labelWide, y_counter, y_refWide, y_nextWide, y_columnLine, y_columnLines, y_filled, y_foot)) : ∀ n i, i + n = 16 →
    wY_copyParagraph_86 post (nI f) (nI t) (n + 1) (nI i) y_doc y_tracking y_view y_done y_steps y_lines y_columns y_rounds y_known y_many y_styleOf y_markOf y_words (cp_b y_width (384 * d + 16 * f) (384 * d + 16 * t) i) (cp_b y_note (384 * d + 16 * f) (384 * d + 16 * t) i) (cp_b y_status (384 * d + 16 * f) (384 * d + 16 * t) i) y_styles y_pages y_stepKind y_stepA y_stepB y_stepC y_stepOn y_ofParagraph y_firstWord y_wordsOf y_slack y_begin y_needs y_notes y_columnOf y_topOf y_firstLine y_label y_labelWide y_counter y_refWide y_nextWide y_columnLine y_columnLines y_filled y_foot
  | 0, i, hi => by
    obtain rfl : i = 16 := by omega
    exact br_t (nI_le (a := 16) (b := 16) (by omega) (by omega)) h
  | n + 1, i, hi => by
    refine br_f (nI_ge (b := 16) (by omega) (by omega)) (ys_cw (f := 384 * d + 16 * f + i) (t := 384 * d + 16 * t + i) (by rw [hd]; exact ad_yw _ _ _) (by rw [hd]; exact ad_yw _ _ _) (by omega) (by omega) (nm_r (nI_1 i) ?_))
    rw [cp_s (by omega), cp_s (by omega), cp_s (by omega)]
    exact ys_cpL hd h2 hf ht hne h n (i + 1) (by omega)
theorem ys_cp {post : SY → Prop} {x y : Int32} {f t : Nat} (hx : x = nI f) (hy : y = nI t) (hd : y_doc = nI d) (h2 : d < 2) (hf : f < 24) (ht : t < 24) (hne : f ≠ t) (H : ya_A A y_many y_pages y_styles y_styleOf y_markOf y_words y_width y_note y_status)
    (h : ∀ y_many1 y_pages1 y_styles1 y_styleOf1 y_markOf1 y_words1 y_width1 y_note1 y_status1, ya_A (ya_s A d (dc_cp (A d) f t)) y_many1 y_pages1 y_styles1 y_styleOf1 y_markOf1 y_words1 y_width1 y_note1 y_status1 → post (y_doc, y_tracking, y_view, y_done, y_steps, y_lines, y_columns, y_rounds, y_known, y_many1, y_styleOf1, y_markOf1, y_words1, y_width1, y_note1, y_status1, y_styles1, y_pages1, y_stepKind, y_stepA, y_stepB, y_stepC, y_stepOn, y_ofParagraph, y_firstWord, y_wordsOf, y_slack, y_begin, y_needs, y_notes, y_columnOf, y_topOf, y_firstLine, y_label, y_labelWide, y_counter, y_refWide, y_nextWide, y_columnLine, y_columnLines, y_filled, y_foot)) : wpY_copyParagraph post (y_doc, y_tracking, y_view, y_done, y_steps, y_lines, y_columns, y_rounds, y_known, y_many, y_styleOf, y_markOf, y_words, y_width, y_note, y_status, y_styles, y_pages, y_stepKind, y_stepA, y_stepB, y_stepC, y_stepOn, y_ofParagraph, y_firstWord, y_wordsOf, y_slack, y_begin, y_needs, y_notes, y_columnOf, y_topOf, y_firstLine, y_label, y_labelWide, y_counter, y_refWide, y_nextWide, y_columnLine, y_columnLines, y_filled, y_foot) x y := by
  subst hx hy
  have ef : (24 : Int32) * y_doc + nI f = nI (24 * d + f) := by rw [hd]; exact ad_yp _ _
  have et : (24 : Int32) * y_doc + nI t = nI (24 * d + t) := by rw [hd]; exact ad_yp _ _
  have ix := ix_c ef (by omega)
  have iy := ix_c et (by omega)
  have jx := ix_in (N := 48) ef (by omega) (by omega)
  have jy := ix_in (N := 48) et (by omega) (by omega)
  refine ⟨jx, jy, nm_r (by rw [ix, iy]) ⟨jx, jy, nm_r (by rw [ix, iy]) ⟨jx, jy, nm_r (by rw [ix, iy]) ⟨17, ?_⟩⟩⟩⟩
  have L := ys_cpL (post := post) (y_width := y_width) (y_note := y_note) (y_status := y_status) hd h2 hf ht hne (h _ _ _ _ _ _ _ _ _ (yu_cp H h2 hf ht)) 16 0 rfl
  rw [cp_0, cp_0, cp_0] at L
  exact L
/-- doInsert -/
theorem ys_insL {post : Int32 → SY → Prop} {p n : Nat} {s : Int32} (hd : y_doc = nI d) (h2 : d < 2) (hp : p ≤ n) (hn : n < 24) : ∀ (m : Nat) (A : Nat → Nat → Int32) (y_many y_pages y_styles y_styleOf y_markOf y_words y_width y_note y_status : Nat → Int32), p + m < 24 → A d 0 = nI n → ya_A A y_many y_pages y_styles y_styleOf y_markOf y_words y_width y_note y_status →
    (∀ y_many1 y_pages1 y_styles1 y_styleOf1 y_markOf1 y_words1 y_width1 y_note1 y_status1, ya_A (ya_s A d (upd (upd (upd (upd (dc_iL (A d) p m) (76 + 51 * p) s) (77 + 51 * p) (-1)) (78 + 51 * p) 0) 0 (nI n + 1))) y_many1 y_pages1 y_styles1 y_styleOf1 y_markOf1 y_words1 y_width1 y_note1 y_status1 → post (nI n + 1) (y_doc, y_tracking, y_view, y_done, y_steps, y_lines, y_columns, y_rounds, y_known, y_many1, y_styleOf1, y_markOf1, y_words1, y_width1, y_note1, y_status1, y_styles1, y_pages1, y_stepKind, y_stepA, y_stepB, y_stepC, y_stepOn, y_ofParagraph, y_firstWord, y_wordsOf, y_slack, y_begin, y_needs, y_notes, y_columnOf, y_topOf, y_firstLine, y_label, y_labelWide, y_counter, y_refWide, y_nextWide, y_columnLine, y_columnLines, y_filled, y_foot)) →
    wY_doInsert_55 post (nI p) s (m + 1) (nI (p + m)) y_doc y_tracking y_view y_done y_steps y_lines y_columns y_rounds y_known y_many y_styleOf y_markOf y_words y_width y_note y_status y_styles y_pages y_stepKind y_stepA y_stepB y_stepC y_stepOn y_ofParagraph y_firstWord y_wordsOf y_slack y_begin y_needs y_notes y_columnOf y_topOf y_firstLine y_label y_labelWide y_counter y_refWide y_nextWide y_columnLine y_columnLines y_filled y_foot
  | 0, A, y_many, y_pages, y_styles, y_styleOf, y_markOf, y_words, y_width, y_note, y_status, hm, h0, H, h => by
    have ep : (24 : Int32) * y_doc + nI p = nI (24 * d + p) := by rw [hd]; exact ad_yp _ _
    have ip := ix_c ep (by omega)
    have jp := ix_in (N := 48) ep (by omega) (by omega)
    have id := ix_c hd (by omega)
    have jd := ix_in (N := 2) hd h2 (by omega)
    have em := ya_many H h2
    have H1 := yu_styleOf (v := s) H h2 (p := p) (by omega)
    have H2 := yu_markOf (v := -1) H1 h2 (p := p) (by omega)
    rw [ya_s2, ya_ss] at H2
    have H3 := yu_words (v := 0) H2 h2 (p := p) (by omega)
    rw [ya_s2, ya_ss] at H3
    have H4 := yu_many (v := nI n + 1) H3 h2
    rw [ya_s2, ya_ss] at H4
    refine br_t (nI_le (by omega) (by omega)) ⟨jp, nm_r (by rw [ip]) ⟨jp, nm_r (by rw [ip]) ⟨jp, nm_r (by rw [ip]) ⟨jd, jd, nm_r (by rw [id, ← em, h0]) ⟨jd, ?_⟩⟩⟩⟩⟩
    rw [id, pk_us]
    exact h _ _ _ _ _ _ _ _ _ H4
  | m + 1, A, y_many, y_pages, y_styles, y_styleOf, y_markOf, y_words, y_width, y_note, y_status, hm, h0, H, h => by
    refine br_f (nI_ge (by omega) (by omega)) (ys_cp (f := p + m) (t := p + m + 1) (nI_pred _) rfl hd h2 (by omega) (by omega) (by omega) H ?_)
    intro y_many1 y_pages1 y_styles1 y_styleOf1 y_markOf1 y_words1 y_width1 y_note1 y_status1 H1
    refine nm_r (pk_m1 _) (ys_insL hd h2 hp hn m _ _ _ _ _ _ _ _ _ _ (by omega) ?_ H1 ?_)
    · rw [ya_ss, dc_cp0]; exact h0
    · rw [ya_ss, ya_s2]; exact h
end
section
variable {y_doc y_tracking y_view y_done y_steps y_lines y_columns y_rounds y_known : Int32} {y_many y_styleOf y_markOf y_words y_width y_note y_status y_styles y_pages y_stepKind y_stepA y_stepB y_stepC y_stepOn y_ofParagraph y_firstWord y_wordsOf y_slack y_begin y_needs y_notes y_columnOf y_topOf y_firstLine y_label y_labelWide y_counter y_refWide y_nextWide y_columnLine y_columnLines y_filled y_foot : Nat → Int32} {A : Nat → Nat → Int32} {d : Nat}
theorem yh_0 {r : Int32} {P : Int32 × (Nat → Int32)} (e : P = (r, A d)) (H : ya_A A y_many y_pages y_styles y_styleOf y_markOf y_words y_width y_note y_status) : ya_A (ya_s A d P.2) y_many y_pages y_styles y_styleOf y_markOf y_words y_width y_note y_status := by
  rw [e]; show ya_A (ya_s A d (A d)) y_many y_pages y_styles y_styleOf y_markOf y_words y_width y_note y_status; rw [ya_sI]; exact H
theorem yo_ins {post : Int32 → SY → Prop} {p s : Int32} (hd : y_doc = nI d) (h2 : d < 2) (H : ya_A A y_many y_pages y_styles y_styleOf y_markOf y_words y_width y_note y_status) (hv : dc_V (A d))
    (h : ∀ y_many1 y_pages1 y_styles1 y_styleOf1 y_markOf1 y_words1 y_width1 y_note1 y_status1, ya_A (ya_s A d (op_ins (A d) p s).2) y_many1 y_pages1 y_styles1 y_styleOf1 y_markOf1 y_words1 y_width1 y_note1 y_status1 → post (op_ins (A d) p s).1 (y_doc, y_tracking, y_view, y_done, y_steps, y_lines, y_columns, y_rounds, y_known, y_many1, y_styleOf1, y_markOf1, y_words1, y_width1, y_note1, y_status1, y_styles1, y_pages1, y_stepKind, y_stepA, y_stepB, y_stepC, y_stepOn, y_ofParagraph, y_firstWord, y_wordsOf, y_slack, y_begin, y_needs, y_notes, y_columnOf, y_topOf, y_firstLine, y_label, y_labelWide, y_counter, y_refWide, y_nextWide, y_columnLine, y_columnLines, y_filled, y_foot)) : wpY_doInsert post (y_doc, y_tracking, y_view, y_done, y_steps, y_lines, y_columns, y_rounds, y_known, y_many, y_styleOf, y_markOf, y_words, y_width, y_note, y_status, y_styles, y_pages, y_stepKind, y_stepA, y_stepB, y_stepC, y_stepOn, y_ofParagraph, y_firstWord, y_wordsOf, y_slack, y_begin, y_needs, y_notes, y_columnOf, y_topOf, y_firstLine, y_label, y_labelWide, y_counter, y_refWide, y_nextWide, y_columnLine, y_columnLines, y_filled, y_foot) p s := by
  obtain ⟨e0, h24⟩ := dc_Vn hv
  have em := ya_many H h2
  have id := ix_c hd (by omega)
  have jd := ix_in (N := 2) hd h2 (by omega)
  have no : ∀ r : Int32, op_ins (A d) p s = (r, A d) → post r (y_doc, y_tracking, y_view, y_done, y_steps, y_lines, y_columns, y_rounds, y_known, y_many, y_styleOf, y_markOf, y_words, y_width, y_note, y_status, y_styles, y_pages, y_stepKind, y_stepA, y_stepB, y_stepC, y_stepOn, y_ofParagraph, y_firstWord, y_wordsOf, y_slack, y_begin, y_needs, y_notes, y_columnOf, y_topOf, y_firstLine, y_label, y_labelWide, y_counter, y_refWide, y_nextWide, y_columnLine, y_columnLines, y_filled, y_foot) := fun r e => by
    have q := h _ _ _ _ _ _ _ _ _ (yh_0 e H); rw [e] at q; exact q
  refine ⟨jd, ?_⟩
  rw [id, ← em]
  refine yr_in (fun z => br_t rfl ?_) (fun z1 z2 => br_f (by decide) (yr_in (fun z => br_t rfl ?_) (fun z3 z4 => br_f (by decide) ⟨jd, br_c (fun z => ?_) (fun z => ⟨jd, ?_⟩)⟩)))
  · exact no _ (if_neg fun q => z q.1)
  · exact no _ (if_neg fun q => z q.2)
  · exact no (-2) ((if_pos ⟨⟨z1, z2⟩, ⟨z3, z4⟩⟩).trans (if_pos z))
  · obtain ⟨j, hj, rfl⟩ := op_ix2 z1 (e0 ▸ z2) (by omega)
    have hn : dc_n (A d) < 24 := by
      rcases Nat.lt_or_eq_of_le h24 with q | q
      · exact q
      · exact absurd (by rw [e0, q]; rfl) z
    have e : op_ins (A d) (nI j) s = _ := (if_pos ⟨⟨z1, z2⟩, ⟨z3, z4⟩⟩).trans (if_neg z)
    rw [nI_clamp (by omega), e0] at e
    refine nm_r (e' := nI (j + (dc_n (A d) - j))) (by rw [e0]; exact congrArg nI (by omega)) ⟨dc_n (A d) - j + 1, ?_⟩
    refine ys_insL (n := dc_n (A d)) hd h2 hj hn (dc_n (A d) - j) A _ _ _ _ _ _ _ _ _ (by omega) e0 H (fun a1 a2 a3 a4 a5 a6 a7 a8 a9 H1 => ?_)
    have q := h a1 a2 a3 a4 a5 a6 a7 a8 a9 (by rw [e]; exact H1); rw [e] at q; exact q
theorem ys_remL {post : Int32 → SY → Prop} {m : Nat} (hd : y_doc = nI d) (h2 : d < 2) (hm : m < 24) : ∀ (k q : Nat) (A : Nat → Nat → Int32) (y_many y_pages y_styles y_styleOf y_markOf y_words y_width y_note y_status : Nat → Int32), q + k = m → A d 0 = nI m → ya_A A y_many y_pages y_styles y_styleOf y_markOf y_words y_width y_note y_status →
    (∀ y_many1 y_pages1 y_styles1 y_styleOf1 y_markOf1 y_words1 y_width1 y_note1 y_status1, ya_A (ya_s A d (dc_rL (A d) q k)) y_many1 y_pages1 y_styles1 y_styleOf1 y_markOf1 y_words1 y_width1 y_note1 y_status1 → post (nI m) (y_doc, y_tracking, y_view, y_done, y_steps, y_lines, y_columns, y_rounds, y_known, y_many1, y_styleOf1, y_markOf1, y_words1, y_width1, y_note1, y_status1, y_styles1, y_pages1, y_stepKind, y_stepA, y_stepB, y_stepC, y_stepOn, y_ofParagraph, y_firstWord, y_wordsOf, y_slack, y_begin, y_needs, y_notes, y_columnOf, y_topOf, y_firstLine, y_label, y_labelWide, y_counter, y_refWide, y_nextWide, y_columnLine, y_columnLines, y_filled, y_foot)) → wY_doRemove_25 post (k + 1) (nI q) y_doc y_tracking y_view y_done y_steps y_lines y_columns y_rounds y_known y_many y_styleOf y_markOf y_words y_width y_note y_status y_styles y_pages y_stepKind y_stepA y_stepB y_stepC y_stepOn y_ofParagraph y_firstWord y_wordsOf y_slack y_begin y_needs y_notes y_columnOf y_topOf y_firstLine y_label y_labelWide y_counter y_refWide y_nextWide y_columnLine y_columnLines y_filled y_foot
  | 0, q, A, y_many, y_pages, y_styles, y_styleOf, y_markOf, y_words, y_width, y_note, y_status, hq, h0, H, h => by
    have em := ya_many H h2
    have id := ix_c hd (by omega)
    have jd := ix_in (N := 2) hd h2 (by omega)
    unfold wY_doRemove_25
    refine ⟨jd, ?_⟩
    rw [id, ← em, h0]
    exact br_t (nI_le (by omega) (by omega)) ⟨jd, h _ _ _ _ _ _ _ _ _ (by show ya_A (ya_s A d (A d)) y_many y_pages y_styles y_styleOf y_markOf y_words y_width y_note y_status; rw [ya_sI]; exact H)⟩
  | k + 1, q, A, y_many, y_pages, y_styles, y_styleOf, y_markOf, y_words, y_width, y_note, y_status, hq, h0, H, h => by
    have em := ya_many H h2
    have id := ix_c hd (by omega)
    have jd := ix_in (N := 2) hd h2 (by omega)
    refine ⟨jd, ?_⟩
    rw [id, ← em, h0]
    refine br_f (nI_ge (by omega) (by omega)) (ys_cp (f := q + 1) (t := q) (nI_1 _) rfl hd h2 (by omega) (by omega) (by omega) H ?_)
    intro y_many1 y_pages1 y_styles1 y_styleOf1 y_markOf1 y_words1 y_width1 y_note1 y_status1 H1
    refine nm_r (nI_1 _) (ys_remL hd h2 hm k (q + 1) _ _ _ _ _ _ _ _ _ _ (by omega) ?_ H1 ?_)
    · rw [ya_ss, dc_cp0]; exact h0
    · rw [ya_ss, ya_s2]; exact h
theorem yo_rem {post : Int32 → SY → Prop} {p : Int32} (hd : y_doc = nI d) (h2 : d < 2) (H : ya_A A y_many y_pages y_styles y_styleOf y_markOf y_words y_width y_note y_status) (hv : dc_V (A d))
    (h : ∀ y_many1 y_pages1 y_styles1 y_styleOf1 y_markOf1 y_words1 y_width1 y_note1 y_status1, ya_A (ya_s A d (op_rem (A d) p).2) y_many1 y_pages1 y_styles1 y_styleOf1 y_markOf1 y_words1 y_width1 y_note1 y_status1 → post (op_rem (A d) p).1 (y_doc, y_tracking, y_view, y_done, y_steps, y_lines, y_columns, y_rounds, y_known, y_many1, y_styleOf1, y_markOf1, y_words1, y_width1, y_note1, y_status1, y_styles1, y_pages1, y_stepKind, y_stepA, y_stepB, y_stepC, y_stepOn, y_ofParagraph, y_firstWord, y_wordsOf, y_slack, y_begin, y_needs, y_notes, y_columnOf, y_topOf, y_firstLine, y_label, y_labelWide, y_counter, y_refWide, y_nextWide, y_columnLine, y_columnLines, y_filled, y_foot)) : wpY_doRemove post (y_doc, y_tracking, y_view, y_done, y_steps, y_lines, y_columns, y_rounds, y_known, y_many, y_styleOf, y_markOf, y_words, y_width, y_note, y_status, y_styles, y_pages, y_stepKind, y_stepA, y_stepB, y_stepC, y_stepOn, y_ofParagraph, y_firstWord, y_wordsOf, y_slack, y_begin, y_needs, y_notes, y_columnOf, y_topOf, y_firstLine, y_label, y_labelWide, y_counter, y_refWide, y_nextWide, y_columnLine, y_columnLines, y_filled, y_foot) p := by
  obtain ⟨e0, h24⟩ := dc_Vn hv
  have em := ya_many H h2
  have id := ix_c hd (by omega)
  have jd := ix_in (N := 2) hd h2 (by omega)
  have no : ∀ r : Int32, op_rem (A d) p = (r, A d) → post r (y_doc, y_tracking, y_view, y_done, y_steps, y_lines, y_columns, y_rounds, y_known, y_many, y_styleOf, y_markOf, y_words, y_width, y_note, y_status, y_styles, y_pages, y_stepKind, y_stepA, y_stepB, y_stepC, y_stepOn, y_ofParagraph, y_firstWord, y_wordsOf, y_slack, y_begin, y_needs, y_notes, y_columnOf, y_topOf, y_firstLine, y_label, y_labelWide, y_counter, y_refWide, y_nextWide, y_columnLine, y_columnLines, y_filled, y_foot) := fun r e => by
    have q := h _ _ _ _ _ _ _ _ _ (yh_0 e H); rw [e] at q; exact q
  unfold wpY_doRemove
  refine yr_isT hd h2 H hv (fun z => br_t rfl (no _ (if_neg z))) (fun z1 z2 => br_f (by decide) ?_)
  obtain ⟨j, hj, rfl⟩ := op_ix z1 (e0 ▸ z2) (by omega)
  have e : op_rem (A d) (nI j) = _ := if_pos ⟨z1, z2⟩
  obtain ⟨m, hm⟩ : ∃ m, dc_n (A d) = m + 1 := ⟨dc_n (A d) - 1, by omega⟩
  have e1 : A d 0 - 1 = nI m := by rw [e0, hm, nI_pred]
  rw [nI_clamp (by omega), e1, hm, show m + 1 - 1 - j = m - j from by omega] at e
  refine ⟨jd, jd, nm_r (e' := upd y_many d (nI m)) (by rw [id, ← em, e1]) ⟨m - j + 1, ?_⟩⟩
  have H1 := yu_many (v := nI m) H h2
  refine ys_remL (m := m) hd h2 (by omega) (m - j) j _ _ _ _ _ _ _ _ _ _ (by omega) ?_ H1 ?_
  · rw [ya_ss, pk_us]
  · intro y_many1 y_pages1 y_styles1 y_styleOf1 y_markOf1 y_words1 y_width1 y_note1 y_status1 H2
    rw [ya_ss, ya_s2, dc_rLc] at H2
    have q := h _ _ _ _ _ _ _ _ _ (by rw [e]; exact H2); rw [e] at q; exact q
theorem yo_sty {post : Int32 → SY → Prop} {p s : Int32} (hd : y_doc = nI d) (h2 : d < 2) (H : ya_A A y_many y_pages y_styles y_styleOf y_markOf y_words y_width y_note y_status) (hv : dc_V (A d))
    (h : ∀ y_many1 y_pages1 y_styles1 y_styleOf1 y_markOf1 y_words1 y_width1 y_note1 y_status1, ya_A (ya_s A d (op_sty (A d) p s).2) y_many1 y_pages1 y_styles1 y_styleOf1 y_markOf1 y_words1 y_width1 y_note1 y_status1 → post (op_sty (A d) p s).1 (y_doc, y_tracking, y_view, y_done, y_steps, y_lines, y_columns, y_rounds, y_known, y_many1, y_styleOf1, y_markOf1, y_words1, y_width1, y_note1, y_status1, y_styles1, y_pages1, y_stepKind, y_stepA, y_stepB, y_stepC, y_stepOn, y_ofParagraph, y_firstWord, y_wordsOf, y_slack, y_begin, y_needs, y_notes, y_columnOf, y_topOf, y_firstLine, y_label, y_labelWide, y_counter, y_refWide, y_nextWide, y_columnLine, y_columnLines, y_filled, y_foot)) : wpY_doRestyle post (y_doc, y_tracking, y_view, y_done, y_steps, y_lines, y_columns, y_rounds, y_known, y_many, y_styleOf, y_markOf, y_words, y_width, y_note, y_status, y_styles, y_pages, y_stepKind, y_stepA, y_stepB, y_stepC, y_stepOn, y_ofParagraph, y_firstWord, y_wordsOf, y_slack, y_begin, y_needs, y_notes, y_columnOf, y_topOf, y_firstLine, y_label, y_labelWide, y_counter, y_refWide, y_nextWide, y_columnLine, y_columnLines, y_filled, y_foot) p s := by
  obtain ⟨e0, h24⟩ := dc_Vn hv
  have no : ∀ r : Int32, op_sty (A d) p s = (r, A d) → post r (y_doc, y_tracking, y_view, y_done, y_steps, y_lines, y_columns, y_rounds, y_known, y_many, y_styleOf, y_markOf, y_words, y_width, y_note, y_status, y_styles, y_pages, y_stepKind, y_stepA, y_stepB, y_stepC, y_stepOn, y_ofParagraph, y_firstWord, y_wordsOf, y_slack, y_begin, y_needs, y_notes, y_columnOf, y_topOf, y_firstLine, y_label, y_labelWide, y_counter, y_refWide, y_nextWide, y_columnLine, y_columnLines, y_filled, y_foot) := fun r e => by
    have q := h _ _ _ _ _ _ _ _ _ (yh_0 e H); rw [e] at q; exact q
  unfold wpY_doRestyle
  refine yr_isT hd h2 H hv (fun z => br_t rfl (no _ (if_neg fun q => z q.1))) (fun z1 z2 => br_f (by decide) (yr_in (fun z => br_t rfl (no _ (if_neg fun q => z q.2))) (fun z3 z4 => br_f (by decide) ?_)))
  obtain ⟨j, hj, rfl⟩ := op_ix z1 (e0 ▸ z2) (by omega)
  have e : op_sty (A d) (nI j) s = _ := if_pos ⟨⟨z1, z2⟩, ⟨z3, z4⟩⟩
  rw [nI_clamp (by omega)] at e
  have ep : (24 : Int32) * y_doc + nI j = nI (24 * d + j) := by rw [hd]; exact ad_yp _ _
  refine ⟨ix_in ep (by omega) (by omega), nm_r (by rw [ix_c ep (by omega)]) ?_⟩
  have q := h _ _ _ _ _ _ _ _ _ (by rw [e]; exact yu_styleOf (v := s) H h2 (p := j) (by omega)); rw [e] at q; exact q
theorem yo_mrk {post : Int32 → SY → Prop} {p s : Int32} (hd : y_doc = nI d) (h2 : d < 2) (H : ya_A A y_many y_pages y_styles y_styleOf y_markOf y_words y_width y_note y_status) (hv : dc_V (A d))
    (h : ∀ y_many1 y_pages1 y_styles1 y_styleOf1 y_markOf1 y_words1 y_width1 y_note1 y_status1, ya_A (ya_s A d (op_mrk (A d) p s).2) y_many1 y_pages1 y_styles1 y_styleOf1 y_markOf1 y_words1 y_width1 y_note1 y_status1 → post (op_mrk (A d) p s).1 (y_doc, y_tracking, y_view, y_done, y_steps, y_lines, y_columns, y_rounds, y_known, y_many1, y_styleOf1, y_markOf1, y_words1, y_width1, y_note1, y_status1, y_styles1, y_pages1, y_stepKind, y_stepA, y_stepB, y_stepC, y_stepOn, y_ofParagraph, y_firstWord, y_wordsOf, y_slack, y_begin, y_needs, y_notes, y_columnOf, y_topOf, y_firstLine, y_label, y_labelWide, y_counter, y_refWide, y_nextWide, y_columnLine, y_columnLines, y_filled, y_foot)) : wpY_doMark post (y_doc, y_tracking, y_view, y_done, y_steps, y_lines, y_columns, y_rounds, y_known, y_many, y_styleOf, y_markOf, y_words, y_width, y_note, y_status, y_styles, y_pages, y_stepKind, y_stepA, y_stepB, y_stepC, y_stepOn, y_ofParagraph, y_firstWord, y_wordsOf, y_slack, y_begin, y_needs, y_notes, y_columnOf, y_topOf, y_firstLine, y_label, y_labelWide, y_counter, y_refWide, y_nextWide, y_columnLine, y_columnLines, y_filled, y_foot) p s := by
  obtain ⟨e0, h24⟩ := dc_Vn hv
  have no : ∀ r : Int32, op_mrk (A d) p s = (r, A d) → post r (y_doc, y_tracking, y_view, y_done, y_steps, y_lines, y_columns, y_rounds, y_known, y_many, y_styleOf, y_markOf, y_words, y_width, y_note, y_status, y_styles, y_pages, y_stepKind, y_stepA, y_stepB, y_stepC, y_stepOn, y_ofParagraph, y_firstWord, y_wordsOf, y_slack, y_begin, y_needs, y_notes, y_columnOf, y_topOf, y_firstLine, y_label, y_labelWide, y_counter, y_refWide, y_nextWide, y_columnLine, y_columnLines, y_filled, y_foot) := fun r e => by
    have q := h _ _ _ _ _ _ _ _ _ (yh_0 e H); rw [e] at q; exact q
  unfold wpY_doMark
  refine yr_isT hd h2 H hv (fun z => br_t rfl (no _ (if_neg fun q => z q.1))) (fun z1 z2 => br_f (by decide) (yr_in (fun z => br_t rfl (no _ (if_neg fun q => z q.2))) (fun z3 z4 => br_f (by decide) ?_)))
  obtain ⟨j, hj, rfl⟩ := op_ix z1 (e0 ▸ z2) (by omega)
  have e : op_mrk (A d) (nI j) s = _ := if_pos ⟨⟨z1, z2⟩, ⟨z3, z4⟩⟩
  rw [nI_clamp (by omega)] at e
  have ep : (24 : Int32) * y_doc + nI j = nI (24 * d + j) := by rw [hd]; exact ad_yp _ _
  refine ⟨ix_in ep (by omega) (by omega), nm_r (by rw [ix_c ep (by omega)]) ?_⟩
  have q := h _ _ _ _ _ _ _ _ _ (by rw [e]; exact yu_markOf (v := s) H h2 (p := j) (by omega)); rw [e] at q; exact q
theorem yo_pag {post : Int32 → SY → Prop} {p s c : Int32} (hd : y_doc = nI d) (h2 : d < 2) (H : ya_A A y_many y_pages y_styles y_styleOf y_markOf y_words y_width y_note y_status)
    (h : ∀ y_many1 y_pages1 y_styles1 y_styleOf1 y_markOf1 y_words1 y_width1 y_note1 y_status1, ya_A (ya_s A d (op_pag (A d) p s c).2) y_many1 y_pages1 y_styles1 y_styleOf1 y_markOf1 y_words1 y_width1 y_note1 y_status1 → post (op_pag (A d) p s c).1 (y_doc, y_tracking, y_view, y_done, y_steps, y_lines, y_columns, y_rounds, y_known, y_many1, y_styleOf1, y_markOf1, y_words1, y_width1, y_note1, y_status1, y_styles1, y_pages1, y_stepKind, y_stepA, y_stepB, y_stepC, y_stepOn, y_ofParagraph, y_firstWord, y_wordsOf, y_slack, y_begin, y_needs, y_notes, y_columnOf, y_topOf, y_firstLine, y_label, y_labelWide, y_counter, y_refWide, y_nextWide, y_columnLine, y_columnLines, y_filled, y_foot)) : wpY_doPage post (y_doc, y_tracking, y_view, y_done, y_steps, y_lines, y_columns, y_rounds, y_known, y_many, y_styleOf, y_markOf, y_words, y_width, y_note, y_status, y_styles, y_pages, y_stepKind, y_stepA, y_stepB, y_stepC, y_stepOn, y_ofParagraph, y_firstWord, y_wordsOf, y_slack, y_begin, y_needs, y_notes, y_columnOf, y_topOf, y_firstLine, y_label, y_labelWide, y_counter, y_refWide, y_nextWide, y_columnLine, y_columnLines, y_filled, y_foot) p s c := by
  have no : ∀ r : Int32, op_pag (A d) p s c = (r, A d) → post r (y_doc, y_tracking, y_view, y_done, y_steps, y_lines, y_columns, y_rounds, y_known, y_many, y_styleOf, y_markOf, y_words, y_width, y_note, y_status, y_styles, y_pages, y_stepKind, y_stepA, y_stepB, y_stepC, y_stepOn, y_ofParagraph, y_firstWord, y_wordsOf, y_slack, y_begin, y_needs, y_notes, y_columnOf, y_topOf, y_firstLine, y_label, y_labelWide, y_counter, y_refWide, y_nextWide, y_columnLine, y_columnLines, y_filled, y_foot) := fun r e => by
    have q := h _ _ _ _ _ _ _ _ _ (yh_0 e H); rw [e] at q; exact q
  unfold wpY_doPage
  refine yr_in (fun z => br_t rfl (no _ (if_neg fun q => z q.1))) (fun z1 z2 => br_f (by decide) (yr_in (fun z => br_t rfl (no _ (if_neg fun q => z q.2.1))) (fun z3 z4 => br_f (by decide) (yr_in (fun z => br_t rfl (no _ (if_neg fun q => z q.2.2))) (fun z5 z6 => br_f (by decide) ?_)))))
  have e : op_pag (A d) p s c = _ := if_pos ⟨⟨z1, z2⟩, ⟨z3, z4⟩, ⟨z5, z6⟩⟩
  have e0 : (3 : Int32) * y_doc = nI (3 * d + 0) := by rw [hd]; exact pk_mul 3 d
  have e1 : (3 : Int32) * y_doc + 1 = nI (3 * d + 1) := by rw [e0]; exact nI_1 _
  have e2 : (3 : Int32) * y_doc + 2 = nI (3 * d + 2) := by rw [e0]; exact ad_2 _
  have H1 := yu_pages (v := p) H h2 (j := 0) (by omega)
  have H2 := yu_pages (v := s) H1 h2 (j := 1) (by omega)
  rw [ya_s2, ya_ss] at H2
  have H3 := yu_pages (v := c) H2 h2 (j := 2) (by omega)
  rw [ya_s2, ya_ss] at H3
  refine ⟨ix_in e0 (by omega) (by omega), nm_r (by rw [ix_c e0 (by omega)]) ⟨ix_in e1 (by omega) (by omega), nm_r (by rw [ix_c e1 (by omega)]) ⟨ix_in e2 (by omega) (by omega), nm_r (by rw [ix_c e2 (by omega)]) ?_⟩⟩⟩
  have q := h _ _ _ _ _ _ _ _ _ (by rw [e]; exact H3); rw [e] at q; exact q
theorem yr_lo {post : Int32 → Prop} {j : Nat} (hj : j < 12) (h : post (op_lo j)) : wpY_leastOf post (nI j) := by
  refine pk_eq j 2 (fun z => ?_) (fun z => pk_eq j 5 (fun y => ?_) (fun y => ?_))
  · subst z; exact h
  · subst y; exact h
  · unfold op_lo at h; rw [if_neg z, if_neg y] at h; exact h
theorem yr_hi {post : Int32 → Prop} {j : Nat} (hj : j < 12) (h : post (op_hi j)) : wpY_mostOf post (nI j) := by
  unfold op_hi at h
  refine pk_le 3 j (fun z => pk_le 5 j (fun y => pk_eq j 5 (fun w => ?_) (fun w => pk_le 8 j (fun x => ?_) (fun x => ?_))) (fun y => ?_)) (fun z => ?_)
  · rw [if_neg (by omega), if_neg (by omega), if_pos w] at h; exact h
  · rw [if_neg (by omega), if_neg (by omega), if_neg w, if_neg (by omega)] at h; exact h
  · rw [if_neg (by omega), if_neg (by omega), if_neg w, if_pos (by omega)] at h; exact h
  · rw [if_neg (by omega), if_pos (by omega)] at h; exact h
  · rw [if_pos (by omega)] at h; exact h
theorem yo_stl {post : Int32 → SY → Prop} {p t v : Int32} (hd : y_doc = nI d) (h2 : d < 2) (H : ya_A A y_many y_pages y_styles y_styleOf y_markOf y_words y_width y_note y_status)
    (h : ∀ y_many1 y_pages1 y_styles1 y_styleOf1 y_markOf1 y_words1 y_width1 y_note1 y_status1, ya_A (ya_s A d (op_stl (A d) p t v).2) y_many1 y_pages1 y_styles1 y_styleOf1 y_markOf1 y_words1 y_width1 y_note1 y_status1 → post (op_stl (A d) p t v).1 (y_doc, y_tracking, y_view, y_done, y_steps, y_lines, y_columns, y_rounds, y_known, y_many1, y_styleOf1, y_markOf1, y_words1, y_width1, y_note1, y_status1, y_styles1, y_pages1, y_stepKind, y_stepA, y_stepB, y_stepC, y_stepOn, y_ofParagraph, y_firstWord, y_wordsOf, y_slack, y_begin, y_needs, y_notes, y_columnOf, y_topOf, y_firstLine, y_label, y_labelWide, y_counter, y_refWide, y_nextWide, y_columnLine, y_columnLines, y_filled, y_foot)) : wpY_doStyle post (y_doc, y_tracking, y_view, y_done, y_steps, y_lines, y_columns, y_rounds, y_known, y_many, y_styleOf, y_markOf, y_words, y_width, y_note, y_status, y_styles, y_pages, y_stepKind, y_stepA, y_stepB, y_stepC, y_stepOn, y_ofParagraph, y_firstWord, y_wordsOf, y_slack, y_begin, y_needs, y_notes, y_columnOf, y_topOf, y_firstLine, y_label, y_labelWide, y_counter, y_refWide, y_nextWide, y_columnLine, y_columnLines, y_filled, y_foot) p t v := by
  have no : ∀ r : Int32, op_stl (A d) p t v = (r, A d) → post r (y_doc, y_tracking, y_view, y_done, y_steps, y_lines, y_columns, y_rounds, y_known, y_many, y_styleOf, y_markOf, y_words, y_width, y_note, y_status, y_styles, y_pages, y_stepKind, y_stepA, y_stepB, y_stepC, y_stepOn, y_ofParagraph, y_firstWord, y_wordsOf, y_slack, y_begin, y_needs, y_notes, y_columnOf, y_topOf, y_firstLine, y_label, y_labelWide, y_counter, y_refWide, y_nextWide, y_columnLine, y_columnLines, y_filled, y_foot) := fun r e => by
    have q := h _ _ _ _ _ _ _ _ _ (yh_0 e H); rw [e] at q; exact q
  unfold wpY_doStyle
  refine yr_in (fun z => br_t rfl (no _ (if_neg fun q => z q.1))) (fun z1 z2 => br_f (by decide) (yr_in (fun z => br_t rfl (no _ (if_neg fun q => z q.2.1))) (fun z3 z4 => br_f (by decide) ?_)))
  obtain ⟨j, hj, rfl⟩ := op_ix2 (n := 5) z1 z2 (by omega)
  obtain ⟨k, hk, rfl⟩ := op_ix2 (n := 11) z3 z4 (by omega)
  refine yr_lo (by omega) (yr_hi (by omega) (yr_in (fun z => br_t rfl ?_) (fun z5 z6 => br_f (by decide) ?_)))
  · exact no _ (if_neg fun q => z (by have q2 := q.2.2; rw [nI_clamp (by omega)] at q2; exact q2))
  · have e : op_stl (A d) (nI j) (nI k) v = _ := if_pos ⟨⟨z1, z2⟩, ⟨z3, z4⟩, by rw [nI_clamp (by omega)]; exact ⟨z5, z6⟩⟩
    rw [nI_clamp (by omega), nI_clamp (by omega)] at e
    have ea : (72 : Int32) * y_doc + 12 * nI j + nI k = nI (72 * d + (12 * j + k)) := by rw [hd]; exact (ad_ys _ _ _).trans (congrArg nI (by omega))
    have H1 := yu_styles (v := v) H h2 (j := 12 * j + k) (by omega)
    rw [show 4 + (12 * j + k) = 4 + 12 * j + k from by omega] at H1
    refine ⟨ix_in ea (by omega) (by omega), nm_r (by rw [ix_c ea (by omega)]) ?_⟩
    have q := h _ _ _ _ _ _ _ _ _ (by rw [e]; exact H1); rw [e] at q; exact q
end
section
variable {y_doc y_tracking y_view y_done y_steps y_lines y_columns y_rounds y_known : Int32} {y_many y_styleOf y_markOf y_words y_width y_note y_status y_styles y_pages y_stepKind y_stepA y_stepB y_stepC y_stepOn y_ofParagraph y_firstWord y_wordsOf y_slack y_begin y_needs y_notes y_columnOf y_topOf y_firstLine y_label y_labelWide y_counter y_refWide y_nextWide y_columnLine y_columnLines y_filled y_foot : Nat → Int32} {A : Nat → Nat → Int32} {d : Nat}
theorem ys_add101 {post : Int32 → SY → Prop} {p n : Nat} {z0 z1 x5 : Int32} (hd : y_doc = nI d) (h2 : d < 2) (hp : p < 24) (hn : n < 16) (hz : z1 = nI (384 * d + 16 * p + n)) (H : ya_A A y_many y_pages y_styles y_styleOf y_markOf y_words y_width y_note y_status)
    (h : ∀ y_many1 y_pages1 y_styles1 y_styleOf1 y_markOf1 y_words1 y_width1 y_note1 y_status1, ya_A (ya_s A d (upd (upd (A d) (81 + 51 * p + 3 * n) z0) (78 + 51 * p) (x5 + 1))) y_many1 y_pages1 y_styles1 y_styleOf1 y_markOf1 y_words1 y_width1 y_note1 y_status1 → post (x5 + 1) (y_doc, y_tracking, y_view, y_done, y_steps, y_lines, y_columns, y_rounds, y_known, y_many1, y_styleOf1, y_markOf1, y_words1, y_width1, y_note1, y_status1, y_styles1, y_pages1, y_stepKind, y_stepA, y_stepB, y_stepC, y_stepOn, y_ofParagraph, y_firstWord, y_wordsOf, y_slack, y_begin, y_needs, y_notes, y_columnOf, y_topOf, y_firstLine, y_label, y_labelWide, y_counter, y_refWide, y_nextWide, y_columnLine, y_columnLines, y_filled, y_foot)) : wY_doAdd_101 post (nI p) x5 z0 z1 y_doc y_tracking y_view y_done y_steps y_lines y_columns y_rounds y_known y_many y_styleOf y_markOf y_words y_width y_note y_status y_styles y_pages y_stepKind y_stepA y_stepB y_stepC y_stepOn y_ofParagraph y_firstWord y_wordsOf y_slack y_begin y_needs y_notes y_columnOf y_topOf y_firstLine y_label y_labelWide y_counter y_refWide y_nextWide y_columnLine y_columnLines y_filled y_foot := by
  have ep : (24 : Int32) * y_doc + nI p = nI (24 * d + p) := by rw [hd]; exact ad_yp _ _
  have H1 := yu_status (v := z0) H h2 (p := p) (w := n) hp hn
  have H2 := yu_words (v := x5 + 1) H1 h2 (p := p) hp
  rw [ya_s2, ya_ss] at H2
  exact ⟨ix_in hz (by omega) (by omega), nm_r (by rw [ix_c hz (by omega)]) ⟨ix_in ep (by omega) (by omega), nm_r (by rw [ix_c ep (by omega)]) (h _ _ _ _ _ _ _ _ _ H2)⟩⟩
theorem yo_add {post : Int32 → SY → Prop} {p wi no on : Int32} (hd : y_doc = nI d) (h2 : d < 2) (H : ya_A A y_many y_pages y_styles y_styleOf y_markOf y_words y_width y_note y_status) (hv : dc_V (A d))
    (h : ∀ y_many1 y_pages1 y_styles1 y_styleOf1 y_markOf1 y_words1 y_width1 y_note1 y_status1, ya_A (ya_s A d (op_add (A d) p wi no on).2) y_many1 y_pages1 y_styles1 y_styleOf1 y_markOf1 y_words1 y_width1 y_note1 y_status1 → post (op_add (A d) p wi no on).1 (y_doc, y_tracking, y_view, y_done, y_steps, y_lines, y_columns, y_rounds, y_known, y_many1, y_styleOf1, y_markOf1, y_words1, y_width1, y_note1, y_status1, y_styles1, y_pages1, y_stepKind, y_stepA, y_stepB, y_stepC, y_stepOn, y_ofParagraph, y_firstWord, y_wordsOf, y_slack, y_begin, y_needs, y_notes, y_columnOf, y_topOf, y_firstLine, y_label, y_labelWide, y_counter, y_refWide, y_nextWide, y_columnLine, y_columnLines, y_filled, y_foot)) : wpY_doAdd post (y_doc, y_tracking, y_view, y_done, y_steps, y_lines, y_columns, y_rounds, y_known, y_many, y_styleOf, y_markOf, y_words, y_width, y_note, y_status, y_styles, y_pages, y_stepKind, y_stepA, y_stepB, y_stepC, y_stepOn, y_ofParagraph, y_firstWord, y_wordsOf, y_slack, y_begin, y_needs, y_notes, y_columnOf, y_topOf, y_firstLine, y_label, y_labelWide, y_counter, y_refWide, y_nextWide, y_columnLine, y_columnLines, y_filled, y_foot) p wi no on := by
  obtain ⟨e0, h24⟩ := dc_Vn hv
  have nop : ∀ r : Int32, op_add (A d) p wi no on = (r, A d) → post r (y_doc, y_tracking, y_view, y_done, y_steps, y_lines, y_columns, y_rounds, y_known, y_many, y_styleOf, y_markOf, y_words, y_width, y_note, y_status, y_styles, y_pages, y_stepKind, y_stepA, y_stepB, y_stepC, y_stepOn, y_ofParagraph, y_firstWord, y_wordsOf, y_slack, y_begin, y_needs, y_notes, y_columnOf, y_topOf, y_firstLine, y_label, y_labelWide, y_counter, y_refWide, y_nextWide, y_columnLine, y_columnLines, y_filled, y_foot) := fun r e => by
    have q := h _ _ _ _ _ _ _ _ _ (yh_0 e H); rw [e] at q; exact q
  unfold wpY_doAdd
  refine yr_isT hd h2 H hv (fun z => br_t rfl (nop _ (if_neg fun q => z q.1))) (fun z1 z2 => br_f (by decide) (br_c (fun z => nop _ (if_neg fun q => q.2.1.1 z)) (fun zw => yr_in (fun z => br_t rfl (nop _ (if_neg fun q => z q.2.1.2))) (fun z3 z4 => br_f (by decide) (yr_in (fun z => br_t rfl (nop _ (if_neg fun q => z q.2.2))) (fun z5 z6 => br_f (by decide) ?_))))))
  obtain ⟨j, hj, rfl⟩ := op_ix z1 (e0 ▸ z2) (by omega)
  obtain ⟨ew, h16⟩ := dc_Vw hv (p := j) (by omega)
  have ec := nI_clamp (n := j) (by omega)
  have ep : (24 : Int32) * y_doc + nI j = nI (24 * d + j) := by rw [hd]; exact ad_yp _ _
  have eww := ya_words H h2 (p := j) (by omega)
  refine ⟨ix_in ep (by omega) (by omega), nm_r (e' := nI (dc_w (A d) j)) (by rw [ix_c ep (by omega), ← eww, ew]) (br_c (fun z => ?_) (fun z => ?_))⟩
  · exact nop (-2) ((if_pos ⟨⟨z1, z2⟩, ⟨zw, z3, z4⟩, ⟨z5, z6⟩⟩).trans (if_pos (by rw [ec, ew]; exact z)))
  · have hn : dc_w (A d) j < 16 := by
      rcases Nat.lt_or_eq_of_le h16 with q | q
      · exact q
      · exact absurd (by rw [q]; rfl) z
    have e : op_add (A d) (nI j) wi no on = _ := (if_pos ⟨⟨z1, z2⟩, ⟨zw, z3, z4⟩, ⟨z5, z6⟩⟩).trans (if_neg (by rw [ec, ew]; exact z))
    rw [ec, ew] at e
    have ea : (384 : Int32) * y_doc + 16 * nI j + nI (dc_w (A d) j) = nI (384 * d + 16 * j + dc_w (A d) j) := by rw [hd]; exact ad_yw _ _ _
    have H1 := yu_width (v := wi) H h2 (p := j) (w := dc_w (A d) j) (by omega) hn
    have H2 := yu_note (v := no) H1 h2 (p := j) (w := dc_w (A d) j) (by omega) hn
    rw [ya_s2, ya_ss] at H2
    have go : ∀ z0 : Int32, z0 = (if on = 0 then 0 else 1) → wY_doAdd_101 post (nI j) (nI (dc_w (A d) j)) z0 ((384 : Int32) * y_doc + 16 * nI j + nI (dc_w (A d) j)) y_doc y_tracking y_view y_done y_steps y_lines y_columns y_rounds y_known y_many y_styleOf y_markOf y_words (upd y_width (384 * d + 16 * j + dc_w (A d) j) wi) (upd y_note (384 * d + 16 * j + dc_w (A d) j) no) y_status y_styles y_pages y_stepKind y_stepA y_stepB y_stepC y_stepOn y_ofParagraph y_firstWord y_wordsOf y_slack y_begin y_needs y_notes y_columnOf y_topOf y_firstLine y_label y_labelWide y_counter y_refWide y_nextWide y_columnLine y_columnLines y_filled y_foot := fun z0 hz => by
      refine ys_add101 (n := dc_w (A d) j) hd h2 (by omega) hn ea H2 ?_
      rw [ya_s2, ya_ss]
      intro y_many1 y_pages1 y_styles1 y_styleOf1 y_markOf1 y_words1 y_width1 y_note1 y_status1 H3
      subst hz
      have q := h _ _ _ _ _ _ _ _ _ (by rw [e]; exact H3); rw [e] at q; exact q
    exact ⟨ix_in ea (by omega) (by omega), nm_r (by rw [ix_c ea (by omega)]) ⟨ix_in ea (by omega) (by omega), nm_r (by rw [ix_c ea (by omega)]) (br_c (fun zt => go 0 (if_pos zt).symm) (fun zt => go 1 (if_neg zt).symm))⟩⟩
/-- take -/
theorem ys_tkL {post : SY → Prop} {p w n : Nat} {x3 : Int32} (hd : y_doc = nI d) (h2 : d < 2) (hp : p < 24) (h3 : x3 = nI (24 * d + p)) (hw : w < n) (hn : n ≤ 16) (hy : y_words (24 * d + p) = nI (n - 1))
    (h : post (y_doc, y_tracking, y_view, y_done, y_steps, y_lines, y_columns, y_rounds, y_known, y_many, y_styleOf, y_markOf, y_words, (cp_b y_width (384 * d + 16 * p + w + 1) (384 * d + 16 * p + w) (n - 1 - w)), (cp_b y_note (384 * d + 16 * p + w + 1) (384 * d + 16 * p + w) (n - 1 - w)), (cp_b y_status (384 * d + 16 * p + w + 1) (384 * d + 16 * p + w) (n - 1 - w)), y_styles, y_pages, y_stepKind, y_stepA, y_stepB, y_stepC, y_stepOn, y_ofParagraph, y_firstWord, y_wordsOf, y_slack, y_begin, y_needs, y_notes, y_columnOf, y_topOf, y_firstLine, y_label, y_labelWide, y_counter, y_refWide, y_nextWide, y_columnLine, y_columnLines, y_filled, y_foot)) : ∀ m i, i + m = n - 1 - w →
    wY_take_19 post (nI p) x3 (m + 1) (nI (w + i)) y_doc y_tracking y_view y_done y_steps y_lines y_columns y_rounds y_known y_many y_styleOf y_markOf y_words (cp_b y_width (384 * d + 16 * p + w + 1) (384 * d + 16 * p + w) i) (cp_b y_note (384 * d + 16 * p + w + 1) (384 * d + 16 * p + w) i) (cp_b y_status (384 * d + 16 * p + w + 1) (384 * d + 16 * p + w) i) y_styles y_pages y_stepKind y_stepA y_stepB y_stepC y_stepOn y_ofParagraph y_firstWord y_wordsOf y_slack y_begin y_needs y_notes y_columnOf y_topOf y_firstLine y_label y_labelWide y_counter y_refWide y_nextWide y_columnLine y_columnLines y_filled y_foot
  | 0, i, hi => by
    obtain rfl : i = n - 1 - w := by omega
    refine ⟨ix_in h3 (by omega) (by omega), ?_⟩
    rw [ix_c h3 (by omega), hy]
    exact br_t (nI_le (by omega) (by omega)) h
  | m + 1, i, hi => by
    refine ⟨ix_in h3 (by omega) (by omega), ?_⟩
    rw [ix_c h3 (by omega), hy]
    have e1 : (384 : Int32) * y_doc + 16 * nI p + nI (w + i) = nI (384 * d + 16 * p + w + i) := by rw [hd]; exact (ad_yw _ _ _).trans (congrArg nI (by omega))
    refine br_f (nI_ge (by omega) (by omega)) (ys_cw (f := 384 * d + 16 * p + w + 1 + i) (t := 384 * d + 16 * p + w + i) (by rw [e1, nI_1]; exact congrArg nI (by omega)) e1 (by omega) (by omega) (nm_r (nI_1 _) ?_))
    rw [cp_s (by omega), cp_s (by omega), cp_s (by omega)]
    exact ys_tkL hd h2 hp h3 hw hn hy h m (i + 1) (by omega)
theorem ys_tk {post : SY → Prop} {x y : Int32} {p w : Nat} (hx : x = nI p) (hy : y = nI w) (hd : y_doc = nI d) (h2 : d < 2) (H : ya_A A y_many y_pages y_styles y_styleOf y_markOf y_words y_width y_note y_status) (hv : dc_V (A d)) (hp : p < 24) (hw : w < dc_w (A d) p)
    (h : ∀ y_many1 y_pages1 y_styles1 y_styleOf1 y_markOf1 y_words1 y_width1 y_note1 y_status1, ya_A (ya_s A d (dc_tk (A d) p w)) y_many1 y_pages1 y_styles1 y_styleOf1 y_markOf1 y_words1 y_width1 y_note1 y_status1 → post (y_doc, y_tracking, y_view, y_done, y_steps, y_lines, y_columns, y_rounds, y_known, y_many1, y_styleOf1, y_markOf1, y_words1, y_width1, y_note1, y_status1, y_styles1, y_pages1, y_stepKind, y_stepA, y_stepB, y_stepC, y_stepOn, y_ofParagraph, y_firstWord, y_wordsOf, y_slack, y_begin, y_needs, y_notes, y_columnOf, y_topOf, y_firstLine, y_label, y_labelWide, y_counter, y_refWide, y_nextWide, y_columnLine, y_columnLines, y_filled, y_foot)) : wpY_take post (y_doc, y_tracking, y_view, y_done, y_steps, y_lines, y_columns, y_rounds, y_known, y_many, y_styleOf, y_markOf, y_words, y_width, y_note, y_status, y_styles, y_pages, y_stepKind, y_stepA, y_stepB, y_stepC, y_stepOn, y_ofParagraph, y_firstWord, y_wordsOf, y_slack, y_begin, y_needs, y_notes, y_columnOf, y_topOf, y_firstLine, y_label, y_labelWide, y_counter, y_refWide, y_nextWide, y_columnLine, y_columnLines, y_filled, y_foot) x y := by
  subst hx hy
  obtain ⟨ew, h16⟩ := dc_Vw hv hp
  have ep : (24 : Int32) * y_doc + nI p = nI (24 * d + p) := by rw [hd]; exact ad_yp _ _
  have jp := ix_in (N := 48) ep (by omega) (by omega)
  have eww := ya_words H h2 hp
  have en : y_words (24 * d + p) - 1 = nI (dc_w (A d) p - 1) := by
    rw [← eww, ew]
    obtain ⟨k, hk⟩ : ∃ k, dc_w (A d) p = k + 1 := ⟨dc_w (A d) p - 1, by omega⟩
    rw [hk, nI_pred]; rfl
  refine ⟨jp, jp, nm_r (e' := upd y_words (24 * d + p) (nI (dc_w (A d) p - 1))) (by rw [ix_c ep (by omega), en]) ⟨dc_w (A d) p - 1 - w + 1, ?_⟩⟩
  have L := ys_tkL (post := post) (y_width := y_width) (y_note := y_note) (y_status := y_status) (y_words := upd y_words (24 * d + p) (nI (dc_w (A d) p - 1))) hd h2 hp ep hw h16 pk_us (h _ _ _ _ _ _ _ _ _ (yu_tk H h2 hp rfl hw h16)) (dc_w (A d) p - 1 - w) 0 (by omega)
  rw [cp_0, cp_0, cp_0] at L
  exact L
/-- doDrop -/
theorem ys_lgL {post : Int32 → SY → Prop} {p : Nat} {on : Int32} (hd : y_doc = nI d) (h2 : d < 2) (hp : p < 24) (H : ya_A A y_many y_pages y_styles y_styleOf y_markOf y_words y_width y_note y_status) : ∀ (w : Nat), w ≤ 16 → wY_doDrop_61 post (nI p) on (match dc_lg (A d) p w with | none => -1 | some v => nI v) y_doc y_tracking y_view y_done y_steps y_lines y_columns y_rounds y_known y_many y_styleOf y_markOf y_words y_width y_note y_status y_styles y_pages y_stepKind y_stepA y_stepB y_stepC y_stepOn y_ofParagraph y_firstWord y_wordsOf y_slack y_begin y_needs y_notes y_columnOf y_topOf y_firstLine y_label y_labelWide y_counter y_refWide y_nextWide y_columnLine y_columnLines y_filled y_foot →
    wY_doDrop_27 post (nI p) on y_doc y_tracking y_view y_done y_steps y_lines y_columns y_rounds y_known y_many y_styleOf y_markOf y_words y_width y_note y_status y_styles y_pages y_stepKind y_stepA y_stepB y_stepC y_stepOn y_ofParagraph y_firstWord y_wordsOf y_slack y_begin y_needs y_notes y_columnOf y_topOf y_firstLine y_label y_labelWide y_counter y_refWide y_nextWide y_columnLine y_columnLines y_filled y_foot (w + 1) (nI w - 1)
  | 0, hw, h => br_t (by decide) h
  | w + 1, hw, h => by
    rw [nI_pred]
    have e1 : (384 : Int32) * y_doc + 16 * nI p + nI w = nI (384 * d + 16 * p + w) := by rw [hd]; exact ad_yw _ _ _
    refine br_f (nI_pos (by omega)) ⟨ix_in e1 (by omega) (by omega), ?_⟩
    rw [ix_c e1 (by omega), ← ya_status H h2 hp (w := w) (by omega)]
    unfold dc_lg at h
    refine br_c (fun z => nm_r (Int32.sub_eq_add_neg (nI w) 1).symm ?_) (fun z => ?_)
    · rw [if_pos z] at h
      exact ys_lgL hd h2 hp H w (by omega) h
    · rw [if_neg z] at h
      exact h
theorem yo_drp {post : Int32 → SY → Prop} {p on : Int32} (hd : y_doc = nI d) (h2 : d < 2) (H : ya_A A y_many y_pages y_styles y_styleOf y_markOf y_words y_width y_note y_status) (hv : dc_V (A d))
    (h : ∀ y_many1 y_pages1 y_styles1 y_styleOf1 y_markOf1 y_words1 y_width1 y_note1 y_status1, ya_A (ya_s A d (op_drp (A d) p on).2) y_many1 y_pages1 y_styles1 y_styleOf1 y_markOf1 y_words1 y_width1 y_note1 y_status1 → post (op_drp (A d) p on).1 (y_doc, y_tracking, y_view, y_done, y_steps, y_lines, y_columns, y_rounds, y_known, y_many1, y_styleOf1, y_markOf1, y_words1, y_width1, y_note1, y_status1, y_styles1, y_pages1, y_stepKind, y_stepA, y_stepB, y_stepC, y_stepOn, y_ofParagraph, y_firstWord, y_wordsOf, y_slack, y_begin, y_needs, y_notes, y_columnOf, y_topOf, y_firstLine, y_label, y_labelWide, y_counter, y_refWide, y_nextWide, y_columnLine, y_columnLines, y_filled, y_foot)) : wpY_doDrop post (y_doc, y_tracking, y_view, y_done, y_steps, y_lines, y_columns, y_rounds, y_known, y_many, y_styleOf, y_markOf, y_words, y_width, y_note, y_status, y_styles, y_pages, y_stepKind, y_stepA, y_stepB, y_stepC, y_stepOn, y_ofParagraph, y_firstWord, y_wordsOf, y_slack, y_begin, y_needs, y_notes, y_columnOf, y_topOf, y_firstLine, y_label, y_labelWide, y_counter, y_refWide, y_nextWide, y_columnLine, y_columnLines, y_filled, y_foot) p on := by
  obtain ⟨e0, h24⟩ := dc_Vn hv
  have nop : ∀ r : Int32, op_drp (A d) p on = (r, A d) → post r (y_doc, y_tracking, y_view, y_done, y_steps, y_lines, y_columns, y_rounds, y_known, y_many, y_styleOf, y_markOf, y_words, y_width, y_note, y_status, y_styles, y_pages, y_stepKind, y_stepA, y_stepB, y_stepC, y_stepOn, y_ofParagraph, y_firstWord, y_wordsOf, y_slack, y_begin, y_needs, y_notes, y_columnOf, y_topOf, y_firstLine, y_label, y_labelWide, y_counter, y_refWide, y_nextWide, y_columnLine, y_columnLines, y_filled, y_foot) := fun r e => by
    have q := h _ _ _ _ _ _ _ _ _ (yh_0 e H); rw [e] at q; exact q
  unfold wpY_doDrop
  refine yr_isT hd h2 H hv (fun z => br_t rfl (nop _ (if_neg z))) (fun z1 z2 => br_f (by decide) ?_)
  obtain ⟨j, hj, rfl⟩ := op_ix z1 (e0 ▸ z2) (by omega)
  obtain ⟨ew, h16⟩ := dc_Vw hv (p := j) (by omega)
  have ec := nI_clamp (n := j) (by omega)
  have ep : (24 : Int32) * y_doc + nI j = nI (24 * d + j) := by rw [hd]; exact ad_yp _ _
  have jp := ix_in (N := 48) ep (by omega) (by omega)
  have eww := ya_words H h2 (p := j) (by omega)
  have e : op_drp (A d) (nI j) on = _ := if_pos ⟨z1, z2⟩
  rw [ec] at e
  refine ⟨jp, nm_r (e' := nI (dc_w (A d) j) - 1) (by rw [ix_c ep (by omega), ← eww, ew]) ⟨dc_w (A d) j + 1, ys_lgL hd h2 (by omega) H _ h16 ?_⟩⟩
  cases hg : dc_lg (A d) j (dc_w (A d) j) with
  | none =>
    rw [hg] at e
    exact br_f (by decide) (nop _ e)
  | some w =>
    rw [hg] at e
    have hw := dc_lgw hg
    have e' : op_drp (A d) (nI j) on = if ¬ on = 0 ∧ A d (81 + 51 * j + 3 * w) = 0 then (A d (78 + 51 * j), upd (A d) (81 + 51 * j + 3 * w) 2) else (nI (dc_w (A d) j - 1), dc_tk (A d) j w) := e
    have tk : ∀ (hc : ¬ (¬ on = 0 ∧ A d (81 + 51 * j + 3 * w) = 0)), wY_doDrop_100 post (nI j) (nI w) y_doc y_tracking y_view y_done y_steps y_lines y_columns y_rounds y_known y_many y_styleOf y_markOf y_words y_width y_note y_status y_styles y_pages y_stepKind y_stepA y_stepB y_stepC y_stepOn y_ofParagraph y_firstWord y_wordsOf y_slack y_begin y_needs y_notes y_columnOf y_topOf y_firstLine y_label y_labelWide y_counter y_refWide y_nextWide y_columnLine y_columnLines y_filled y_foot := fun hc => by
      rw [if_neg hc] at e'
      unfold wY_doDrop_100
      refine ys_tk rfl rfl hd h2 H hv (by omega) hw ?_
      intro y_many1 y_pages1 y_styles1 y_styleOf1 y_markOf1 y_words1 y_width1 y_note1 y_status1 H1
      refine ⟨jp, ?_⟩
      rw [ix_c ep (by omega), ← ya_words H1 h2 (p := j) (by omega), ya_ss]
      have q2 : dc_tk (A d) j w (78 + 51 * j) = nI (dc_w (A d) j - 1) := pk_us
      rw [q2]
      have q := h _ _ _ _ _ _ _ _ _ (by rw [e']; exact H1); rw [e'] at q; exact q
    have e1 : (384 : Int32) * y_doc + 16 * nI j + nI w = nI (384 * d + 16 * j + w) := by rw [hd]; exact ad_yw _ _ _
    have j1 := ix_in (N := 768) e1 (by omega) (by omega)
    have es := ya_status H h2 (p := j) (w := w) (by omega) (by omega)
    refine br_t (nI_pos' (by omega)) (br_c (fun zt => tk fun q => q.1 zt) (fun zt => ⟨j1, ?_⟩))
    rw [ix_c e1 (by omega), ← es]
    refine br_c (fun zs => ⟨j1, nm_e ⟨jp, ?_⟩⟩) (fun zs => tk fun q => zs q.2)
    rw [if_pos ⟨zt, zs⟩] at e'
    have H1 := yu_status (v := 2) H h2 (p := j) (w := w) (by omega) (by omega)
    rw [ix_c ep (by omega), ← eww]
    have q := h _ _ _ _ _ _ _ _ _ (by rw [e']; exact H1); rw [e'] at q; exact q
end
section
theorem dc_cgc {a b : Nat → Int32} {p : Nat} : ∀ {w : Nat}, (∀ v, v < w → a (81 + 51 * p + 3 * v) = b (81 + 51 * p + 3 * v)) → dc_cg a p w = dc_cg b p w
  | 0, _ => rfl
  | w + 1, h => by
    unfold dc_cg
    rw [dc_cgc (w := w) (fun v hv => h v (by omega)), h w (by omega)]
variable {y_doc y_tracking y_view y_done y_steps y_lines y_columns y_rounds y_known : Int32} {y_many y_styleOf y_markOf y_words y_width y_note y_status y_styles y_pages y_stepKind y_stepA y_stepB y_stepC y_stepOn y_ofParagraph y_firstWord y_wordsOf y_slack y_begin y_needs y_notes y_columnOf y_topOf y_firstLine y_label y_labelWide y_counter y_refWide y_nextWide y_columnLine y_columnLines y_filled y_foot : Nat → Int32} {A : Nat → Nat → Int32} {d : Nat}
theorem ys_rsL {post : Int32 → SY → Prop} {p : Nat} {acc : Int32} (hd : y_doc = nI d) (h2 : d < 2) (hp : p < 24) : ∀ (w c : Nat) (A : Nat → Nat → Int32) (y_many y_pages y_styles y_styleOf y_markOf y_words y_width y_note y_status : Nat → Int32), ya_A A y_many y_pages y_styles y_styleOf y_markOf y_words y_width y_note y_status → dc_V (A d) → w ≤ dc_w (A d) p →
    (∀ y_many1 y_pages1 y_styles1 y_styleOf1 y_markOf1 y_words1 y_width1 y_note1 y_status1, ya_A (ya_s A d (dc_rs p (if acc = 0 then 1 else 2) w (A d))) y_many1 y_pages1 y_styles1 y_styleOf1 y_markOf1 y_words1 y_width1 y_note1 y_status1 → post (nI (c + dc_cg (A d) p w)) (y_doc, y_tracking, y_view, y_done, y_steps, y_lines, y_columns, y_rounds, y_known, y_many1, y_styleOf1, y_markOf1, y_words1, y_width1, y_note1, y_status1, y_styles1, y_pages1, y_stepKind, y_stepA, y_stepB, y_stepC, y_stepOn, y_ofParagraph, y_firstWord, y_wordsOf, y_slack, y_begin, y_needs, y_notes, y_columnOf, y_topOf, y_firstLine, y_label, y_labelWide, y_counter, y_refWide, y_nextWide, y_columnLine, y_columnLines, y_filled, y_foot)) →
    wY_doResolve_30 post (nI p) acc (w + 1) (nI c) (nI w - 1) y_doc y_tracking y_view y_done y_steps y_lines y_columns y_rounds y_known y_many y_styleOf y_markOf y_words y_width y_note y_status y_styles y_pages y_stepKind y_stepA y_stepB y_stepC y_stepOn y_ofParagraph y_firstWord y_wordsOf y_slack y_begin y_needs y_notes y_columnOf y_topOf y_firstLine y_label y_labelWide y_counter y_refWide y_nextWide y_columnLine y_columnLines y_filled y_foot
  | 0, c, A, y_many, y_pages, y_styles, y_styleOf, y_markOf, y_words, y_width, y_note, y_status, H, hv, hw, h => br_t (by decide) (h _ _ _ _ _ _ _ _ _ (by show ya_A (ya_s A d (A d)) y_many y_pages y_styles y_styleOf y_markOf y_words y_width y_note y_status; rw [ya_sI]; exact H))
  | w + 1, c, A, y_many, y_pages, y_styles, y_styleOf, y_markOf, y_words, y_width, y_note, y_status, H, hv, hw, h => by
    have h16 := (dc_Vw hv hp).2
    have e1 : (384 : Int32) * y_doc + 16 * nI p + nI w = nI (384 * d + 16 * p + w) := by rw [hd]; exact ad_yw _ _ _
    have j1 := ix_in (N := 768) e1 (by omega) (by omega)
    have es := ya_status H h2 hp (w := w) (by omega)
    have st : dc_N (A d (81 + 51 * p + 3 * w)) 2 := (dc_Vo hv hp (w := w) (by omega)).2.2
    have hcg : dc_cg (A d) p (w + 1) = dc_cg (A d) p w + if A d (81 + 51 * p + 3 * w) = 0 then 0 else 1 := rfl
    have hrs : dc_rs p (if acc = 0 then 1 else 2) (w + 1) (A d) = dc_rs p (if acc = 0 then 1 else 2) w (if A d (81 + 51 * p + 3 * w) = (if acc = 0 then 1 else 2) then dc_tk (A d) p w else upd (A d) (81 + 51 * p + 3 * w) 0) := rfl
    rw [nI_pred]
    refine br_f (nI_pos (by omega)) ⟨j1, ?_⟩
    rw [ix_c e1 (by omega), ← es]
    refine br_c (fun z => nm_r (Int32.sub_eq_add_neg (nI w) 1).symm ?_) (fun z => nm_r (nI_1 c) ⟨j1, ?_⟩)
    · rw [if_pos z] at hcg
      have hu : ¬ A d (81 + 51 * p + 3 * w) = (if acc = 0 then 1 else 2) := by rw [z]; split <;> decide
      rw [hrs, if_neg hu, op_upd2 z, hcg] at h
      exact ys_rsL hd h2 hp w c A _ _ _ _ _ _ _ _ _ H hv (by omega) h
    · rw [if_neg z] at hcg
      have pl : A d (81 + 51 * p + 3 * w) ≠ (if acc = 0 then 1 else 2) → wY_doResolve_30 post (nI p) acc (w + 1) (nI (c + 1)) (nI w - 1) y_doc y_tracking y_view y_done y_steps y_lines y_columns y_rounds y_known y_many y_styleOf y_markOf y_words y_width y_note (upd y_status (384 * d + 16 * p + w) 0) y_styles y_pages y_stepKind y_stepA y_stepB y_stepC y_stepOn y_ofParagraph y_firstWord y_wordsOf y_slack y_begin y_needs y_notes y_columnOf y_topOf y_firstLine y_label y_labelWide y_counter y_refWide y_nextWide y_columnLine y_columnLines y_filled y_foot := fun hu => by
        rw [hrs, if_neg hu, hcg] at h
        have v := dc_cell (p := p) (j := 5 + 3 * w) (v := nI 0) hv hp (by omega) (dc_R5 (hv.2.2.2.2.1 p hp) (by omega))
        rw [show 76 + 51 * p + (5 + 3 * w) = 81 + 51 * p + 3 * w from by omega] at v
        refine ys_rsL hd h2 hp w (c + 1) _ _ _ _ _ _ _ _ _ _ (yu_status (v := 0) H h2 hp (w := w) (by omega)) (by rw [ya_ss]; exact v) ?_ ?_
        · rw [ya_ss]; unfold dc_w; rw [pk_un (by omega)]; unfold dc_w at hw; omega
        · rw [ya_ss, ya_s2, dc_cgc (b := A d) (fun v hv => pk_un (by omega)), show c + 1 + dc_cg (A d) p w = c + (dc_cg (A d) p w + 1) from by omega]
          exact h
      have tk : A d (81 + 51 * p + 3 * w) = (if acc = 0 then 1 else 2) → wpY_take (fun u => match u with | (y_doc7, y_tracking7, y_view7, y_done7, y_steps7, y_lines7, y_columns7, y_rounds7, y_known7, y_many7, y_styleOf7, y_markOf7, y_words7, y_width7, y_note7, y_status7, y_styles7, y_pages7, y_stepKind7, y_stepA7, y_stepB7, y_stepC7, y_stepOn7, y_ofParagraph7, y_firstWord7, y_wordsOf7, y_slack7, y_begin7, y_needs7, y_notes7, y_columnOf7, y_topOf7, y_firstLine7, y_label7, y_labelWide7, y_counter7, y_refWide7, y_nextWide7, y_columnLine7, y_columnLines7, y_filled7, y_foot7) => (∀ x4_140 : Int32, x4_140 = nI w + (-1) → (wY_doResolve_30 post (nI p) acc (w + 1) (nI (c + 1)) x4_140 y_doc7 y_tracking7 y_view7 y_done7 y_steps7 y_lines7 y_columns7 y_rounds7 y_known7 y_many7 y_styleOf7 y_markOf7 y_words7 y_width7 y_note7 y_status7 y_styles7 y_pages7 y_stepKind7 y_stepA7 y_stepB7 y_stepC7 y_stepOn7 y_ofParagraph7 y_firstWord7 y_wordsOf7 y_slack7 y_begin7 y_needs7 y_notes7 y_columnOf7 y_topOf7 y_firstLine7 y_label7 y_labelWide7 y_counter7 y_refWide7 y_nextWide7 y_columnLine7 y_columnLines7 y_filled7 y_foot7))) (y_doc, y_tracking, y_view, y_done, y_steps, y_lines, y_columns, y_rounds, y_known, y_many, y_styleOf, y_markOf, y_words, y_width, y_note, y_status, y_styles, y_pages, y_stepKind, y_stepA, y_stepB, y_stepC, y_stepOn, y_ofParagraph, y_firstWord, y_wordsOf, y_slack, y_begin, y_needs, y_notes, y_columnOf, y_topOf, y_firstLine, y_label, y_labelWide, y_counter, y_refWide, y_nextWide, y_columnLine, y_columnLines, y_filled, y_foot) (nI p) (nI w) := fun hu => by
        rw [hrs, if_pos hu, hcg] at h
        refine ys_tk rfl rfl hd h2 H hv hp (by omega) ?_
        intro y_many1 y_pages1 y_styles1 y_styleOf1 y_markOf1 y_words1 y_width1 y_note1 y_status1 H1
        obtain ⟨v, ew⟩ := dc_tkV hv hp (w := w) (by omega)
        refine nm_r (Int32.sub_eq_add_neg (nI w) 1).symm (ys_rsL hd h2 hp w (c + 1) _ _ _ _ _ _ _ _ _ _ H1 (by rw [ya_ss]; exact v) (by rw [ya_ss]; omega) ?_)
        have hc : dc_cg (dc_tk (A d) p w) p w = dc_cg (A d) p w := dc_cgc (fun v hv => by unfold dc_tk; rw [pk_un (by omega), cp_out (by omega)])
        rw [ya_ss, ya_s2, hc, show c + 1 + dc_cg (A d) p w = c + (dc_cg (A d) p w + 1) from by omega]
        exact h
      obtain ⟨s1, s2⟩ := st
      have hs : A d (81 + 51 * p + 3 * w) = 1 ∨ A d (81 + 51 * p + 3 * w) = 2 := by
        generalize A d (81 + 51 * p + 3 * w) = x at *
        generalize x.toNatClampNeg = k at *
        subst s1
        have : k = 0 ∨ k = 1 ∨ k = 2 := by omega
        rcases this with rfl | rfl | rfl
        · exact absurd rfl z
        · left; rfl
        · right; rfl
      refine br_c (fun za => br_c (fun ze => ⟨j1, nm_r (by rw [ix_c e1 (by omega)]) (nm_r (Int32.sub_eq_add_neg (nI w) 1).symm (pl ?_))⟩) (fun ze => tk ?_)) (fun za => br_c (fun ze => ⟨j1, nm_r (by rw [ix_c e1 (by omega)]) (nm_r (Int32.sub_eq_add_neg (nI w) 1).symm (pl ?_))⟩) (fun ze => tk ?_))
      · rw [if_pos za, ze]; decide
      · rw [if_pos za]; exact hs.resolve_right ze
      · rw [if_neg za, ze]; decide
      · rw [if_neg za]; exact hs.resolve_left ze
theorem yo_res {post : Int32 → SY → Prop} {p acc : Int32} (hd : y_doc = nI d) (h2 : d < 2) (H : ya_A A y_many y_pages y_styles y_styleOf y_markOf y_words y_width y_note y_status) (hv : dc_V (A d))
    (h : ∀ y_many1 y_pages1 y_styles1 y_styleOf1 y_markOf1 y_words1 y_width1 y_note1 y_status1, ya_A (ya_s A d (op_res (A d) p acc).2) y_many1 y_pages1 y_styles1 y_styleOf1 y_markOf1 y_words1 y_width1 y_note1 y_status1 → post (op_res (A d) p acc).1 (y_doc, y_tracking, y_view, y_done, y_steps, y_lines, y_columns, y_rounds, y_known, y_many1, y_styleOf1, y_markOf1, y_words1, y_width1, y_note1, y_status1, y_styles1, y_pages1, y_stepKind, y_stepA, y_stepB, y_stepC, y_stepOn, y_ofParagraph, y_firstWord, y_wordsOf, y_slack, y_begin, y_needs, y_notes, y_columnOf, y_topOf, y_firstLine, y_label, y_labelWide, y_counter, y_refWide, y_nextWide, y_columnLine, y_columnLines, y_filled, y_foot)) : wpY_doResolve post (y_doc, y_tracking, y_view, y_done, y_steps, y_lines, y_columns, y_rounds, y_known, y_many, y_styleOf, y_markOf, y_words, y_width, y_note, y_status, y_styles, y_pages, y_stepKind, y_stepA, y_stepB, y_stepC, y_stepOn, y_ofParagraph, y_firstWord, y_wordsOf, y_slack, y_begin, y_needs, y_notes, y_columnOf, y_topOf, y_firstLine, y_label, y_labelWide, y_counter, y_refWide, y_nextWide, y_columnLine, y_columnLines, y_filled, y_foot) p acc := by
  obtain ⟨e0, h24⟩ := dc_Vn hv
  have nop : ∀ r : Int32, op_res (A d) p acc = (r, A d) → post r (y_doc, y_tracking, y_view, y_done, y_steps, y_lines, y_columns, y_rounds, y_known, y_many, y_styleOf, y_markOf, y_words, y_width, y_note, y_status, y_styles, y_pages, y_stepKind, y_stepA, y_stepB, y_stepC, y_stepOn, y_ofParagraph, y_firstWord, y_wordsOf, y_slack, y_begin, y_needs, y_notes, y_columnOf, y_topOf, y_firstLine, y_label, y_labelWide, y_counter, y_refWide, y_nextWide, y_columnLine, y_columnLines, y_filled, y_foot) := fun r e => by
    have q := h _ _ _ _ _ _ _ _ _ (yh_0 e H); rw [e] at q; exact q
  unfold wpY_doResolve
  refine yr_isT hd h2 H hv (fun z => br_t rfl (nop _ (if_neg z))) (fun z1 z2 => br_f (by decide) ?_)
  obtain ⟨j, hj, rfl⟩ := op_ix z1 (e0 ▸ z2) (by omega)
  obtain ⟨ew, h16⟩ := dc_Vw hv (p := j) (by omega)
  have ec := nI_clamp (n := j) (by omega)
  have ep : (24 : Int32) * y_doc + nI j = nI (24 * d + j) := by rw [hd]; exact ad_yp _ _
  have eww := ya_words H h2 (p := j) (by omega)
  have e : op_res (A d) (nI j) acc = _ := if_pos ⟨z1, z2⟩
  rw [ec] at e
  refine ⟨ix_in ep (by omega) (by omega), nm_r (e' := nI (dc_w (A d) j) - 1) (by rw [ix_c ep (by omega), ← eww, ew]) ⟨dc_w (A d) j + 1, ?_⟩⟩
  refine ys_rsL (c := 0) hd h2 (by omega) _ A _ _ _ _ _ _ _ _ _ H hv (by omega) ?_
  intro y_many1 y_pages1 y_styles1 y_styleOf1 y_markOf1 y_words1 y_width1 y_note1 y_status1 H1
  rw [Nat.zero_add]
  have q := h _ _ _ _ _ _ _ _ _ (by rw [e]; exact H1); rw [e] at q; exact q
theorem yo_go {post : Int32 → SY → Prop} {w p b c on : Int32} (hd : y_doc = nI d) (h2 : d < 2) (H : ya_A A y_many y_pages y_styles y_styleOf y_markOf y_words y_width y_note y_status) (hv : dc_V (A d))
    (h : ∀ y_many1 y_pages1 y_styles1 y_styleOf1 y_markOf1 y_words1 y_width1 y_note1 y_status1, ya_A (ya_s A d (op_go w p b c on (A d)).2) y_many1 y_pages1 y_styles1 y_styleOf1 y_markOf1 y_words1 y_width1 y_note1 y_status1 → post (op_go w p b c on (A d)).1 (y_doc, y_tracking, y_view, y_done, y_steps, y_lines, y_columns, y_rounds, y_known, y_many1, y_styleOf1, y_markOf1, y_words1, y_width1, y_note1, y_status1, y_styles1, y_pages1, y_stepKind, y_stepA, y_stepB, y_stepC, y_stepOn, y_ofParagraph, y_firstWord, y_wordsOf, y_slack, y_begin, y_needs, y_notes, y_columnOf, y_topOf, y_firstLine, y_label, y_labelWide, y_counter, y_refWide, y_nextWide, y_columnLine, y_columnLines, y_filled, y_foot)) : wpY_carryOut post (y_doc, y_tracking, y_view, y_done, y_steps, y_lines, y_columns, y_rounds, y_known, y_many, y_styleOf, y_markOf, y_words, y_width, y_note, y_status, y_styles, y_pages, y_stepKind, y_stepA, y_stepB, y_stepC, y_stepOn, y_ofParagraph, y_firstWord, y_wordsOf, y_slack, y_begin, y_needs, y_notes, y_columnOf, y_topOf, y_firstLine, y_label, y_labelWide, y_counter, y_refWide, y_nextWide, y_columnLine, y_columnLines, y_filled, y_foot) w p b c on := by
  have res : ¬ (0 ≤ w ∧ w ≤ 7) → ((b = 1 → wY_carryOut_124 post 1 p y_doc y_tracking y_view y_done y_steps y_lines y_columns y_rounds y_known y_many y_styleOf y_markOf y_words y_width y_note y_status y_styles y_pages y_stepKind y_stepA y_stepB y_stepC y_stepOn y_ofParagraph y_firstWord y_wordsOf y_slack y_begin y_needs y_notes y_columnOf y_topOf y_firstLine y_label y_labelWide y_counter y_refWide y_nextWide y_columnLine y_columnLines y_filled y_foot) ∧ (¬ b = 1 → wY_carryOut_124 post 0 p y_doc y_tracking y_view y_done y_steps y_lines y_columns y_rounds y_known y_many y_styleOf y_markOf y_words y_width y_note y_status y_styles y_pages y_stepKind y_stepA y_stepB y_stepC y_stepOn y_ofParagraph y_firstWord y_wordsOf y_slack y_begin y_needs y_notes y_columnOf y_topOf y_firstLine y_label y_labelWide y_counter y_refWide y_nextWide y_columnLine y_columnLines y_filled y_foot)) := fun hw => by
    have ne : ∀ k : Int32, 0 ≤ k ∧ k ≤ 7 → ¬ w = k := fun k hk e => hw (e ▸ hk)
    unfold op_go at h
    rw [if_neg (ne 0 (by decide)), if_neg (ne 1 (by decide)), if_neg (ne 2 (by decide)), if_neg (ne 3 (by decide)), if_neg (ne 4 (by decide)), if_neg (ne 5 (by decide)), if_neg (ne 6 (by decide)), if_neg (ne 7 (by decide))] at h
    refine br_c (fun z => ?_) (fun z => ?_)
    · rw [if_pos z] at h
      unfold wY_carryOut_124
      exact yo_res hd h2 H hv h
    · rw [if_neg z] at h
      unfold wY_carryOut_124
      exact yo_res hd h2 H hv h
  refine br_c (fun z => res fun q => Int32.not_lt.mpr q.1 z) (fun z => br_c (fun z => res fun q => Int32.not_lt.mpr q.2 z) (fun z7 => ?_))
  unfold op_go at h
  refine br_c (fun q => ?_) (fun q0 => br_c (fun q => ?_) (fun q1 => br_c (fun q => ?_) (fun q2 => br_c (fun q => ?_) (fun q3 => br_c (fun q => ?_) (fun q4 => br_c (fun q => ?_) (fun q5 => br_c (fun q => ?_) (fun q6 => br_c (fun q => ?_) (fun q7 => trivial))))))))
  · rw [if_pos q] at h; exact yo_ins hd h2 H hv h
  · rw [if_neg q0, if_pos q] at h; exact yo_rem hd h2 H hv h
  · rw [if_neg q0, if_neg q1, if_pos q] at h; exact yo_sty hd h2 H hv h
  · rw [if_neg q0, if_neg q1, if_neg q2, if_pos q] at h; exact yo_mrk hd h2 H hv h
  · rw [if_neg q0, if_neg q1, if_neg q2, if_neg q3, if_pos q] at h; exact yo_add hd h2 H hv h
  · rw [if_neg q0, if_neg q1, if_neg q2, if_neg q3, if_neg q4, if_pos q] at h; exact yo_drp hd h2 H hv h
  · rw [if_neg q0, if_neg q1, if_neg q2, if_neg q3, if_neg q4, if_neg q5, if_pos q] at h; exact yo_stl hd h2 H h
  · rw [if_neg q0, if_neg q1, if_neg q2, if_neg q3, if_neg q4, if_neg q5, if_neg q6, if_pos q] at h; exact yo_pag hd h2 H h
end
section
theorem ys_bool {t : Int32} (h : t = 0 ∨ t = 1) : vp_nar .boolean t = t := by rcases h with rfl | rfl <;> rfl
variable {y_doc y_tracking y_view y_done y_steps y_lines y_columns y_rounds y_known : Int32} {y_many y_styleOf y_markOf y_words y_width y_note y_status y_styles y_pages y_stepKind y_stepA y_stepB y_stepC y_stepOn y_ofParagraph y_firstWord y_wordsOf y_slack y_begin y_needs y_notes y_columnOf y_topOf y_firstLine y_label y_labelWide y_counter y_refWide y_nextWide y_columnLine y_columnLines y_filled y_foot : Nat → Int32} {A : Nat → Nat → Int32}
theorem ys_forL {post : SY → Prop} {m : Nat} (hm : m < 20) (hs : y_steps = nI m) (hb : ∀ k, k < 20 → y_stepOn k = 0 ∨ y_stepOn k = 1)
    (h : post (y_doc, y_tracking, y_view, y_done, y_steps, y_lines, y_columns, y_rounds, y_known, y_many, y_styleOf, y_markOf, y_words, y_width, y_note, y_status, y_styles, y_pages, (cp_b y_stepKind 1 0 m), (cp_b y_stepA 1 0 m), (cp_b y_stepB 1 0 m), (cp_b y_stepC 1 0 m), (cp_b y_stepOn 1 0 m), y_ofParagraph, y_firstWord, y_wordsOf, y_slack, y_begin, y_needs, y_notes, y_columnOf, y_topOf, y_firstLine, y_label, y_labelWide, y_counter, y_refWide, y_nextWide, y_columnLine, y_columnLines, y_filled, y_foot)) : ∀ n i, i + n = m →
    wY_forget_57 post y_doc y_tracking y_view y_done y_steps y_lines y_columns y_rounds y_known (n + 1) (nI i) y_many y_styleOf y_markOf y_words y_width y_note y_status y_styles y_pages (cp_b y_stepKind 1 0 i) (cp_b y_stepA 1 0 i) (cp_b y_stepB 1 0 i) (cp_b y_stepC 1 0 i) (cp_b y_stepOn 1 0 i) y_ofParagraph y_firstWord y_wordsOf y_slack y_begin y_needs y_notes y_columnOf y_topOf y_firstLine y_label y_labelWide y_counter y_refWide y_nextWide y_columnLine y_columnLines y_filled y_foot
  | 0, i, hi => by
    obtain rfl : i = m := by omega
    exact br_t (by rw [hs]; exact nI_le (by omega) (by omega)) h
  | n + 1, i, hi => by
    have j0 := vp_in_nI (n := i) (N := 20) (by omega) (by omega)
    have j1 : vp_in (nI i + 1) 20 := ix_in (nI_1 i) (by omega) (by omega)
    have c0 := nI_clamp (n := i) (by omega)
    have c1 : (nI i + 1).toNatClampNeg = 1 + i := ix_c ((nI_1 i).trans (congrArg nI (by omega))) (by omega)
    have cs : ∀ g : Nat → Int32, upd (cp_b g 1 0 i) i (cp_b g 1 0 i (1 + i)) = cp_b g 1 0 (i + 1) := fun g => by
      have z := cp_s (g := g) (s := 1) (t := 0) (n := i) (by omega)
      rw [Nat.zero_add] at z; exact z
    have bo : vp_nar .boolean (cp_b y_stepOn 1 0 i (1 + i)) = cp_b y_stepOn 1 0 i (1 + i) := by
      rw [cp_out (by omega)]; exact ys_bool (hb _ (by omega))
    refine br_f (by rw [hs]; exact nI_ge (by omega) (by omega)) ⟨j1, j0, nm_r (by rw [c0, c1, cs]) ⟨j1, j0, nm_r (by rw [c0, c1, cs]) ⟨j1, j0, nm_r (by rw [c0, c1, cs]) ⟨j1, j0, nm_r (by rw [c0, c1, cs]) ⟨j1, j0, nm_r (by rw [c0, c1, bo, cs]) (nm_r (nI_1 i) ?_)⟩⟩⟩⟩⟩
    exact ys_forL hm hs hb h n (i + 1) (by omega)
theorem ys_for {post : SY → Prop} {m : Nat} (hm : m < 20) (hs : y_steps = nI (m + 1)) (hb : ∀ k, k < 20 → y_stepOn k = 0 ∨ y_stepOn k = 1) (H : ya_A A y_many y_pages y_styles y_styleOf y_markOf y_words y_width y_note y_status) (hv : dc_V (A 1))
    (h : ∀ y_many1 y_pages1 y_styles1 y_styleOf1 y_markOf1 y_words1 y_width1 y_note1 y_status1, ya_A (ya_s A 1 (op_go (y_stepKind 0) (y_stepA 0) (y_stepB 0) (y_stepC 0) (y_stepOn 0) (A 1)).2) y_many1 y_pages1 y_styles1 y_styleOf1 y_markOf1 y_words1 y_width1 y_note1 y_status1 →
      post (0, y_tracking, y_view, y_done, (nI m), y_lines, y_columns, y_rounds, y_known, y_many1, y_styleOf1, y_markOf1, y_words1, y_width1, y_note1, y_status1, y_styles1, y_pages1, (cp_b y_stepKind 1 0 m), (cp_b y_stepA 1 0 m), (cp_b y_stepB 1 0 m), (cp_b y_stepC 1 0 m), (cp_b y_stepOn 1 0 m), y_ofParagraph, y_firstWord, y_wordsOf, y_slack, y_begin, y_needs, y_notes, y_columnOf, y_topOf, y_firstLine, y_label, y_labelWide, y_counter, y_refWide, y_nextWide, y_columnLine, y_columnLines, y_filled, y_foot)) : wpY_forget post (y_doc, y_tracking, y_view, y_done, y_steps, y_lines, y_columns, y_rounds, y_known, y_many, y_styleOf, y_markOf, y_words, y_width, y_note, y_status, y_styles, y_pages, y_stepKind, y_stepA, y_stepB, y_stepC, y_stepOn, y_ofParagraph, y_firstWord, y_wordsOf, y_slack, y_begin, y_needs, y_notes, y_columnOf, y_topOf, y_firstLine, y_label, y_labelWide, y_counter, y_refWide, y_nextWide, y_columnLine, y_columnLines, y_filled, y_foot) := by
  unfold wpY_forget
  refine yo_go (d := 1) rfl (by omega) H hv ?_
  intro y_many1 y_pages1 y_styles1 y_styleOf1 y_markOf1 y_words1 y_width1 y_note1 y_status1 H1
  refine nm_r (e' := nI m) (by rw [hs, nI_pred]) ⟨m + 1, ?_⟩
  have L := ys_forL (post := post) (y_stepKind := y_stepKind) (y_stepA := y_stepA) (y_stepB := y_stepB) (y_stepC := y_stepC) (y_stepOn := y_stepOn) hm rfl hb (h _ _ _ _ _ _ _ _ _ H1) m 0 (by omega)
  rw [cp_0, cp_0, cp_0, cp_0, cp_0] at L
  exact L
theorem ys_go60 {post : Int32 → SY → Prop} {m : Nat} {x1 x2 x3 x4 x5 : Int32} (hm : m < 20) (hs : y_steps = nI m) (ht : y_tracking = 0 ∨ y_tracking = 1)
    (h : post x5 (y_doc, y_tracking, y_view, (nI (m + 1)), (nI (m + 1)), y_lines, y_columns, y_rounds, y_known, y_many, y_styleOf, y_markOf, y_words, y_width, y_note, y_status, y_styles, y_pages, (upd y_stepKind m x1), (upd y_stepA m x2), (upd y_stepB m x3), (upd y_stepC m x4), (upd y_stepOn m y_tracking), y_ofParagraph, y_firstWord, y_wordsOf, y_slack, y_begin, y_needs, y_notes, y_columnOf, y_topOf, y_firstLine, y_label, y_labelWide, y_counter, y_refWide, y_nextWide, y_columnLine, y_columnLines, y_filled, y_foot)) :
    wY_go_60 post x1 x2 x3 x4 x5 y_doc y_tracking y_view y_done y_steps y_lines y_columns y_rounds y_known y_many y_styleOf y_markOf y_words y_width y_note y_status y_styles y_pages y_stepKind y_stepA y_stepB y_stepC y_stepOn y_ofParagraph y_firstWord y_wordsOf y_slack y_begin y_needs y_notes y_columnOf y_topOf y_firstLine y_label y_labelWide y_counter y_refWide y_nextWide y_columnLine y_columnLines y_filled y_foot := by
  have j := ix_in (N := 20) hs hm (by omega)
  have c := ix_c hs (by omega)
  exact ⟨j, nm_r (by rw [c]) ⟨j, nm_r (by rw [c]) ⟨j, nm_r (by rw [c]) ⟨j, nm_r (by rw [c]) ⟨j, nm_r (by rw [c, ys_bool ht]) (nm_r (by rw [hs, nI_1]) h)⟩⟩⟩⟩⟩
/-- go: not kept -/
theorem ys_no {post : Int32 → SY → Prop} {w p b c r : Int32} {a : Nat → Int32} (hd : y_doc = 0) (H : ya_A A y_many y_pages y_styles y_styleOf y_markOf y_words y_width y_note y_status) (hv : dc_V (A 0)) (e : op_go w p b c y_tracking (A 0) = (r, a)) (hr : r < 0 ∨ (w = 8 ∧ r = 0)) (ha : a = A 0)
    (h : ∀ y_many1 y_pages1 y_styles1 y_styleOf1 y_markOf1 y_words1 y_width1 y_note1 y_status1, ya_A A y_many1 y_pages1 y_styles1 y_styleOf1 y_markOf1 y_words1 y_width1 y_note1 y_status1 → post r (y_doc, y_tracking, y_view, y_done, y_steps, y_lines, y_columns, y_rounds, y_known, y_many1, y_styleOf1, y_markOf1, y_words1, y_width1, y_note1, y_status1, y_styles1, y_pages1, y_stepKind, y_stepA, y_stepB, y_stepC, y_stepOn, y_ofParagraph, y_firstWord, y_wordsOf, y_slack, y_begin, y_needs, y_notes, y_columnOf, y_topOf, y_firstLine, y_label, y_labelWide, y_counter, y_refWide, y_nextWide, y_columnLine, y_columnLines, y_filled, y_foot)) : wpY_go post (y_doc, y_tracking, y_view, y_done, y_steps, y_lines, y_columns, y_rounds, y_known, y_many, y_styleOf, y_markOf, y_words, y_width, y_note, y_status, y_styles, y_pages, y_stepKind, y_stepA, y_stepB, y_stepC, y_stepOn, y_ofParagraph, y_firstWord, y_wordsOf, y_slack, y_begin, y_needs, y_notes, y_columnOf, y_topOf, y_firstLine, y_label, y_labelWide, y_counter, y_refWide, y_nextWide, y_columnLine, y_columnLines, y_filled, y_foot) w p b c := by
  unfold wpY_go
  refine yo_go (d := 0) hd (by omega) H hv ?_
  rw [e]
  intro y_many1 y_pages1 y_styles1 y_styleOf1 y_markOf1 y_words1 y_width1 y_note1 y_status1 H1
  have H2 : ya_A A y_many1 y_pages1 y_styles1 y_styleOf1 y_markOf1 y_words1 y_width1 y_note1 y_status1 := by
    have q : ya_A (ya_s A 0 a) y_many1 y_pages1 y_styles1 y_styleOf1 y_markOf1 y_words1 y_width1 y_note1 y_status1 := H1
    rw [ha, ya_sI] at q; exact q
  have h1 := h _ _ _ _ _ _ _ _ _ H2
  by_cases z : r < 0
  · exact br_t z h1
  · obtain ⟨rfl, z2⟩ := hr.resolve_left z
    exact br_f z (br_t rfl (br_t z2 h1))
/-- go: kept, with fewer than 20 steps done -/
theorem ys_go1 {post : Int32 → SY → Prop} {w p b c r : Int32} {a : Nat → Int32} {m : Nat} (hd : y_doc = 0) (H : ya_A A y_many y_pages y_styles y_styleOf y_markOf y_words y_width y_note y_status) (hv : dc_V (A 0)) (e : op_go w p b c y_tracking (A 0) = (r, a)) (hr : ¬ (r < 0 ∨ (w = 8 ∧ r = 0))) (ht : y_tracking = 0 ∨ y_tracking = 1) (hm : y_done = nI m) (h20 : m < 20)
    (h : ∀ y_many1 y_pages1 y_styles1 y_styleOf1 y_markOf1 y_words1 y_width1 y_note1 y_status1, ya_A (ya_s A 0 a) y_many1 y_pages1 y_styles1 y_styleOf1 y_markOf1 y_words1 y_width1 y_note1 y_status1 → post r (y_doc, y_tracking, y_view, (nI (m + 1)), (nI (m + 1)), y_lines, y_columns, y_rounds, 0, y_many1, y_styleOf1, y_markOf1, y_words1, y_width1, y_note1, y_status1, y_styles1, y_pages1, (upd y_stepKind m w), (upd y_stepA m p), (upd y_stepB m b), (upd y_stepC m c), (upd y_stepOn m y_tracking), y_ofParagraph, y_firstWord, y_wordsOf, y_slack, y_begin, y_needs, y_notes, y_columnOf, y_topOf, y_firstLine, y_label, y_labelWide, y_counter, y_refWide, y_nextWide, y_columnLine, y_columnLines, y_filled, y_foot)) : wpY_go post (y_doc, y_tracking, y_view, y_done, y_steps, y_lines, y_columns, y_rounds, y_known, y_many, y_styleOf, y_markOf, y_words, y_width, y_note, y_status, y_styles, y_pages, y_stepKind, y_stepA, y_stepB, y_stepC, y_stepOn, y_ofParagraph, y_firstWord, y_wordsOf, y_slack, y_begin, y_needs, y_notes, y_columnOf, y_topOf, y_firstLine, y_label, y_labelWide, y_counter, y_refWide, y_nextWide, y_columnLine, y_columnLines, y_filled, y_foot) w p b c := by
  unfold wpY_go
  refine yo_go (d := 0) hd (by omega) H hv ?_
  rw [e]
  intro y_many1 y_pages1 y_styles1 y_styleOf1 y_markOf1 y_words1 y_width1 y_note1 y_status1 H1
  have go : wY_go_34 post w p b c r y_doc y_tracking y_view y_done y_steps y_lines y_columns y_rounds y_known y_many1 y_styleOf1 y_markOf1 y_words1 y_width1 y_note1 y_status1 y_styles1 y_pages1 y_stepKind y_stepA y_stepB y_stepC y_stepOn y_ofParagraph y_firstWord y_wordsOf y_slack y_begin y_needs y_notes y_columnOf y_topOf y_firstLine y_label y_labelWide y_counter y_refWide y_nextWide y_columnLine y_columnLines y_filled y_foot := by
    refine br_f (by rw [hm]; exact fun z => absurd ((nI_eq (b := 20) (by omega) (by omega)).mp z) (by omega)) ?_
    exact ys_go60 h20 hm ht (h _ _ _ _ _ _ _ _ _ H1)
  refine br_f (fun z => hr (Or.inl z)) (br_c (fun z => br_f (fun y => hr (Or.inr ⟨z, y⟩)) go) (fun z => go))
/-- go: kept, the oldest step forgotten -/
theorem ys_go2 {post : Int32 → SY → Prop} {w p b c r : Int32} {a : Nat → Int32} (hd : y_doc = 0) (H : ya_A A y_many y_pages y_styles y_styleOf y_markOf y_words y_width y_note y_status) (hv : dc_V (A 0)) (hv1 : dc_V (A 1)) (e : op_go w p b c y_tracking (A 0) = (r, a)) (hr : ¬ (r < 0 ∨ (w = 8 ∧ r = 0))) (ht : y_tracking = 0 ∨ y_tracking = 1) (hm : y_done = nI 20) (hb : ∀ k, k < 20 → y_stepOn k = 0 ∨ y_stepOn k = 1)
    (h : ∀ y_many1 y_pages1 y_styles1 y_styleOf1 y_markOf1 y_words1 y_width1 y_note1 y_status1, ya_A (ya_s (ya_s A 0 a) 1 (op_go (y_stepKind 0) (y_stepA 0) (y_stepB 0) (y_stepC 0) (y_stepOn 0) (A 1)).2) y_many1 y_pages1 y_styles1 y_styleOf1 y_markOf1 y_words1 y_width1 y_note1 y_status1 →
      post r (0, y_tracking, y_view, (nI 20), (nI 20), y_lines, y_columns, y_rounds, 0, y_many1, y_styleOf1, y_markOf1, y_words1, y_width1, y_note1, y_status1, y_styles1, y_pages1, (upd (cp_b y_stepKind 1 0 19) 19 w), (upd (cp_b y_stepA 1 0 19) 19 p), (upd (cp_b y_stepB 1 0 19) 19 b), (upd (cp_b y_stepC 1 0 19) 19 c), (upd (cp_b y_stepOn 1 0 19) 19 y_tracking), y_ofParagraph, y_firstWord, y_wordsOf, y_slack, y_begin, y_needs, y_notes, y_columnOf, y_topOf, y_firstLine, y_label, y_labelWide, y_counter, y_refWide, y_nextWide, y_columnLine, y_columnLines, y_filled, y_foot)) : wpY_go post (y_doc, y_tracking, y_view, y_done, y_steps, y_lines, y_columns, y_rounds, y_known, y_many, y_styleOf, y_markOf, y_words, y_width, y_note, y_status, y_styles, y_pages, y_stepKind, y_stepA, y_stepB, y_stepC, y_stepOn, y_ofParagraph, y_firstWord, y_wordsOf, y_slack, y_begin, y_needs, y_notes, y_columnOf, y_topOf, y_firstLine, y_label, y_labelWide, y_counter, y_refWide, y_nextWide, y_columnLine, y_columnLines, y_filled, y_foot) w p b c := by
  unfold wpY_go
  refine yo_go (d := 0) hd (by omega) H hv ?_
  rw [e]
  intro y_many1 y_pages1 y_styles1 y_styleOf1 y_markOf1 y_words1 y_width1 y_note1 y_status1 H1
  have go : wY_go_34 post w p b c r y_doc y_tracking y_view y_done y_steps y_lines y_columns y_rounds y_known y_many1 y_styleOf1 y_markOf1 y_words1 y_width1 y_note1 y_status1 y_styles1 y_pages1 y_stepKind y_stepA y_stepB y_stepC y_stepOn y_ofParagraph y_firstWord y_wordsOf y_slack y_begin y_needs y_notes y_columnOf y_topOf y_firstLine y_label y_labelWide y_counter y_refWide y_nextWide y_columnLine y_columnLines y_filled y_foot := by
    refine br_t hm ?_
    refine ys_for (m := 19) (by omega) hm hb H1 (by rw [ya_sn (by omega)]; exact hv1) ?_
    intro y_many2 y_pages2 y_styles2 y_styleOf2 y_markOf2 y_words2 y_width2 y_note2 y_status2 H2
    rw [ya_sn (A := A) (d := 0) (e := 1) (by omega)] at H2
    exact ys_go60 (by omega) rfl ht (h _ _ _ _ _ _ _ _ _ H2)
  refine br_f (fun z => hr (Or.inl z)) (br_c (fun z => br_f (fun y => hr (Or.inr ⟨z, y⟩)) go) (fun z => go))
end
section
theorem yu_all {A : Nat → Nat → Int32} {y_many y_pages y_styles y_styleOf y_markOf y_words y_width y_note y_status : Nat → Int32} (H : ya_A A y_many y_pages y_styles y_styleOf y_markOf y_words y_width y_note y_status) : ya_A (ya_s A 0 (A 1)) (upd y_many 0 (y_many 1)) (cp_b y_pages 3 0 3) (cp_b y_styles 72 0 72) (cp_b y_styleOf 24 0 24) (cp_b y_markOf 24 0 24) (cp_b y_words 24 0 24) (cp_b y_width 384 0 384) (cp_b y_note 384 0 384) (cp_b y_status 384 0 384) := by
  refine ⟨fun e he => ?_, fun e j he hj => ?_, fun e j he hj => ?_, fun e p he hp => ?_, fun e p he hp => ?_, fun e p he hp => ?_, fun e p w he hp hw => ?_, fun e p w he hp hw => ?_, fun e p w he hp hw => ?_⟩
  · by_cases q : e = 0
    · subst q; rw [ya_ss, pk_us]; exact (H.1 1 (by omega))
    · rw [ya_sn q, pk_un q]; exact (H.1 e he)
  · by_cases q : e = 0
    · subst q; rw [ya_ss, cp_in (by omega) (by omega), H.2.1 1 j (by omega) hj]; exact congrArg y_pages (by omega)
    · rw [ya_sn q, cp_out (by omega)]; exact (H.2.1 e j he hj)
  · by_cases q : e = 0
    · subst q; rw [ya_ss, cp_in (by omega) (by omega), H.2.2.1 1 j (by omega) hj]; exact congrArg y_styles (by omega)
    · rw [ya_sn q, cp_out (by omega)]; exact (H.2.2.1 e j he hj)
  · by_cases q : e = 0
    · subst q; rw [ya_ss, cp_in (by omega) (by omega), H.2.2.2.1 1 p (by omega) hp]; exact congrArg y_styleOf (by omega)
    · rw [ya_sn q, cp_out (by omega)]; exact (H.2.2.2.1 e p he hp)
  · by_cases q : e = 0
    · subst q; rw [ya_ss, cp_in (by omega) (by omega), H.2.2.2.2.1 1 p (by omega) hp]; exact congrArg y_markOf (by omega)
    · rw [ya_sn q, cp_out (by omega)]; exact (H.2.2.2.2.1 e p he hp)
  · by_cases q : e = 0
    · subst q; rw [ya_ss, cp_in (by omega) (by omega), H.2.2.2.2.2.1 1 p (by omega) hp]; exact congrArg y_words (by omega)
    · rw [ya_sn q, cp_out (by omega)]; exact (H.2.2.2.2.2.1 e p he hp)
  · by_cases q : e = 0
    · subst q; rw [ya_ss, cp_in (by omega) (by omega), H.2.2.2.2.2.2.1 1 p w (by omega) hp hw]; exact congrArg y_width (by omega)
    · rw [ya_sn q, cp_out (by omega)]; exact (H.2.2.2.2.2.2.1 e p w he hp hw)
  · by_cases q : e = 0
    · subst q; rw [ya_ss, cp_in (by omega) (by omega), H.2.2.2.2.2.2.2.1 1 p w (by omega) hp hw]; exact congrArg y_note (by omega)
    · rw [ya_sn q, cp_out (by omega)]; exact (H.2.2.2.2.2.2.2.1 e p w he hp hw)
  · by_cases q : e = 0
    · subst q; rw [ya_ss, cp_in (by omega) (by omega), H.2.2.2.2.2.2.2.2 1 p w (by omega) hp hw]; exact congrArg y_status (by omega)
    · rw [ya_sn q, cp_out (by omega)]; exact (H.2.2.2.2.2.2.2.2 e p w he hp hw)
variable {y_doc y_tracking y_view y_done y_steps y_lines y_columns y_rounds y_known : Int32} {y_many y_styleOf y_markOf y_words y_width y_note y_status y_styles y_pages y_stepKind y_stepA y_stepB y_stepC y_stepOn y_ofParagraph y_firstWord y_wordsOf y_slack y_begin y_needs y_notes y_columnOf y_topOf y_firstLine y_label y_labelWide y_counter y_refWide y_nextWide y_columnLine y_columnLines y_filled y_foot : Nat → Int32} {A : Nat → Nat → Int32}
theorem ys_replay {post : Int32 → SY → Prop} {m : Nat} {D : Nat → Nat → Int32} (hd : y_doc = 0) (hm : y_done = nI m) (h20 : m ≤ 20) (hD : ∀ j, j < m → D (j + 1) = (op_go (y_stepKind j) (y_stepA j) (y_stepB j) (y_stepC j) (y_stepOn j) (D j)).2) (hv : ∀ j, j ≤ m → dc_V (D j)) : ∀ (n k : Nat) (A : Nat → Nat → Int32) (y_many y_pages y_styles y_styleOf y_markOf y_words y_width y_note y_status : Nat → Int32), k + n = m → ya_A A y_many y_pages y_styles y_styleOf y_markOf y_words y_width y_note y_status → A 0 = D k →
    (∀ y_many1 y_pages1 y_styles1 y_styleOf1 y_markOf1 y_words1 y_width1 y_note1 y_status1, ya_A (ya_s A 0 (D m)) y_many1 y_pages1 y_styles1 y_styleOf1 y_markOf1 y_words1 y_width1 y_note1 y_status1 → post 1 (y_doc, y_tracking, y_view, y_done, y_steps, y_lines, y_columns, y_rounds, y_known, y_many1, y_styleOf1, y_markOf1, y_words1, y_width1, y_note1, y_status1, y_styles1, y_pages1, y_stepKind, y_stepA, y_stepB, y_stepC, y_stepOn, y_ofParagraph, y_firstWord, y_wordsOf, y_slack, y_begin, y_needs, y_notes, y_columnOf, y_topOf, y_firstLine, y_label, y_labelWide, y_counter, y_refWide, y_nextWide, y_columnLine, y_columnLines, y_filled, y_foot)) → wY_step_204 post (n + 1) (nI k) y_doc y_tracking y_view y_done y_steps y_lines y_columns y_rounds y_known y_many y_styleOf y_markOf y_words y_width y_note y_status y_styles y_pages y_stepKind y_stepA y_stepB y_stepC y_stepOn y_ofParagraph y_firstWord y_wordsOf y_slack y_begin y_needs y_notes y_columnOf y_topOf y_firstLine y_label y_labelWide y_counter y_refWide y_nextWide y_columnLine y_columnLines y_filled y_foot
  | 0, k, A, y_many, y_pages, y_styles, y_styleOf, y_markOf, y_words, y_width, y_note, y_status, hk, H, hA, h => by
    obtain rfl : k = m := by omega
    exact br_t (by rw [hm]; exact nI_le (by omega) (by omega)) (h _ _ _ _ _ _ _ _ _ (by rw [← hA, ya_sI]; exact H))
  | n + 1, k, A, y_many, y_pages, y_styles, y_styleOf, y_markOf, y_words, y_width, y_note, y_status, hk, H, hA, h => by
    have j := vp_in_nI (n := k) (N := 20) (by omega) (by omega)
    refine br_f (by rw [hm]; exact nI_ge (by omega) (by omega)) ⟨j, j, j, j, j, ?_⟩
    rw [nI_clamp (by omega)]
    refine yo_go (d := 0) hd (by omega) H (by rw [hA]; exact hv k (by omega)) ?_
    intro y_many1 y_pages1 y_styles1 y_styleOf1 y_markOf1 y_words1 y_width1 y_note1 y_status1 H1
    rw [hA, ← hD k (by omega)] at H1
    refine nm_r (nI_1 k) (ys_replay hd hm h20 hD hv n (k + 1) _ _ _ _ _ _ _ _ _ _ (by omega) H1 ya_ss ?_)
    rw [ya_s2]; exact h
theorem ys_st177 {post : Int32 → SY → Prop} (h : ∃ n, wY_step_204 post n 0 y_doc y_tracking y_view y_done y_steps y_lines y_columns y_rounds y_known y_many y_styleOf y_markOf y_words y_width y_note y_status y_styles (cp_b y_pages 3 0 3) y_stepKind y_stepA y_stepB y_stepC y_stepOn y_ofParagraph y_firstWord y_wordsOf y_slack y_begin y_needs y_notes y_columnOf y_topOf y_firstLine y_label y_labelWide y_counter y_refWide y_nextWide y_columnLine y_columnLines y_filled y_foot) : ∀ n i, i + n = 3 → wY_step_177 post y_doc y_tracking y_view y_done y_steps y_lines y_columns y_rounds y_known (n + 1) (nI i) y_many y_styleOf y_markOf y_words y_width y_note y_status y_styles (cp_b y_pages 3 0 i) y_stepKind y_stepA y_stepB y_stepC y_stepOn y_ofParagraph y_firstWord y_wordsOf y_slack y_begin y_needs y_notes y_columnOf y_topOf y_firstLine y_label y_labelWide y_counter y_refWide y_nextWide y_columnLine y_columnLines y_filled y_foot
  | 0, i, hi => by
    obtain rfl : i = 3 := by omega
    exact br_t (nI_le (a := 3) (b := 3) (by omega) (by omega)) h
  | n + 1, i, hi => by
    have e : (3 : Int32) + nI i = nI (3 + i) := nI_add 3 i
    refine br_f (nI_ge (b := 3) (by omega) (by omega)) ⟨ix_in e (by omega) (by omega), vp_in_nI (by omega) (by omega), nm_r (e' := cp_b y_pages 3 0 (i + 1)) ?_ (nm_r (nI_1 i) (ys_st177 h n (i + 1) (by omega)))⟩
    rw [ix_c e (by omega), nI_clamp (by omega)]
    have z := cp_s (g := y_pages) (s := 3) (t := 0) (n := i) (by omega)
    rw [Nat.zero_add] at z; exact z
theorem ys_st148 {post : Int32 → SY → Prop} (h : ∃ n, wY_step_204 post n 0 y_doc y_tracking y_view y_done y_steps y_lines y_columns y_rounds y_known y_many y_styleOf y_markOf y_words y_width y_note y_status (cp_b y_styles 72 0 72) (cp_b y_pages 3 0 3) y_stepKind y_stepA y_stepB y_stepC y_stepOn y_ofParagraph y_firstWord y_wordsOf y_slack y_begin y_needs y_notes y_columnOf y_topOf y_firstLine y_label y_labelWide y_counter y_refWide y_nextWide y_columnLine y_columnLines y_filled y_foot) : ∀ n i, i + n = 72 → wY_step_148 post y_doc y_tracking y_view y_done y_steps y_lines y_columns y_rounds y_known (n + 1) (nI i) y_many y_styleOf y_markOf y_words y_width y_note y_status (cp_b y_styles 72 0 i) y_pages y_stepKind y_stepA y_stepB y_stepC y_stepOn y_ofParagraph y_firstWord y_wordsOf y_slack y_begin y_needs y_notes y_columnOf y_topOf y_firstLine y_label y_labelWide y_counter y_refWide y_nextWide y_columnLine y_columnLines y_filled y_foot
  | 0, i, hi => by
    obtain rfl : i = 72 := by omega
    refine br_t (nI_le (a := 72) (b := 72) (by omega) (by omega)) ⟨4, ?_⟩
    have L := ys_st177 h 3 0 rfl
    rw [cp_0] at L
    exact L
  | n + 1, i, hi => by
    have e : (72 : Int32) + nI i = nI (72 + i) := nI_add 72 i
    refine br_f (nI_ge (b := 72) (by omega) (by omega)) ⟨ix_in e (by omega) (by omega), vp_in_nI (by omega) (by omega), nm_r (e' := cp_b y_styles 72 0 (i + 1)) ?_ (nm_r (nI_1 i) (ys_st148 h n (i + 1) (by omega)))⟩
    rw [ix_c e (by omega), nI_clamp (by omega)]
    have z := cp_s (g := y_styles) (s := 72) (t := 0) (n := i) (by omega)
    rw [Nat.zero_add] at z; exact z
theorem ys_st123 {post : Int32 → SY → Prop} (h : ∃ n, wY_step_204 post n 0 y_doc y_tracking y_view y_done y_steps y_lines y_columns y_rounds y_known y_many y_styleOf y_markOf y_words (cp_b y_width 384 0 384) (cp_b y_note 384 0 384) (cp_b y_status 384 0 384) (cp_b y_styles 72 0 72) (cp_b y_pages 3 0 3) y_stepKind y_stepA y_stepB y_stepC y_stepOn y_ofParagraph y_firstWord y_wordsOf y_slack y_begin y_needs y_notes y_columnOf y_topOf y_firstLine y_label y_labelWide y_counter y_refWide y_nextWide y_columnLine y_columnLines y_filled y_foot) : ∀ n i, i + n = 384 → wY_step_123 post (n + 1) (nI i) y_doc y_tracking y_view y_done y_steps y_lines y_columns y_rounds y_known y_many y_styleOf y_markOf y_words (cp_b y_width 384 0 i) (cp_b y_note 384 0 i) (cp_b y_status 384 0 i) y_styles y_pages y_stepKind y_stepA y_stepB y_stepC y_stepOn y_ofParagraph y_firstWord y_wordsOf y_slack y_begin y_needs y_notes y_columnOf y_topOf y_firstLine y_label y_labelWide y_counter y_refWide y_nextWide y_columnLine y_columnLines y_filled y_foot
  | 0, i, hi => by
    obtain rfl : i = 384 := by omega
    refine br_t (nI_le (a := 384) (b := 384) (by omega) (by omega)) ⟨73, ?_⟩
    have L := ys_st148 h 72 0 rfl
    rw [cp_0] at L
    exact L
  | n + 1, i, hi => by
    refine br_f (nI_ge (b := 384) (by omega) (by omega)) (ys_cw (f := 384 + i) (t := i) (nI_add 384 i) rfl (by omega) (by omega) (nm_r (nI_1 i) ?_))
    have cs : ∀ g : Nat → Int32, upd (cp_b g 384 0 i) i (cp_b g 384 0 i (384 + i)) = cp_b g 384 0 (i + 1) := fun g => by
      have z := cp_s (g := g) (s := 384) (t := 0) (n := i) (by omega)
      rw [Nat.zero_add] at z; exact z
    rw [cs, cs, cs]
    exact ys_st123 h n (i + 1) (by omega)
theorem ys_st64 {post : Int32 → SY → Prop} (h : ∃ n, wY_step_204 post n 0 y_doc y_tracking y_view y_done y_steps y_lines y_columns y_rounds y_known y_many (cp_b y_styleOf 24 0 24) (cp_b y_markOf 24 0 24) (cp_b y_words 24 0 24) (cp_b y_width 384 0 384) (cp_b y_note 384 0 384) (cp_b y_status 384 0 384) (cp_b y_styles 72 0 72) (cp_b y_pages 3 0 3) y_stepKind y_stepA y_stepB y_stepC y_stepOn y_ofParagraph y_firstWord y_wordsOf y_slack y_begin y_needs y_notes y_columnOf y_topOf y_firstLine y_label y_labelWide y_counter y_refWide y_nextWide y_columnLine y_columnLines y_filled y_foot) : ∀ n i, i + n = 24 → wY_step_64 post y_doc y_tracking y_view y_done y_steps y_lines y_columns y_rounds y_known (n + 1) (nI i) y_many (cp_b y_styleOf 24 0 i) (cp_b y_markOf 24 0 i) (cp_b y_words 24 0 i) y_width y_note y_status y_styles y_pages y_stepKind y_stepA y_stepB y_stepC y_stepOn y_ofParagraph y_firstWord y_wordsOf y_slack y_begin y_needs y_notes y_columnOf y_topOf y_firstLine y_label y_labelWide y_counter y_refWide y_nextWide y_columnLine y_columnLines y_filled y_foot
  | 0, i, hi => by
    obtain rfl : i = 24 := by omega
    refine br_t (nI_le (a := 24) (b := 24) (by omega) (by omega)) ⟨385, ?_⟩
    have L := ys_st123 h 384 0 rfl
    rw [cp_0, cp_0, cp_0] at L
    exact L
  | n + 1, i, hi => by
    have e : (24 : Int32) + nI i = nI (24 + i) := nI_add 24 i
    have j0 := vp_in_nI (n := i) (N := 48) (by omega) (by omega)
    have j1 := ix_in (N := 48) e (by omega) (by omega)
    have c1 := ix_c e (by omega)
    have c0 := nI_clamp (n := i) (by omega)
    have cs : ∀ g : Nat → Int32, upd (cp_b g 24 0 i) i (cp_b g 24 0 i (24 + i)) = cp_b g 24 0 (i + 1) := fun g => by
      have z := cp_s (g := g) (s := 24) (t := 0) (n := i) (by omega)
      rw [Nat.zero_add] at z; exact z
    refine br_f (nI_ge (b := 24) (by omega) (by omega)) ⟨j1, j0, nm_r (by rw [c0, c1, cs]) ⟨j1, j0, nm_r (by rw [c0, c1, cs]) ⟨j1, j0, nm_r (by rw [c0, c1, cs]) (nm_r (nI_1 i) ?_)⟩⟩⟩
    exact ys_st64 h n (i + 1) (by omega)
theorem ys_st46 {post : Int32 → SY → Prop} {m : Nat} {z0 z1 : Int32} {D : Nat → Nat → Int32} (hd : y_doc = 0) (hm : z1 + z0 = nI m) (h20 : m ≤ 20) (H : ya_A A y_many y_pages y_styles y_styleOf y_markOf y_words y_width y_note y_status) (hA : A 1 = D 0)
    (hD : ∀ j, j < m → D (j + 1) = (op_go (y_stepKind j) (y_stepA j) (y_stepB j) (y_stepC j) (y_stepOn j) (D j)).2) (hv : ∀ j, j ≤ m → dc_V (D j))
    (h : ∀ y_many1 y_pages1 y_styles1 y_styleOf1 y_markOf1 y_words1 y_width1 y_note1 y_status1, ya_A (ya_s A 0 (D m)) y_many1 y_pages1 y_styles1 y_styleOf1 y_markOf1 y_words1 y_width1 y_note1 y_status1 → post 1 (y_doc, y_tracking, y_view, (nI m), y_steps, y_lines, y_columns, y_rounds, y_known, y_many1, y_styleOf1, y_markOf1, y_words1, y_width1, y_note1, y_status1, y_styles1, y_pages1, y_stepKind, y_stepA, y_stepB, y_stepC, y_stepOn, y_ofParagraph, y_firstWord, y_wordsOf, y_slack, y_begin, y_needs, y_notes, y_columnOf, y_topOf, y_firstLine, y_label, y_labelWide, y_counter, y_refWide, y_nextWide, y_columnLine, y_columnLines, y_filled, y_foot)) : wY_step_46 post z0 z1 y_doc y_tracking y_view y_done y_steps y_lines y_columns y_rounds y_known y_many y_styleOf y_markOf y_words y_width y_note y_status y_styles y_pages y_stepKind y_stepA y_stepB y_stepC y_stepOn y_ofParagraph y_firstWord y_wordsOf y_slack y_begin y_needs y_notes y_columnOf y_topOf y_firstLine y_label y_labelWide y_counter y_refWide y_nextWide y_columnLine y_columnLines y_filled y_foot := by
  refine nm_r hm (nm_e ⟨25, ?_⟩)
  have H1 := yu_all H
  have L := ys_st64 (post := post) (y_many := upd y_many 0 (y_many 1)) (y_styleOf := y_styleOf) (y_markOf := y_markOf) (y_words := y_words) (y_done := nI m) ⟨m + 1, ys_replay hd rfl h20 hD hv m 0 _ _ _ _ _ _ _ _ _ _ (by omega) H1 (by rw [ya_ss]; exact hA) (by rw [ya_s2]; exact h)⟩ 24 0 rfl
  rw [cp_0, cp_0, cp_0] at L
  exact L
theorem yo_step {post : Int32 → SY → Prop} {b g : Nat} {bk : Int32} {D : Nat → Nat → Int32} (hd : y_doc = 0) (hb : y_done = nI b) (hg : y_steps = nI (b + g)) (h20 : b + g ≤ 20) (H : ya_A A y_many y_pages y_styles y_styleOf y_markOf y_words y_width y_note y_status) (hA : A 1 = D 0)
    (hD : ∀ j, j < b + g → D (j + 1) = (op_go (y_stepKind j) (y_stepA j) (y_stepB j) (y_stepC j) (y_stepOn j) (D j)).2) (hv : ∀ j, j ≤ b + g → dc_V (D j))
    (h0 : (bk = 0 → g = 0) → (¬ bk = 0 → b = 0) → post 0 (y_doc, y_tracking, y_view, y_done, y_steps, y_lines, y_columns, y_rounds, y_known, y_many, y_styleOf, y_markOf, y_words, y_width, y_note, y_status, y_styles, y_pages, y_stepKind, y_stepA, y_stepB, y_stepC, y_stepOn, y_ofParagraph, y_firstWord, y_wordsOf, y_slack, y_begin, y_needs, y_notes, y_columnOf, y_topOf, y_firstLine, y_label, y_labelWide, y_counter, y_refWide, y_nextWide, y_columnLine, y_columnLines, y_filled, y_foot))
    (h1 : bk = 0 → 0 < g → ∀ y_many1 y_pages1 y_styles1 y_styleOf1 y_markOf1 y_words1 y_width1 y_note1 y_status1, ya_A (ya_s A 0 (D (b + 1))) y_many1 y_pages1 y_styles1 y_styleOf1 y_markOf1 y_words1 y_width1 y_note1 y_status1 → post 1 (y_doc, y_tracking, y_view, (nI (b + 1)), y_steps, y_lines, y_columns, y_rounds, 0, y_many1, y_styleOf1, y_markOf1, y_words1, y_width1, y_note1, y_status1, y_styles1, y_pages1, y_stepKind, y_stepA, y_stepB, y_stepC, y_stepOn, y_ofParagraph, y_firstWord, y_wordsOf, y_slack, y_begin, y_needs, y_notes, y_columnOf, y_topOf, y_firstLine, y_label, y_labelWide, y_counter, y_refWide, y_nextWide, y_columnLine, y_columnLines, y_filled, y_foot))
    (h2 : ¬ bk = 0 → 0 < b → ∀ y_many1 y_pages1 y_styles1 y_styleOf1 y_markOf1 y_words1 y_width1 y_note1 y_status1, ya_A (ya_s A 0 (D (b - 1))) y_many1 y_pages1 y_styles1 y_styleOf1 y_markOf1 y_words1 y_width1 y_note1 y_status1 → post 1 (y_doc, y_tracking, y_view, (nI (b - 1)), y_steps, y_lines, y_columns, y_rounds, 0, y_many1, y_styleOf1, y_markOf1, y_words1, y_width1, y_note1, y_status1, y_styles1, y_pages1, y_stepKind, y_stepA, y_stepB, y_stepC, y_stepOn, y_ofParagraph, y_firstWord, y_wordsOf, y_slack, y_begin, y_needs, y_notes, y_columnOf, y_topOf, y_firstLine, y_label, y_labelWide, y_counter, y_refWide, y_nextWide, y_columnLine, y_columnLines, y_filled, y_foot)) : wpY_step post (y_doc, y_tracking, y_view, y_done, y_steps, y_lines, y_columns, y_rounds, y_known, y_many, y_styleOf, y_markOf, y_words, y_width, y_note, y_status, y_styles, y_pages, y_stepKind, y_stepA, y_stepB, y_stepC, y_stepOn, y_ofParagraph, y_firstWord, y_wordsOf, y_slack, y_begin, y_needs, y_notes, y_columnOf, y_topOf, y_firstLine, y_label, y_labelWide, y_counter, y_refWide, y_nextWide, y_columnLine, y_columnLines, y_filled, y_foot) bk := by
  refine br_c (fun z => pk_eq b (b + g) (fun y => h0 (fun _ => by omega) (fun q => absurd z q)) (fun y => br_t z ?_) hb hg) (fun z => pk_eq b 0 (fun y => h0 (fun q => absurd q z) (fun _ => y)) (fun y => br_f z ?_) hb rfl)
  · exact ys_st46 hd (by rw [hb, nI_1]) (by omega) H hA (fun j hj => hD j (by omega)) (fun j hj => hv j (by omega)) (h1 z (by omega))
  · refine ys_st46 (m := b - 1) hd ?_ (by omega) H hA (fun j hj => hD j (by omega)) (fun j hj => hv j (by omega)) (h2 z (by omega))
    obtain ⟨k, rfl⟩ : ∃ k, b = k + 1 := ⟨b - 1, by omega⟩
    rw [hb]; exact pk_m1 k
end
section
/-- is a word shown; how wide it is; a column's width; digits -/
def la_sh (a : Nat → Int32) (vw : Int32) (p w : Nat) : Bool :=
  if vw = 0 then true else if vw = 1 then !decide (a (81 + 51 * p + 3 * w) = 2) else !decide (a (81 + 51 * p + 3 * w) = 1)
def la_wd (a rw : Nat → Int32) (p w : Nat) : Int32 := if 0 ≤ a (79 + 51 * p + 3 * w) then a (79 + 51 * p + 3 * w) else rw ((-1) - a (79 + 51 * p + 3 * w)).toNatClampNeg
def la_cw (a : Nat → Int32) : Int32 := if a 3 = 1 then a 1 else (a 1 - 2) / 2
def la_dg (x : Int32) : Int32 := if 10 ≤ x then (if 100 ≤ x then 3 else 2) else 1
/-- counters, labels -/
def la_ct (a : Nat → Int32) : Nat → Int32 × Int32 × Int32
  | 0 => (0, 0, 0)
  | p + 1 => if dc_v a p 7 = 0 then la_ct a p else
      ((la_ct a p).1 + (if dc_v a p 7 = 1 then 1 else 0), (if dc_v a p 7 = 1 then 0 else if dc_v a p 7 = 2 then (la_ct a p).2.1 + 1 else (la_ct a p).2.1), (if dc_v a p 7 = 3 then (la_ct a p).2.2 + 1 else 0))
def la_lb (a : Nat → Int32) (p : Nat) : Int32 := if dc_v a p 7 = 0 then 0 else (la_ct a (p + 1)).1 * 10000 + (la_ct a (p + 1)).2.1 * 100 + (la_ct a (p + 1)).2.2
def la_lw (a : Nat → Int32) (p : Nat) : Int32 := if dc_v a p 7 = 0 then 0 else
  (la_dg (la_ct a (p + 1)).1 + 1 + (if 2 ≤ dc_v a p 7 then la_dg (la_ct a (p + 1)).2.1 + 1 else 0)) + (if 3 ≤ dc_v a p 7 then la_dg (la_ct a (p + 1)).2.2 + 1 else 0)
/-- what a line takes: words from w on -/
def la_us (a rw : Nat → Int32) (p w t : Nat) (u : Int32) : Int32 := if t = 0 then la_wd a rw p w else u + 1 + la_wd a rw p w
def la_tl (a : Nat → Int32) (vw : Int32) (rw : Nat → Int32) (p : Nat) (rm : Int32) : Nat → Nat → Nat → Nat → Int32 → Int32 → Nat × Nat × Nat × Int32 × Int32
  | 0, w, f, t, u, n => (w, f, t, u, n)
  | d + 1, w, f, t, u, n => if la_sh a vw p w = true then
      (if 0 < t ∧ rm < la_us a rw p w t u then (w, f, t, u, n) else la_tl a vw rw p rm d (w + 1) (if t = 0 then w else f) (t + 1) (la_us a rw p w t u) (n + a (80 + 51 * p + 3 * w)))
      else la_tl a vw rw p rm d (w + 1) f t u n
def la_cn (a : Nat → Int32) (vw : Int32) (p w : Nat) : Nat → Nat
  | 0 => 0
  | m + 1 => la_cn a vw p w m + if la_sh a vw p (w + m) = true then 1 else 0
section
variable {a rw : Nat → Int32} {vw : Int32} {p : Nat} {rm : Int32}
theorem la_tlh {d w f t : Nat} {u n : Int32} (hs : ¬ la_sh a vw p w = true) : la_tl a vw rw p rm (d + 1) w f t u n = la_tl a vw rw p rm d (w + 1) f t u n := if_neg hs
theorem la_tls {d w f t : Nat} {u n : Int32} (hs : la_sh a vw p w = true) (hc : 0 < t ∧ rm < la_us a rw p w t u) : la_tl a vw rw p rm (d + 1) w f t u n = (w, f, t, u, n) := (if_pos hs).trans (if_pos hc)
theorem la_tlt {d w f t : Nat} {u n : Int32} (hs : la_sh a vw p w = true) (hc : ¬ (0 < t ∧ rm < la_us a rw p w t u)) :
    la_tl a vw rw p rm (d + 1) w f t u n = la_tl a vw rw p rm d (w + 1) (if t = 0 then w else f) (t + 1) (la_us a rw p w t u) (n + a (80 + 51 * p + 3 * w)) := (if_pos hs).trans (if_neg hc)
theorem la_cn1 {w : Nat} : ∀ {m : Nat}, la_cn a vw p w (m + 1) = (if la_sh a vw p w = true then 1 else 0) + la_cn a vw p (w + 1) m
  | 0 => by show 0 + _ = _ + 0; rw [Nat.zero_add, Nat.add_zero]; rfl
  | m + 1 => by
    show la_cn a vw p w (m + 1) + _ = _ + (la_cn a vw p (w + 1) m + _)
    rw [la_cn1 (m := m), show w + (m + 1) = w + 1 + m from by omega]; omega
theorem la_cnA {w m : Nat} : ∀ {k : Nat}, la_cn a vw p w (m + k) = la_cn a vw p w m + la_cn a vw p (w + m) k
  | 0 => rfl
  | k + 1 => by
    show la_cn a vw p w (m + k) + (if la_sh a vw p (w + (m + k)) = true then 1 else 0) = la_cn a vw p w m + (la_cn a vw p (w + m) k + (if la_sh a vw p (w + m + k) = true then 1 else 0))
    rw [la_cnA (k := k), show w + (m + k) = w + m + k from by omega]; omega
theorem la_cnL {w : Nat} : ∀ {m : Nat}, la_cn a vw p w m ≤ m
  | 0 => Nat.le_refl _
  | m + 1 => by
    have := la_cnL (w := w) (m := m)
    show la_cn a vw p w m + _ ≤ m + 1
    split <;> omega
theorem la_cnZ {w m : Nat} (h : la_cn a vw p w m = 0) : ∀ v, w ≤ v → v < w + m → ¬ la_sh a vw p v = true := by
  intro v hv hm hs
  have e := la_cnA (a := a) (vw := vw) (p := p) (w := w) (m := v - w) (k := 1 + (w + m - v - 1))
  rw [show v - w + (1 + (w + m - v - 1)) = m from by omega, h, la_cnA (m := 1)] at e
  have e2 : la_cn a vw p (w + (v - w)) 1 = 1 := by
    show 0 + (if la_sh a vw p (w + (v - w) + 0) = true then 1 else 0) = 1
    rw [show w + (v - w) + 0 = v from by omega, if_pos hs]
  omega
theorem la_cnN {w : Nat} : ∀ {m : Nat}, (∀ v, w ≤ v → v < w + m → ¬ la_sh a vw p v = true) → la_cn a vw p w m = 0
  | 0, _ => rfl
  | m + 1, h => by
    show la_cn a vw p w m + _ = 0
    rw [la_cnN (m := m) (fun v h1 h2 => h v h1 (by omega)), if_neg (h (w + m) (by omega) (by omega))]
/-- where it ends; how many it takes -/
theorem la_tl1 : ∀ (d w f t : Nat) (u n : Int32), w ≤ (la_tl a vw rw p rm d w f t u n).1 ∧ (la_tl a vw rw p rm d w f t u n).1 ≤ w + d
    ∧ ((la_tl a vw rw p rm d w f t u n).1 < w + d → la_sh a vw p (la_tl a vw rw p rm d w f t u n).1 = true ∧ 0 < (la_tl a vw rw p rm d w f t u n).2.2.1)
    ∧ (la_tl a vw rw p rm d w f t u n).2.2.1 = t + la_cn a vw p w ((la_tl a vw rw p rm d w f t u n).1 - w)
  | 0, w, f, t, u, n => by
    show w ≤ w ∧ w ≤ w + 0 ∧ (w < w + 0 → _) ∧ t = t + la_cn a vw p w (w - w)
    rw [Nat.sub_self]
    exact ⟨Nat.le_refl _, Nat.le_refl _, fun h => absurd h (by omega), rfl⟩
  | d + 1, w, f, t, u, n => by
    by_cases hs : la_sh a vw p w = true
    · by_cases hc : 0 < t ∧ rm < la_us a rw p w t u
      · rw [la_tls hs hc]
        show w ≤ w ∧ w ≤ w + (d + 1) ∧ (w < w + (d + 1) → la_sh a vw p w = true ∧ 0 < t) ∧ t = t + la_cn a vw p w (w - w)
        rw [Nat.sub_self]
        exact ⟨Nat.le_refl _, by omega, fun _ => ⟨hs, hc.1⟩, rfl⟩
      · rw [la_tlt hs hc]
        obtain ⟨h1, h2, h3, h4⟩ := la_tl1 d (w + 1) (if t = 0 then w else f) (t + 1) (la_us a rw p w t u) (n + a (80 + 51 * p + 3 * w))
        generalize la_tl a vw rw p rm d (w + 1) (if t = 0 then w else f) (t + 1) (la_us a rw p w t u) (n + a (80 + 51 * p + 3 * w)) = r at *
        refine ⟨by omega, by omega, fun h => h3 (by omega), ?_⟩
        rw [h4, show r.1 - w = r.1 - (w + 1) + 1 from by omega, la_cn1, if_pos hs]; omega
    · rw [la_tlh hs]
      obtain ⟨h1, h2, h3, h4⟩ := la_tl1 d (w + 1) f t u n
      generalize la_tl a vw rw p rm d (w + 1) f t u n = r at *
      refine ⟨by omega, by omega, fun h => h3 (by omega), ?_⟩
      rw [h4, show r.1 - w = r.1 - (w + 1) + 1 from by omega, la_cn1, if_neg hs]; omega
theorem la_tl5 {d w f : Nat} {u n : Int32} : w < (la_tl a vw rw p rm (d + 1) w f 0 u n).1 := by
  by_cases hs : la_sh a vw p w = true
  · rw [la_tlt hs (by omega)]; have := (la_tl1 (a := a) (rw := rw) (vw := vw) (p := p) (rm := rm) d (w + 1) (if 0 = 0 then w else f) (0 + 1) (la_us a rw p w 0 u) (n + a (80 + 51 * p + 3 * w))).1; omega
  · rw [la_tlh hs]; have := (la_tl1 (a := a) (rw := rw) (vw := vw) (p := p) (rm := rm) d (w + 1) f 0 u n).1; omega
/-- its first word -/
theorem la_tlf : ∀ (d w f t : Nat) (u n : Int32), 0 < t → (la_tl a vw rw p rm d w f t u n).2.1 = f
  | 0, w, f, t, u, n, _ => rfl
  | d + 1, w, f, t, u, n, h => by
    by_cases hs : la_sh a vw p w = true
    · by_cases hc : 0 < t ∧ rm < la_us a rw p w t u
      · rw [la_tls hs hc]
      · rw [la_tlt hs hc, la_tlf d (w + 1) _ (t + 1) _ _ (by omega), if_neg (by omega)]
    · rw [la_tlh hs]; exact la_tlf d (w + 1) f t u n h
theorem la_tlF : ∀ (d w f : Nat) (u n : Int32), ((la_tl a vw rw p rm d w f 0 u n).2.2.1 = 0 ∧ (la_tl a vw rw p rm d w f 0 u n).2.1 = f)
    ∨ (0 < (la_tl a vw rw p rm d w f 0 u n).2.2.1 ∧ w ≤ (la_tl a vw rw p rm d w f 0 u n).2.1 ∧ (la_tl a vw rw p rm d w f 0 u n).2.1 < (la_tl a vw rw p rm d w f 0 u n).1 ∧ ∀ v, w ≤ v → v < (la_tl a vw rw p rm d w f 0 u n).2.1 → ¬ la_sh a vw p v = true)
  | 0, w, f, u, n => Or.inl ⟨rfl, rfl⟩
  | d + 1, w, f, u, n => by
    by_cases hs : la_sh a vw p w = true
    · right
      rw [la_tlt hs (by omega)]
      have e := la_tlf (a := a) (rw := rw) (vw := vw) (p := p) (rm := rm) d (w + 1) (if 0 = 0 then w else f) (0 + 1) (la_us a rw p w 0 u) (n + a (80 + 51 * p + 3 * w)) (by omega)
      obtain ⟨h1, h2, h3, h4⟩ := la_tl1 (a := a) (rw := rw) (vw := vw) (p := p) (rm := rm) d (w + 1) (if 0 = 0 then w else f) (0 + 1) (la_us a rw p w 0 u) (n + a (80 + 51 * p + 3 * w))
      rw [if_pos rfl] at e h1 h2 h3 h4 ⊢
      refine ⟨by omega, by omega, by omega, fun v h5 h6 => absurd h6 (by omega)⟩
    · rw [la_tlh hs]
      rcases la_tlF d (w + 1) f u n with h | ⟨h1, h2, h3, h4⟩
      · exact Or.inl h
      · refine Or.inr ⟨h1, by omega, h3, fun v h5 h6 => ?_⟩
        by_cases e : v = w
        · subst e; exact hs
        · exact h4 v (by omega) h6
/-- the notes' heights -/
theorem la_tln (hv : dc_V a) (hp : p < 24) : ∀ (d w f t : Nat) (u n : Int32), w + d ≤ dc_w a p → (∃ g, n = nI g ∧ g ≤ 3 * t) → ∃ g, (la_tl a vw rw p rm d w f t u n).2.2.2.2 = nI g ∧ g ≤ 3 * (la_tl a vw rw p rm d w f t u n).2.2.1
  | 0, w, f, t, u, n, _, h => h
  | d + 1, w, f, t, u, n, hw, h => by
    by_cases hs : la_sh a vw p w = true
    · by_cases hc : 0 < t ∧ rm < la_us a rw p w t u
      · rw [la_tls hs hc]; exact h
      · rw [la_tlt hs hc]
        refine la_tln hv hp d (w + 1) _ (t + 1) _ _ (by omega) ?_
        obtain ⟨g, rfl, hg⟩ := h
        obtain ⟨e, h3⟩ := (dc_Vo hv hp (w := w) (by omega)).2.1
        rw [e, nI_add]
        exact ⟨_, rfl, by omega⟩
    · rw [la_tlh hs]
      exact la_tln hv hp d (w + 1) f t u n (by omega) h
end
end
section
/-- line k of paragraph p: where it begins, its room, what it takes, where the lines begin, how many there are -/
def la_l0 (a : Nat → Int32) (p k : Nat) : Int32 := if k = 0 then dc_v a p 0 + (dc_v a p 2 + la_lw a p) else dc_v a p 0
def la_rm (a : Nat → Int32) (p k : Nat) : Int32 := if 1 ≤ la_cw a - dc_v a p 1 - la_l0 a p k then la_cw a - dc_v a p 1 - la_l0 a p k else 1
def la_fr (a : Nat → Int32) (vw : Int32) (rw : Nat → Int32) (p : Nat) : Nat → Nat
  | 0 => 0
  | k + 1 => (la_tl a vw rw p (la_rm a p k) (dc_w a p - la_fr a vw rw p k) (la_fr a vw rw p k) (dc_w a p) 0 0 0).1
def la_L (a : Nat → Int32) (vw : Int32) (rw : Nat → Int32) (p k : Nat) : Nat × Nat × Nat × Int32 × Int32 :=
  la_tl a vw rw p (la_rm a p k) (dc_w a p - la_fr a vw rw p k) (la_fr a vw rw p k) (dc_w a p) 0 0 0
/-- its first word, how many words, slack, notes -/
def la_f (a : Nat → Int32) (vw : Int32) (rw : Nat → Int32) (p k : Nat) : Nat := (la_L a vw rw p k).2.1
def la_t (a : Nat → Int32) (vw : Int32) (rw : Nat → Int32) (p k : Nat) : Nat := (la_L a vw rw p k).2.2.1
def la_sl (a : Nat → Int32) (vw : Int32) (rw : Nat → Int32) (p k : Nat) : Int32 := if (la_L a vw rw p k).2.2.2.1 ≤ la_rm a p k then la_rm a p k - (la_L a vw rw p k).2.2.2.1 else 0
def la_no (a : Nat → Int32) (vw : Int32) (rw : Nat → Int32) (p k : Nat) : Int32 := (la_L a vw rw p k).2.2.2.2
def la_nF (a : Nat → Int32) (vw : Int32) (rw : Nat → Int32) (p : Nat) : Nat → Nat → Nat
  | 0, k => k
  | d + 1, k => if la_fr a vw rw p k < dc_w a p then la_nF a vw rw p d (k + 1) else k
def la_nl (a : Nat → Int32) (vw : Int32) (rw : Nat → Int32) (p : Nat) : Nat := la_nF a vw rw p 15 1
section
variable {a rw : Nat → Int32} {vw : Int32} {p : Nat}
theorem la_frS {k : Nat} : la_fr a vw rw p (k + 1) = (la_L a vw rw p k).1 := rfl
theorem la_frW : ∀ (k : Nat), la_fr a vw rw p k ≤ dc_w a p
  | 0 => Nat.zero_le _
  | k + 1 => by
    have h := la_frW k
    have := (la_tl1 (a := a) (rw := rw) (vw := vw) (p := p) (rm := la_rm a p k) (dc_w a p - la_fr a vw rw p k) (la_fr a vw rw p k) (dc_w a p) 0 0 0).2.1
    show (la_tl a vw rw p (la_rm a p k) (dc_w a p - la_fr a vw rw p k) (la_fr a vw rw p k) (dc_w a p) 0 0 0).1 ≤ dc_w a p
    omega
theorem la_frM (k : Nat) : la_fr a vw rw p k ≤ la_fr a vw rw p (k + 1) :=
  (la_tl1 (a := a) (rw := rw) (vw := vw) (p := p) (rm := la_rm a p k) (dc_w a p - la_fr a vw rw p k) (la_fr a vw rw p k) (dc_w a p) 0 0 0).1
theorem la_frMM (j : Nat) : ∀ (m : Nat), la_fr a vw rw p j ≤ la_fr a vw rw p (j + m)
  | 0 => Nat.le_refl _
  | m + 1 => Nat.le_trans (la_frMM j m) (la_frM (j + m))
theorem la_frm {j k : Nat} (h : j ≤ k) : la_fr a vw rw p j ≤ la_fr a vw rw p k := by
  obtain ⟨m, rfl⟩ : ∃ m, k = j + m := ⟨k - j, by omega⟩
  exact la_frMM j m
theorem la_frP {k : Nat} (h : la_fr a vw rw p k < dc_w a p) : la_fr a vw rw p k < la_fr a vw rw p (k + 1) := by
  obtain ⟨d, hd⟩ : ∃ d, dc_w a p - la_fr a vw rw p k = d + 1 := ⟨dc_w a p - la_fr a vw rw p k - 1, by omega⟩
  rw [la_frS]; unfold la_L; rw [hd]; exact la_tl5
theorem la_frB : ∀ (k : Nat), k ≤ la_fr a vw rw p k ∨ la_fr a vw rw p k = dc_w a p
  | 0 => Or.inl (Nat.zero_le _)
  | k + 1 => by
    have hw := la_frW (a := a) (rw := rw) (vw := vw) (p := p) k
    have hw1 := la_frW (a := a) (rw := rw) (vw := vw) (p := p) (k + 1)
    have hm := la_frM (a := a) (rw := rw) (vw := vw) (p := p) k
    rcases Nat.lt_or_ge (la_fr a vw rw p k) (dc_w a p) with h | h
    · have := la_frP h
      rcases la_frB k with q | q <;> omega
    · right; omega
theorem la_frH {k : Nat} (h : la_fr a vw rw p (k + 1) < dc_w a p) : la_sh a vw p (la_fr a vw rw p (k + 1)) = true := by
  have hw := la_frW (a := a) (rw := rw) (vw := vw) (p := p) k
  exact ((la_tl1 (a := a) (rw := rw) (vw := vw) (p := p) (rm := la_rm a p k) (dc_w a p - la_fr a vw rw p k) (la_fr a vw rw p k) (dc_w a p) 0 0 0).2.2.1 (by
    have : (la_tl a vw rw p (la_rm a p k) (dc_w a p - la_fr a vw rw p k) (la_fr a vw rw p k) (dc_w a p) 0 0 0).1 < dc_w a p := h
    omega)).1
theorem la_tC {k : Nat} : la_t a vw rw p k = la_cn a vw p (la_fr a vw rw p k) (la_fr a vw rw p (k + 1) - la_fr a vw rw p k) := by
  have h := (la_tl1 (a := a) (rw := rw) (vw := vw) (p := p) (rm := la_rm a p k) (dc_w a p - la_fr a vw rw p k) (la_fr a vw rw p k) (dc_w a p) 0 0 0).2.2.2
  rw [Nat.zero_add] at h; exact h
theorem la_tB {k : Nat} (hw : dc_w a p ≤ 16) : la_t a vw rw p k ≤ 16 := by
  have h1 := la_frW (a := a) (rw := rw) (vw := vw) (p := p) (k + 1)
  rw [la_tC]; have := la_cnL (a := a) (vw := vw) (p := p) (w := la_fr a vw rw p k) (m := la_fr a vw rw p (k + 1) - la_fr a vw rw p k); omega
theorem la_noB (hv : dc_V a) (hp : p < 24) {k : Nat} : ∃ g, la_no a vw rw p k = nI g ∧ g ≤ 48 := by
  have hw := la_frW (a := a) (rw := rw) (vw := vw) (p := p) k
  obtain ⟨g, h1, h2⟩ := la_tln (vw := vw) (rw := rw) (rm := la_rm a p k) hv hp (dc_w a p - la_fr a vw rw p k) (la_fr a vw rw p k) (dc_w a p) 0 0 0 (by omega) ⟨0, rfl, by omega⟩
  have := la_tB (a := a) (rw := rw) (vw := vw) (p := p) (k := k) (dc_Vw hv hp).2
  exact ⟨g, h1, by unfold la_t la_L at this; omega⟩
/-- the first word of a line -/
theorem la_fC {k : Nat} : (la_t a vw rw p k = 0 ∧ la_f a vw rw p k = dc_w a p) ∨ (0 < la_t a vw rw p k ∧ la_fr a vw rw p k ≤ la_f a vw rw p k ∧ la_f a vw rw p k < la_fr a vw rw p (k + 1) ∧ ∀ v, la_fr a vw rw p k ≤ v → v < la_f a vw rw p k → ¬ la_sh a vw p v = true) :=
  la_tlF (a := a) (rw := rw) (vw := vw) (p := p) (rm := la_rm a p k) (dc_w a p - la_fr a vw rw p k) (la_fr a vw rw p k) (dc_w a p) 0 0
theorem la_fB {k : Nat} : la_f a vw rw p k ≤ dc_w a p := by
  have h1 := la_frW (a := a) (rw := rw) (vw := vw) (p := p) (k + 1)
  rcases la_fC (a := a) (rw := rw) (vw := vw) (p := p) (k := k) with h | h <;> omega
theorem la_f1 {k : Nat} (h : la_fr a vw rw p (k + 1) < dc_w a p) : la_f a vw rw p (k + 1) = la_fr a vw rw p (k + 1) ∧ 0 < la_t a vw rw p (k + 1) := by
  have hs := la_frH h
  have hp := la_frP h
  have ht : 0 < la_t a vw rw p (k + 1) := by
    rw [la_tC]
    rcases Nat.eq_zero_or_pos (la_cn a vw p (la_fr a vw rw p (k + 1)) (la_fr a vw rw p (k + 1 + 1) - la_fr a vw rw p (k + 1))) with z | z
    · exact absurd hs (la_cnZ z _ (Nat.le_refl _) (by omega))
    · exact z
  rcases la_fC (a := a) (rw := rw) (vw := vw) (p := p) (k := k + 1) with q | ⟨q1, q2, q3, q4⟩
  · omega
  · refine ⟨?_, ht⟩
    rcases Nat.eq_or_lt_of_le q2 with z | z
    · exact z.symm
    · exact absurd hs (q4 _ (Nat.le_refl _) z)
/-- how many lines -/
theorem la_nFP : ∀ (d k : Nat), (∀ j, 1 ≤ j → j < k → la_fr a vw rw p j < dc_w a p) → 1 ≤ k → d + k = 16 → dc_w a p ≤ 16 →
    (1 ≤ la_nF a vw rw p d k ∧ la_nF a vw rw p d k ≤ 16 ∧ (∀ j, 1 ≤ j → j < la_nF a vw rw p d k → la_fr a vw rw p j < dc_w a p) ∧ la_fr a vw rw p (la_nF a vw rw p d k) = dc_w a p)
  | 0, k, h, hk, hd, h16 => by
    show 1 ≤ k ∧ k ≤ 16 ∧ (∀ j, 1 ≤ j → j < k → la_fr a vw rw p j < dc_w a p) ∧ la_fr a vw rw p k = dc_w a p
    refine ⟨hk, by omega, h, ?_⟩
    have := la_frW (a := a) (rw := rw) (vw := vw) (p := p) k
    rcases la_frB (a := a) (rw := rw) (vw := vw) (p := p) k with q | q <;> omega
  | d + 1, k, h, hk, hd, h16 => by
    by_cases c : la_fr a vw rw p k < dc_w a p
    · have e : la_nF a vw rw p (d + 1) k = la_nF a vw rw p d (k + 1) := if_pos c
      rw [e]
      refine la_nFP d (k + 1) (fun j h1 h2 => ?_) (by omega) (by omega) h16
      by_cases q : j = k
      · subst q; exact c
      · exact h j h1 (by omega)
    · have e : la_nF a vw rw p (d + 1) k = k := if_neg c
      rw [e]
      have := la_frW (a := a) (rw := rw) (vw := vw) (p := p) k
      exact ⟨hk, by omega, h, by omega⟩
theorem la_nlP (h16 : dc_w a p ≤ 16) : 1 ≤ la_nl a vw rw p ∧ la_nl a vw rw p ≤ 16 ∧ (∀ j, 1 ≤ j → j < la_nl a vw rw p → la_fr a vw rw p j < dc_w a p) ∧ la_fr a vw rw p (la_nl a vw rw p) = dc_w a p :=
  la_nFP 15 1 (fun j h1 h2 => absurd h1 (by omega)) (by omega) (by omega) h16
theorem la_nlE (h16 : dc_w a p ≤ 16) {k : Nat} (hk : 1 ≤ k) (h1 : ∀ j, 1 ≤ j → j < k → la_fr a vw rw p j < dc_w a p) (h2 : la_fr a vw rw p k = dc_w a p) : la_nl a vw rw p = k := by
  obtain ⟨q1, q2, q3, q4⟩ := la_nlP (a := a) (rw := rw) (vw := vw) h16
  rcases Nat.lt_trichotomy (la_nl a vw rw p) k with z | z | z
  · have := h1 _ q1 z; omega
  · exact z
  · have := q3 k hk z; omega
/-- a word's line -/
theorem la_li (h16 : dc_w a p ≤ 16) {w : Nat} (hw : w < dc_w a p) : ∃ k, k < la_nl a vw rw p ∧ la_fr a vw rw p k ≤ w ∧ w < la_fr a vw rw p (k + 1) := by
  obtain ⟨q1, q2, q3, q4⟩ := la_nlP (a := a) (rw := rw) (vw := vw) h16
  have key : ∀ m, m ≤ la_nl a vw rw p → w < la_fr a vw rw p m → ∃ k, k < m ∧ la_fr a vw rw p k ≤ w ∧ w < la_fr a vw rw p (k + 1) := by
    intro m
    induction m with
    | zero => intro _ h; exact absurd h (by show ¬ w < 0; omega)
    | succ m ih =>
      intro hm h
      rcases Nat.lt_or_ge w (la_fr a vw rw p m) with z | z
      · obtain ⟨k, h1, h2, h3⟩ := ih (by omega) z
        exact ⟨k, by omega, h2, h3⟩
      · exact ⟨m, by omega, z, h⟩
  exact key _ (Nat.le_refl _) (by omega)
theorem la_liU {j k w : Nat} (h1 : la_fr a vw rw p j ≤ w) (h2 : w < la_fr a vw rw p (j + 1)) (h3 : la_fr a vw rw p k ≤ w) (h4 : w < la_fr a vw rw p (k + 1)) : j = k := by
  rcases Nat.lt_trichotomy j k with z | z | z
  · have := la_frm (a := a) (rw := rw) (vw := vw) (p := p) (show j + 1 ≤ k from z); omega
  · exact z
  · have := la_frm (a := a) (rw := rw) (vw := vw) (p := p) (show k + 1 ≤ j from z); omega
end
end
section
/-- where words stand in a line -/
def la_s1 (l wd sl gp st : Int32) (n : Nat) : Int32 := if st = 0 then l + (wd + 1) else if sl - sl / gp * gp ≤ nI n then l + (wd + 1) + (sl / gp + 0) else l + (wd + 1) + (sl / gp + 1)
def la_po (a : Nat → Int32) (vw : Int32) (rw : Nat → Int32) (p : Nat) (sl gp st l0 : Int32) (f : Nat) : Nat → Int32 × Nat
  | 0 => (l0, 0)
  | m + 1 => if la_sh a vw p (f + m) = true then (la_s1 (la_po a vw rw p sl gp st l0 f m).1 (la_wd a rw p (f + m)) sl gp st (la_po a vw rw p sl gp st l0 f m).2, (la_po a vw rw p sl gp st l0 f m).2 + 1) else la_po a vw rw p sl gp st l0 f m
def la_al (a : Nat → Int32) (vw : Int32) (rw : Nat → Int32) (p k : Nat) : Int32 := if dc_v a p 6 = 1 then la_l0 a p k + la_sl a vw rw p k else if dc_v a p 6 = 2 then la_l0 a p k + la_sl a vw rw p k / 2 else la_l0 a p k
def la_sp (a : Nat → Int32) (vw : Int32) (rw : Nat → Int32) (p k : Nat) : Int32 := if dc_v a p 6 = 3 ∧ 1 < la_t a vw rw p k ∧ k + 1 < la_nl a vw rw p then 1 else 0
def la_ps (a : Nat → Int32) (vw : Int32) (rw : Nat → Int32) (p k w : Nat) : Int32 :=
  (la_po a vw rw p (la_sl a vw rw p k) (nI (la_t a vw rw p k) - 1) (la_sp a vw rw p k) (la_al a vw rw p k) (la_f a vw rw p k) (w - la_f a vw rw p k)).1
theorem la_poC {a rw : Nat → Int32} {vw sl gp st l0 : Int32} {p f : Nat} : ∀ {m : Nat}, (la_po a vw rw p sl gp st l0 f m).2 = la_cn a vw p f m
  | 0 => rfl
  | m + 1 => by
    by_cases h : la_sh a vw p (f + m) = true
    · have e : la_po a vw rw p sl gp st l0 f (m + 1) = _ := if_pos h
      rw [e]; show (la_po a vw rw p sl gp st l0 f m).2 + 1 = la_cn a vw p f m + _
      rw [if_pos h, la_poC]
    · have e : la_po a vw rw p sl gp st l0 f (m + 1) = _ := if_neg h
      rw [e]; show (la_po a vw rw p sl gp st l0 f m).2 = la_cn a vw p f m + _
      rw [if_neg h, la_poC]; rfl
/-- what is written for the shown words of a line -/
def la_wr (a : Nat → Int32) (vw : Int32) (p : Nat) (g val : Nat → Int32) (f : Nat) : Nat → Nat → Int32
  | 0 => g
  | m + 1 => if la_sh a vw p (f + m) = true then upd (la_wr a vw p g val f m) (16 * p + (f + m)) (val (f + m)) else la_wr a vw p g val f m
theorem la_wrO {a g val : Nat → Int32} {vw : Int32} {p f i : Nat} : ∀ {m : Nat}, (∀ v, f ≤ v → v < f + m → la_sh a vw p v = true → i ≠ 16 * p + v) → la_wr a vw p g val f m i = g i
  | 0, _ => rfl
  | m + 1, h => by
    by_cases c : la_sh a vw p (f + m) = true
    · have e : la_wr a vw p g val f (m + 1) = _ := if_pos c
      rw [e, pk_un (h _ (by omega) (by omega) c)]
      exact la_wrO fun v h1 h2 h3 => h v h1 (by omega) h3
    · have e : la_wr a vw p g val f (m + 1) = _ := if_neg c
      rw [e]
      exact la_wrO fun v h1 h2 h3 => h v h1 (by omega) h3
theorem la_wrI {a g val : Nat → Int32} {vw : Int32} {p f v : Nat} (hs : la_sh a vw p v = true) (h1 : f ≤ v) : ∀ {m : Nat}, v < f + m → la_wr a vw p g val f m (16 * p + v) = val v
  | 0, h => absurd h (by omega)
  | m + 1, h => by
    by_cases c : la_sh a vw p (f + m) = true
    · have e : la_wr a vw p g val f (m + 1) = _ := if_pos c
      rw [e]
      by_cases q : v = f + m
      · subst q; rw [pk_us]
      · rw [pk_un (by omega)]; exact la_wrI hs h1 (by omega)
    · have e : la_wr a vw p g val f (m + 1) = _ := if_neg c
      rw [e]
      have q : v ≠ f + m := fun q => c (q ▸ hs)
      exact la_wrI hs h1 (by omega)
theorem la_wrE {a g val : Nat → Int32} {vw : Int32} {p f m : Nat} : ∀ {k : Nat}, la_cn a vw p (f + m) k = 0 → la_wr a vw p g val f (m + k) = la_wr a vw p g val f m
  | 0, _ => rfl
  | k + 1, h => by
    have h' : la_cn a vw p (f + m) k + (if la_sh a vw p (f + m + k) = true then 1 else 0) = 0 := h
    have c : ¬ la_sh a vw p (f + (m + k)) = true := fun c => by rw [show f + m + k = f + (m + k) from by omega, if_pos c] at h'; omega
    have e : la_wr a vw p g val f (m + k + 1) = _ := if_neg c
    show la_wr a vw p g val f (m + k + 1) = _
    rw [e]; exact la_wrE (by omega)
/-- heights -/
def la_nd (a : Nat → Int32) (vw : Int32) (rw : Nat → Int32) (p k : Nat) : Int32 := dc_v a p 5 + la_no a vw rw p k
def la_hs (a : Nat → Int32) (vw : Int32) (rw : Nat → Int32) (p : Nat) : Nat → Int32
  | 0 => 0
  | n + 1 => la_hs a vw rw p n + la_nd a vw rw p n
def la_sn (a : Nat → Int32) (vw : Int32) (rw : Nat → Int32) (p : Nat) : Nat → Int32
  | 0 => 0
  | n + 1 => la_sn a vw rw p n + la_no a vw rw p n
theorem la_hsn {a rw : Nat → Int32} {vw : Int32} {p : Nat} : ∀ {n : Nat}, nI n * dc_v a p 5 + la_sn a vw rw p n = la_hs a vw rw p n
  | 0 => by show nI 0 * dc_v a p 5 + 0 = 0; rw [nI_0, Int32.zero_mul, Int32.add_zero]
  | n + 1 => by
    show nI (n + 1) * dc_v a p 5 + (la_sn a vw rw p n + la_no a vw rw p n) = la_hs a vw rw p n + (dc_v a p 5 + la_no a vw rw p n)
    rw [← la_hsn, ← nI_1, Int32.add_mul, Int32.one_mul]
    generalize nI n * dc_v a p 5 = x
    generalize dc_v a p 5 = y
    generalize la_sn a vw rw p n = z
    generalize la_no a vw rw p n = t
    rw [Int32.add_assoc, Int32.add_assoc, ← Int32.add_assoc y z t, Int32.add_comm y z, Int32.add_assoc z y t]
def la_gb (a : Nat → Int32) (p : Nat) : Int32 := if p = 0 then 0 else if dc_v a (p - 1) 4 ≤ dc_v a p 3 then dc_v a p 3 else dc_v a (p - 1) 4
def la_sf (a : Nat → Int32) (vw : Int32) (rw : Nat → Int32) (p : Nat) : Bool := if dc_v a p 8 = 1 then true else if dc_v a p 11 = 1 then decide (la_nl a vw rw p < 4) else false
def la_hd (a : Nat → Int32) (vw : Int32) (rw : Nat → Int32) (p : Nat) : Nat := if la_sf a vw rw p = true then la_nl a vw rw p else if dc_v a p 11 = 1 then 2 else 1
def la_gr (a : Nat → Int32) (vw : Int32) (rw : Nat → Int32) : Nat → Nat → Int32
  | 0, p => la_hs a vw rw p (la_hd a vw rw p)
  | d + 1, p => if dc_v a p 9 = 1 then la_hs a vw rw p (la_nl a vw rw p) + la_gb a (p + 1) + la_gr a vw rw d (p + 1) else la_hs a vw rw p (la_hd a vw rw p)
theorem la_hdB {a rw : Nat → Int32} {vw : Int32} {p : Nat} (h16 : dc_w a p ≤ 16) : la_hd a vw rw p ≤ la_nl a vw rw p := by
  have h1 := (la_nlP (a := a) (rw := rw) (vw := vw) h16).1
  unfold la_hd
  split
  · exact Nat.le_refl _
  · rename_i c
    unfold la_sf at c
    split
    · rename_i c2
      rw [if_pos c2] at c
      split at c
      · exact absurd rfl c
      · have : ¬ la_nl a vw rw p < 4 := fun z => c (decide_eq_true z)
        omega
    · exact h1
/-- columns being filled: how many, first paragraphs, first lines, lines, notes, fillings; lines' columns and tops -/
abbrev la_F : Type := Nat × (Nat → Int32) × (Nat → Int32) × (Nat → Int32) × (Nat → Int32) × (Nat → Int32) × (Nat → Int32) × (Nat → Int32)
def la_new (S : la_F) (p k : Nat) : la_F := (S.1 + 1, upd S.2.1 S.1 (nI p), upd S.2.2.1 S.1 (nI k), upd S.2.2.2.1 S.1 0, upd S.2.2.2.2.1 S.1 0, upd S.2.2.2.2.2.1 S.1 0, S.2.2.2.2.2.2.1, S.2.2.2.2.2.2.2)
def la_ga (a : Nat → Int32) (S : la_F) (p k : Nat) : Int32 := if k = 0 then (if S.2.2.2.1 (S.1 - 1) ≤ 0 then 0 else la_gb a p) else 0
def la_put (a : Nat → Int32) (vw : Int32) (rw : Nat → Int32) (S : la_F) (p k : Nat) : la_F :=
  (S.1, S.2.1, S.2.2.1, upd S.2.2.2.1 (S.1 - 1) (S.2.2.2.1 (S.1 - 1) + 1), upd S.2.2.2.2.1 (S.1 - 1) (S.2.2.2.2.1 (S.1 - 1) + la_no a vw rw p k),
    upd S.2.2.2.2.2.1 (S.1 - 1) (S.2.2.2.2.2.1 (S.1 - 1) + la_ga a S p k + dc_v a p 5), upd S.2.2.2.2.2.2.1 (16 * p + k) (nI (S.1 - 1)), upd S.2.2.2.2.2.2.2 (16 * p + k) (S.2.2.2.2.2.1 (S.1 - 1) + la_ga a S p k))
def la_fh (a : Nat → Int32) (S : la_F) : Int32 := a 2 - S.2.2.2.2.2.1 (S.1 - 1) - S.2.2.2.2.1 (S.1 - 1)
def la_op (a : Nat → Int32) (vw : Int32) (rw : Nat → Int32) (S : la_F) (p : Nat) : Bool := if p = 0 then true else if dc_v a p 10 = 1 then true else
  !decide ((if a 2 < la_gr a vw rw (dc_n a - 1 - p) p then la_hs a vw rw p (la_hd a vw rw p) else la_gr a vw rw (dc_n a - 1 - p) p) ≤ la_fh a S - la_gb a p)
def la_tu (a : Nat → Int32) (vw : Int32) (rw : Nat → Int32) (S : la_F) (p k : Nat) : Bool := if 0 ≤ la_fh a S - dc_v a p 5 - la_no a vw rw p k then
    (if k + 2 = la_nl a vw rw p then (if dc_v a p 11 = 0 then false else if la_sf a vw rw p = true then false else !decide (dc_v a p 5 + la_no a vw rw p (k + 1) ≤ la_fh a S - dc_v a p 5 - la_no a vw rw p k)) else false)
  else true
def la_is (a : Nat → Int32) (vw : Int32) (rw : Nat → Int32) (S : la_F) (p k : Nat) : Bool := if k = 0 then la_op a vw rw S p else la_tu a vw rw S p k
def la_ad (a : Nat → Int32) (vw : Int32) (rw : Nat → Int32) (S : la_F) (p k : Nat) : la_F := la_put a vw rw (if la_is a vw rw S p k = true then la_new S p k else S) p k
def la_fp (a : Nat → Int32) (vw : Int32) (rw : Nat → Int32) (S : la_F) (p : Nat) : Nat → la_F
  | 0 => S
  | k + 1 => la_ad a vw rw (la_fp a vw rw S p k) p k
def la_fl (a : Nat → Int32) (vw : Int32) (rw : Nat → Int32) : Nat → la_F
  | 0 => (0, fun _ => 0, fun _ => 0, fun _ => 0, fun _ => 0, fun _ => 0, fun _ => 0, fun _ => 0)
  | p + 1 => la_fp a vw rw (la_fl a vw rw p) p (la_nl a vw rw p)
/-- the pages that references name; rounds -/
def la_pg (a lC : Nat → Int32) (m : Nat) : Nat → Nat → Int32
  | 0, _ => 1
  | d + 1, p => if a (77 + 51 * p) = nI m then la_dg ((if a 3 = 2 then lC (16 * p) / 2 else lC (16 * p)) + 1) else la_pg a lC m d (p + 1)
def la_nx (a : Nat → Int32) (vw : Int32) (rw : Nat → Int32) : Nat → Int32 := fun m => la_pg a (la_fl a vw rw (dc_n a)).2.2.2.2.2.2.1 m (dc_n a) 0
def la_rf (a : Nat → Int32) (m : Nat) : Prop := ∃ p w, p < dc_n a ∧ w < dc_w a p ∧ a (79 + 51 * p + 3 * w) = -1 - nI m
def la_ch (a : Nat → Int32) (vw : Int32) (rw : Nat → Int32) : Prop := ∃ m, m < 8 ∧ la_nx a vw rw m ≠ rw m ∧ la_rf a m
def la_rk (a : Nat → Int32) (vw : Int32) : Nat → Nat → Int32
  | 0 => fun _ => 1
  | i + 1 => la_nx a vw (la_rk a vw i)
def la_fin (a : Nat → Int32) (vw : Int32) (r : Nat) : Prop := 1 ≤ r ∧ r ≤ 4 ∧ (∀ i, i + 1 < r → la_ch a vw (la_rk a vw i)) ∧ (r = 4 ∨ ¬ la_ch a vw (la_rk a vw (r - 1)))
theorem la_finU {a : Nat → Int32} {vw : Int32} {r s : Nat} (h : la_fin a vw r) (g : la_fin a vw s) : r = s := by
  obtain ⟨h1, h2, h3, h4⟩ := h
  obtain ⟨g1, g2, g3, g4⟩ := g
  rcases Nat.lt_trichotomy r s with z | z | z
  · rcases h4 with q | q
    · omega
    · exact absurd (g3 (r - 1) (by omega)) q
  · exact z
  · rcases g4 with q | q
    · omega
    · exact absurd (h3 (s - 1) (by omega)) q
end
section
variable {x_tracking x_view x_slotNow x_stepsBack x_stepsAgain x_stale x_rounds x_columnCount : Int32} {x_doc x_kept x_referenceWidth x_labelValue x_labelWidth x_lineCount x_gapBefore x_headNeeds x_groupNeeds x_wordLine x_wordLeft x_lineFirst x_lineWords x_lineLeft x_lineSlack x_lineNotes x_lineColumn x_lineTop x_columnParagraph x_columnFirst x_columnLines x_columnNotes x_columnFilled : Nat → Int32}
theorem xr_tr {post : Int32 → Prop} {x y : Int32} {p t : Nat} (hv : dc_V x_doc) (hx : x = nI p) (hp : p < 24) (hy : y = nI t) (ht : t < 12) (h : post (dc_v x_doc p t)) : wpX_traitOf post (x_tracking, x_view, x_slotNow, x_stepsBack, x_stepsAgain, x_stale, x_rounds, x_columnCount, x_doc, x_kept, x_referenceWidth, x_labelValue, x_labelWidth, x_lineCount, x_gapBefore, x_headNeeds, x_groupNeeds, x_wordLine, x_wordLeft, x_lineFirst, x_lineWords, x_lineLeft, x_lineSlack, x_lineNotes, x_lineColumn, x_lineTop, x_columnParagraph, x_columnFirst, x_columnLines, x_columnNotes, x_columnFilled) x y := by
  have e : ((76 : Int32) + x * 51) + 0 = nI (76 + 51 * p) := by subst hx; rw [ad_r]; exact ad_0 _
  obtain ⟨es, h5⟩ := dc_Vs hv hp
  have e2 : (4 : Int32) + nI (dc_s x_doc p) * 12 + y = nI (4 + 12 * dc_s x_doc p + t) := by subst hy; exact ad_s _ _
  refine ⟨ix_in e (by omega) (by omega), nm_r (e' := nI (dc_s x_doc p)) (by rw [ix_c e (by omega), es]) ⟨ix_in e2 (by omega) (by omega), ?_⟩⟩
  rw [ix_c e2 (by omega)]; exact h
theorem xr_dg {post : Int32 → Prop} {x : Int32} (h : post (la_dg x)) : wpX_digits post x := by
  unfold la_dg at h
  refine br_c (fun z => br_c (fun y => ?_) (fun y => ?_)) (fun z => ?_)
  · rw [if_pos z, if_pos y] at h; exact h
  · rw [if_pos z, if_neg y] at h; exact h
  · rw [if_neg z] at h; exact h
theorem xr_cw {post : Int32 → Prop} (h : post (la_cw x_doc)) : wpX_columnWidth post (x_tracking, x_view, x_slotNow, x_stepsBack, x_stepsAgain, x_stale, x_rounds, x_columnCount, x_doc, x_kept, x_referenceWidth, x_labelValue, x_labelWidth, x_lineCount, x_gapBefore, x_headNeeds, x_groupNeeds, x_wordLine, x_wordLeft, x_lineFirst, x_lineWords, x_lineLeft, x_lineSlack, x_lineNotes, x_lineColumn, x_lineTop, x_columnParagraph, x_columnFirst, x_columnLines, x_columnNotes, x_columnFilled) := by
  unfold la_cw at h
  refine nm_e (br_c (fun z => ?_) (fun z => ⟨by decide, ?_⟩))
  · rw [if_pos z] at h; exact h
  · rw [if_neg z] at h; exact h
theorem xr_sh {post : Int32 → Prop} {x y : Int32} {p w : Nat} (hx : x = nI p) (hp : p < 24) (hy : y = nI w) (hw : w < 16) (h1 : la_sh x_doc x_view p w = true → post 1) (h0 : ¬ la_sh x_doc x_view p w = true → post 0) : wpX_isShown post (x_tracking, x_view, x_slotNow, x_stepsBack, x_stepsAgain, x_stale, x_rounds, x_columnCount, x_doc, x_kept, x_referenceWidth, x_labelValue, x_labelWidth, x_lineCount, x_gapBefore, x_headNeeds, x_groupNeeds, x_wordLine, x_wordLeft, x_lineFirst, x_lineWords, x_lineLeft, x_lineSlack, x_lineNotes, x_lineColumn, x_lineTop, x_columnParagraph, x_columnFirst, x_columnLines, x_columnNotes, x_columnFilled) x y := by
  unfold wpX_isShown
  refine xr_wa hx hy ⟨ix_in (ad_2 _) (by omega) (by omega), nm_r (e' := x_doc (81 + 51 * p + 3 * w)) (by rw [ix_c (ad_2 _) (by omega)]; exact congrArg x_doc (by omega)) ?_⟩
  unfold la_sh at h1 h0
  refine br_c (fun z => ?_) (fun z => br_c (fun y => br_c (fun q => ?_) (fun q => ?_)) (fun y => br_c (fun q => ?_) (fun q => ?_)))
  · rw [if_pos z] at h1; exact h1 rfl
  · rw [if_neg z, if_pos y, decide_eq_true q] at h0; exact h0 (by decide)
  · rw [if_neg z, if_pos y, decide_eq_false q] at h1; exact h1 rfl
  · rw [if_neg z, if_neg y, decide_eq_true q] at h0; exact h0 (by decide)
  · rw [if_neg z, if_neg y, decide_eq_false q] at h1; exact h1 rfl
theorem la_neg {x : Int32} (h8 : -8 ≤ x.toInt) (h0 : ¬ 0 ≤ x) : ∃ m, m < 8 ∧ (-1) - x = nI m := by
  have n1 : (-1 : Int32).toInt = -1 := by decide
  have h1 : x.toInt < 0 := by
    have := Int32.lt_iff_toInt_lt.mp (Int32.not_le.mp h0)
    rw [show (0 : Int32).toInt = 0 from by decide] at this; exact this
  refine ⟨(-1 - x.toInt).toNat, by omega, ?_⟩
  apply Int32.toInt_inj.mp
  rw [nI_toInt (by omega), Int32.toInt_sub, n1, Int.bmod_eq_of_le (by omega) (by omega)]
  omega
theorem xr_wd {post : Int32 → Prop} {x y : Int32} {p w : Nat} {rw : Nat → Int32} (hv : dc_V x_doc) (hr : ∀ m, m < 8 → x_referenceWidth m = rw m) (hx : x = nI p) (hp : p < 24) (hy : y = nI w) (hw : w < dc_w x_doc p) (h : post (la_wd x_doc rw p w)) : wpX_widthOf post (x_tracking, x_view, x_slotNow, x_stepsBack, x_stepsAgain, x_stale, x_rounds, x_columnCount, x_doc, x_kept, x_referenceWidth, x_labelValue, x_labelWidth, x_lineCount, x_gapBefore, x_headNeeds, x_groupNeeds, x_wordLine, x_wordLeft, x_lineFirst, x_lineWords, x_lineLeft, x_lineSlack, x_lineNotes, x_lineColumn, x_lineTop, x_columnParagraph, x_columnFirst, x_columnLines, x_columnNotes, x_columnFilled) x y := by
  have h16 := (dc_Vw hv hp).2
  unfold wpX_widthOf
  refine xr_wa hx hy ⟨ix_in (ad_0 _) (by omega) (by omega), nm_r (e' := x_doc (79 + 51 * p + 3 * w)) (by rw [ix_c (ad_0 _) (by omega)]) ?_⟩
  unfold la_wd at h
  refine br_c (fun z => ?_) (fun z => ?_)
  · rw [if_pos z] at h; exact h
  · rw [if_neg z] at h
    obtain ⟨m, hm, e⟩ := la_neg (dc_Vo hv hp hw).1.1 z
    rw [e, nI_clamp (by omega)] at h ⊢
    refine ⟨vp_in_nI hm (by omega), ?_⟩
    rw [hr m hm]; exact h
/-- labels -/
def xl_N (a lv lw : Nat → Int32) (p : Nat) : Prop := ∀ q, q < p → lv q = la_lb a q ∧ lw q = la_lw a q
theorem xn_105 {post : SX → Prop} {J9 : Int32 → Int32 → Int32 → Int32 → (Nat → Int32) → (Nat → Int32) → (Nat → Int32) → (Nat → Int32) → (Nat → Int32) → (Nat → Int32) → (Nat → Int32) → (Nat → Int32) → (Nat → Int32) → (Nat → Int32) → (Nat → Int32) → (Nat → Int32) → (Nat → Int32) → (Nat → Int32) → (Nat → Int32) → (Nat → Int32) → (Nat → Int32) → (Nat → Int32) → (Nat → Int32) → (Nat → Int32) → (Nat → Int32) → (Nat → Int32) → (Nat → Int32) → Prop} {x1 x2 x5 z0 : Int32} {p : Nat} (hp : p < 24)
    (h : J9 x1 x2 z0 (nI (p + 1)) x_doc x_kept x_referenceWidth (upd x_labelValue p (x1 * 10000 + x2 * 100 + z0)) (upd x_labelWidth p ((la_dg x1 + 1 + (if 2 ≤ x5 then la_dg x2 + 1 else 0)) + (if 3 ≤ x5 then la_dg z0 + 1 else 0))) x_lineCount x_gapBefore x_headNeeds x_groupNeeds x_wordLine x_wordLeft x_lineFirst x_lineWords x_lineLeft x_lineSlack x_lineNotes x_lineColumn x_lineTop x_columnParagraph x_columnFirst x_columnLines x_columnNotes x_columnFilled) :
    wX_numberParagraphs_105 post J9 x1 x2 (nI p) x5 z0 x_tracking x_view x_slotNow x_stepsBack x_stepsAgain x_stale x_rounds x_columnCount x_doc x_kept x_referenceWidth x_labelValue x_labelWidth x_lineCount x_gapBefore x_headNeeds x_groupNeeds x_wordLine x_wordLeft x_lineFirst x_lineWords x_lineLeft x_lineSlack x_lineNotes x_lineColumn x_lineTop x_columnParagraph x_columnFirst x_columnLines x_columnNotes x_columnFilled := by
  have jp := vp_in_nI (n := p) (N := 24) hp (by omega)
  have cp := nI_clamp (n := p) (by omega)
  have f172 : ∀ z0' z1' : Int32, z1' + z0' = (la_dg x1 + 1 + (if 2 ≤ x5 then la_dg x2 + 1 else 0)) + (if 3 ≤ x5 then la_dg z0 + 1 else 0) → wX_numberParagraphs_172 post J9 x1 x2 z0 (nI p) z0' z1' x_tracking x_view x_slotNow x_stepsBack x_stepsAgain x_stale x_rounds x_columnCount x_doc x_kept x_referenceWidth (upd x_labelValue p (x1 * 10000 + x2 * 100 + z0)) x_labelWidth x_lineCount x_gapBefore x_headNeeds x_groupNeeds x_wordLine x_wordLeft x_lineFirst x_lineWords x_lineLeft x_lineSlack x_lineNotes x_lineColumn x_lineTop x_columnParagraph x_columnFirst x_columnLines x_columnNotes x_columnFilled := fun z0' z1' e =>
    nm_r e ⟨jp, nm_r (by rw [cp]) (nm_r (nI_1 p) h)⟩
  have f151 : ∀ z0' z1' : Int32, z1' + z0' = (la_dg x1 + 1 + (if 2 ≤ x5 then la_dg x2 + 1 else 0)) → wX_numberParagraphs_151 post J9 x1 x2 z0 (nI p) x5 z0' z1' x_tracking x_view x_slotNow x_stepsBack x_stepsAgain x_stale x_rounds x_columnCount x_doc x_kept x_referenceWidth (upd x_labelValue p (x1 * 10000 + x2 * 100 + z0)) x_labelWidth x_lineCount x_gapBefore x_headNeeds x_groupNeeds x_wordLine x_wordLeft x_lineFirst x_lineWords x_lineLeft x_lineSlack x_lineNotes x_lineColumn x_lineTop x_columnParagraph x_columnFirst x_columnLines x_columnNotes x_columnFilled := fun z0' z1' e =>
    nm_r e (br_c (fun z => xr_dg (f172 _ _ (by rw [if_pos z]))) (fun z => f172 _ _ (by rw [if_neg z])))
  refine ⟨jp, nm_r (by rw [cp]) (xr_dg (nm_e (br_c (fun z => xr_dg (f151 _ _ (by rw [if_pos z]))) (fun z => f151 _ _ (by rw [if_neg z])))))⟩
theorem xn_L {post : SX → Prop} (hv : dc_V x_doc) (h : ∀ x_labelValue x_labelWidth, xl_N x_doc x_labelValue x_labelWidth (dc_n x_doc) → post (x_tracking, x_view, x_slotNow, x_stepsBack, x_stepsAgain, x_stale, x_rounds, x_columnCount, x_doc, x_kept, x_referenceWidth, x_labelValue, x_labelWidth, x_lineCount, x_gapBefore, x_headNeeds, x_groupNeeds, x_wordLine, x_wordLeft, x_lineFirst, x_lineWords, x_lineLeft, x_lineSlack, x_lineNotes, x_lineColumn, x_lineTop, x_columnParagraph, x_columnFirst, x_columnLines, x_columnNotes, x_columnFilled)) : ∀ (d p : Nat) (x_labelValue x_labelWidth : Nat → Int32), p + d = dc_n x_doc → xl_N x_doc x_labelValue x_labelWidth p →
    wX_numberParagraphs_9 post x_tracking x_view x_slotNow x_stepsBack x_stepsAgain x_stale x_rounds x_columnCount (d + 1) (la_ct x_doc p).1 (la_ct x_doc p).2.1 (la_ct x_doc p).2.2 (nI p) x_doc x_kept x_referenceWidth x_labelValue x_labelWidth x_lineCount x_gapBefore x_headNeeds x_groupNeeds x_wordLine x_wordLeft x_lineFirst x_lineWords x_lineLeft x_lineSlack x_lineNotes x_lineColumn x_lineTop x_columnParagraph x_columnFirst x_columnLines x_columnNotes x_columnFilled
  | 0, p, x_labelValue, x_labelWidth, hp, H => by
    obtain ⟨e0, h24⟩ := dc_Vn hv
    obtain rfl : p = dc_n x_doc := by omega
    exact br_t (by rw [e0]; exact nI_le (by omega) (by omega)) (h _ _ H)
  | d + 1, p, x_labelValue, x_labelWidth, hp, H => by
    obtain ⟨e0, h24⟩ := dc_Vn hv
    have jp := vp_in_nI (n := p) (N := 24) (by omega) (by omega)
    have cp := nI_clamp (n := p) (by omega)
    have ext : ∀ v w, v = la_lb x_doc p → w = la_lw x_doc p → xl_N x_doc (upd (upd x_labelValue p 0) p v) (upd (upd x_labelWidth p 0) p w) (p + 1) := fun v w ev ew q hq => by
      by_cases c : q = p
      · subst c; rw [pk_us, pk_us]; exact ⟨ev, ew⟩
      · rw [pk_un c, pk_un c, pk_un c, pk_un c]; exact H q (by omega)
    refine br_f (by rw [e0]; exact nI_ge (by omega) (by omega)) (xr_tr hv rfl (by omega) (t := 7) rfl (by omega) ⟨jp, nm_r (by rw [cp]) ⟨jp, nm_r (by rw [cp]) (br_c (fun z => ?_) (fun z => ?_))⟩⟩)
    · have ec : la_ct x_doc (p + 1) = la_ct x_doc p := if_pos z
      have L := xn_L hv h d (p + 1) (upd x_labelValue p 0) (upd x_labelWidth p 0) (by omega) (by
        have E := ext 0 0 (by unfold la_lb; rw [if_pos z]) (by unfold la_lw; rw [if_pos z])
        rw [op_upd2 (a := upd x_labelValue p 0) pk_us, op_upd2 (a := upd x_labelWidth p 0) pk_us] at E; exact E)
      rw [ec] at L
      exact nm_r (nI_1 p) L
    · have ec : la_ct x_doc (p + 1) = ((la_ct x_doc p).1 + (if dc_v x_doc p 7 = 1 then 1 else 0), (if dc_v x_doc p 7 = 1 then 0 else if dc_v x_doc p 7 = 2 then (la_ct x_doc p).2.1 + 1 else (la_ct x_doc p).2.1), (if dc_v x_doc p 7 = 3 then (la_ct x_doc p).2.2 + 1 else 0)) := if_neg z
      have L := fun v w ev ew => xn_L hv h d (p + 1) _ _ (by omega) (ext v w ev ew)
      have fin : ∀ c1 c2 c3 : Int32, la_ct x_doc (p + 1) = (c1, c2, c3) → wX_numberParagraphs_105 post (wX_numberParagraphs_9 post x_tracking x_view x_slotNow x_stepsBack x_stepsAgain x_stale x_rounds x_columnCount (d + 1)) c1 c2 (nI p) (dc_v x_doc p 7) c3 x_tracking x_view x_slotNow x_stepsBack x_stepsAgain x_stale x_rounds x_columnCount x_doc x_kept x_referenceWidth (upd x_labelValue p 0) (upd x_labelWidth p 0) x_lineCount x_gapBefore x_headNeeds x_groupNeeds x_wordLine x_wordLeft x_lineFirst x_lineWords x_lineLeft x_lineSlack x_lineNotes x_lineColumn x_lineTop x_columnParagraph x_columnFirst x_columnLines x_columnNotes x_columnFilled := fun c1 c2 c3 e => by
        refine xn_105 (by omega) ?_
        have L1 := L _ _ rfl rfl
        unfold la_lb la_lw at L1
        rw [if_neg z, if_neg z, e] at L1
        exact L1
      have f91 : ∀ c1 c2 : Int32, (la_ct x_doc (p + 1)).1 = c1 → (la_ct x_doc (p + 1)).2.1 = c2 → wX_numberParagraphs_91 post (wX_numberParagraphs_9 post x_tracking x_view x_slotNow x_stepsBack x_stepsAgain x_stale x_rounds x_columnCount (d + 1)) c1 (la_ct x_doc p).2.2 (nI p) (dc_v x_doc p 7) c2 x_tracking x_view x_slotNow x_stepsBack x_stepsAgain x_stale x_rounds x_columnCount x_doc x_kept x_referenceWidth (upd x_labelValue p 0) (upd x_labelWidth p 0) x_lineCount x_gapBefore x_headNeeds x_groupNeeds x_wordLine x_wordLeft x_lineFirst x_lineWords x_lineLeft x_lineSlack x_lineNotes x_lineColumn x_lineTop x_columnParagraph x_columnFirst x_columnLines x_columnNotes x_columnFilled := fun c1 c2 e1 e2 => by
        refine br_c (fun z3 => fin _ _ _ ?_) (fun z3 => fin _ _ _ ?_)
        · rw [← e1, ← e2, ec, if_pos z3]
        · rw [← e1, ← e2, ec, if_neg z3]
      have f66 : ∀ z0 : Int32, (if dc_v x_doc p 7 = 1 then 1 else 0) = z0 → wX_numberParagraphs_66 post (wX_numberParagraphs_9 post x_tracking x_view x_slotNow x_stepsBack x_stepsAgain x_stale x_rounds x_columnCount (d + 1)) (la_ct x_doc p).2.1 (la_ct x_doc p).2.2 (nI p) (dc_v x_doc p 7) z0 (la_ct x_doc p).1 x_tracking x_view x_slotNow x_stepsBack x_stepsAgain x_stale x_rounds x_columnCount x_doc x_kept x_referenceWidth (upd x_labelValue p 0) (upd x_labelWidth p 0) x_lineCount x_gapBefore x_headNeeds x_groupNeeds x_wordLine x_wordLeft x_lineFirst x_lineWords x_lineLeft x_lineSlack x_lineNotes x_lineColumn x_lineTop x_columnParagraph x_columnFirst x_columnLines x_columnNotes x_columnFilled := fun z0 e0' => by
        refine nm_e (br_c (fun z1 => f91 _ _ ?_ ?_) (fun z1 => br_c (fun z2 => f91 _ _ ?_ ?_) (fun z2 => f91 _ _ ?_ ?_)))
        · rw [ec, e0']
        · rw [ec]; show (if _ then _ else _) = _; rw [if_pos z1]
        · rw [ec, e0']
        · rw [ec]; show (if _ then _ else _) = _; rw [if_neg z1, if_pos z2]
        · rw [ec, e0']
        · rw [ec]; show (if _ then _ else _) = _; rw [if_neg z1, if_neg z2]
      exact br_c (fun z1 => f66 1 (if_pos z1)) (fun z1 => f66 0 (if_neg z1))
theorem xs_num {post : SX → Prop} (hv : dc_V x_doc) (h : ∀ x_labelValue x_labelWidth, xl_N x_doc x_labelValue x_labelWidth (dc_n x_doc) → post (x_tracking, x_view, x_slotNow, x_stepsBack, x_stepsAgain, x_stale, x_rounds, x_columnCount, x_doc, x_kept, x_referenceWidth, x_labelValue, x_labelWidth, x_lineCount, x_gapBefore, x_headNeeds, x_groupNeeds, x_wordLine, x_wordLeft, x_lineFirst, x_lineWords, x_lineLeft, x_lineSlack, x_lineNotes, x_lineColumn, x_lineTop, x_columnParagraph, x_columnFirst, x_columnLines, x_columnNotes, x_columnFilled)) : wpX_numberParagraphs post (x_tracking, x_view, x_slotNow, x_stepsBack, x_stepsAgain, x_stale, x_rounds, x_columnCount, x_doc, x_kept, x_referenceWidth, x_labelValue, x_labelWidth, x_lineCount, x_gapBefore, x_headNeeds, x_groupNeeds, x_wordLine, x_wordLeft, x_lineFirst, x_lineWords, x_lineLeft, x_lineSlack, x_lineNotes, x_lineColumn, x_lineTop, x_columnParagraph, x_columnFirst, x_columnLines, x_columnNotes, x_columnFilled) :=
  ⟨_, xn_L hv h (dc_n x_doc) 0 x_labelValue x_labelWidth (by omega) (fun q hq => absurd hq (by omega))⟩
end
section
variable {x_tracking x_view x_slotNow x_stepsBack x_stepsAgain x_stale x_rounds x_columnCount : Int32} {x_doc x_kept x_referenceWidth x_labelValue x_labelWidth x_lineCount x_gapBefore x_headNeeds x_groupNeeds x_wordLine x_wordLeft x_lineFirst x_lineWords x_lineLeft x_lineSlack x_lineNotes x_lineColumn x_lineTop x_columnParagraph x_columnFirst x_columnLines x_columnNotes x_columnFilled : Nat → Int32}
theorem xt_L {post : Int32 → SX → Prop} {p k : Nat} {l0 rm : Int32} {rw : Nat → Int32} (hv : dc_V x_doc) (hr : ∀ m, m < 8 → x_referenceWidth m = rw m) (hp : p < 24) : ∀ (d w f t : Nat) (u n : Int32), w + d = dc_w x_doc p → t ≤ w → (t = 0 → u = 0) →
    wX_takeLine_196 post (nI p) (nI k) l0 rm (nI (la_tl x_doc x_view rw p rm d w f t u n).2.1) (nI (la_tl x_doc x_view rw p rm d w f t u n).2.2.1) (la_tl x_doc x_view rw p rm d w f t u n).2.2.2.1 (la_tl x_doc x_view rw p rm d w f t u n).2.2.2.2 (nI (la_tl x_doc x_view rw p rm d w f t u n).1) x_tracking x_view x_slotNow x_stepsBack x_stepsAgain x_stale x_rounds x_columnCount x_doc x_kept x_referenceWidth x_labelValue x_labelWidth x_lineCount x_gapBefore x_headNeeds x_groupNeeds x_wordLine x_wordLeft x_lineFirst x_lineWords x_lineLeft x_lineSlack x_lineNotes x_lineColumn x_lineTop x_columnParagraph x_columnFirst x_columnLines x_columnNotes x_columnFilled →
    wX_takeLine_83 post (nI p) (nI k) (nI (dc_w x_doc p)) l0 rm x_tracking x_view x_slotNow x_stepsBack x_stepsAgain x_stale x_rounds x_columnCount x_doc x_kept x_referenceWidth x_labelValue x_labelWidth x_lineCount x_gapBefore x_headNeeds x_groupNeeds x_wordLine x_wordLeft x_lineFirst x_lineWords x_lineLeft x_lineSlack x_lineNotes x_lineColumn x_lineTop x_columnParagraph x_columnFirst x_columnLines x_columnNotes x_columnFilled (d + 1) (nI f) (nI t) u n (nI w)
  | 0, w, f, t, u, n, hw, ht, hu, h => by
    have h16 := (dc_Vw hv hp).2
    exact br_t (nI_le (by omega) (by omega)) h
  | d + 1, w, f, t, u, n, hw, ht, hu, h => by
    have h16 := (dc_Vw hv hp).2
    refine br_f (nI_ge (by omega) (by omega)) (xr_sh rfl hp rfl (by omega) (fun hs => br_f (by decide) ?_) (fun hs => br_t rfl (nm_r (nI_1 w) ?_)))
    · have go : ∀ x12 : Int32, u + x12 = la_us x_doc rw p w t u → wX_takeLine_127 post (wX_takeLine_83 post (nI p) (nI k) (nI (dc_w x_doc p)) l0 rm x_tracking x_view x_slotNow x_stepsBack x_stepsAgain x_stale x_rounds x_columnCount x_doc x_kept x_referenceWidth x_labelValue x_labelWidth x_lineCount x_gapBefore x_headNeeds x_groupNeeds x_wordLine x_wordLeft x_lineFirst x_lineWords x_lineLeft x_lineSlack x_lineNotes x_lineColumn x_lineTop x_columnParagraph x_columnFirst x_columnLines x_columnNotes x_columnFilled (d + 1)) (nI p) (nI k) (nI (dc_w x_doc p)) l0 rm (nI f) (nI t) u n (nI w) x12 x_tracking x_view x_slotNow x_stepsBack x_stepsAgain x_stale x_rounds x_columnCount x_doc x_kept x_referenceWidth x_labelValue x_labelWidth x_lineCount x_gapBefore x_headNeeds x_groupNeeds x_wordLine x_wordLeft x_lineFirst x_lineWords x_lineLeft x_lineSlack x_lineNotes x_lineColumn x_lineTop x_columnParagraph x_columnFirst x_columnLines x_columnNotes x_columnFilled := fun x12 ex => by
        have take : ¬ (0 < t ∧ rm < la_us x_doc rw p w t u) → wX_takeLine_147 post (wX_takeLine_83 post (nI p) (nI k) (nI (dc_w x_doc p)) l0 rm x_tracking x_view x_slotNow x_stepsBack x_stepsAgain x_stale x_rounds x_columnCount x_doc x_kept x_referenceWidth x_labelValue x_labelWidth x_lineCount x_gapBefore x_headNeeds x_groupNeeds x_wordLine x_wordLeft x_lineFirst x_lineWords x_lineLeft x_lineSlack x_lineNotes x_lineColumn x_lineTop x_columnParagraph x_columnFirst x_columnLines x_columnNotes x_columnFilled (d + 1)) (nI p) (nI k) (nI (dc_w x_doc p)) l0 rm (nI f) (nI t) u n (nI w) x12 x_tracking x_view x_slotNow x_stepsBack x_stepsAgain x_stale x_rounds x_columnCount x_doc x_kept x_referenceWidth x_labelValue x_labelWidth x_lineCount x_gapBefore x_headNeeds x_groupNeeds x_wordLine x_wordLeft x_lineFirst x_lineWords x_lineLeft x_lineSlack x_lineNotes x_lineColumn x_lineTop x_columnParagraph x_columnFirst x_columnLines x_columnNotes x_columnFilled := fun hc => by
          rw [la_tlt hs hc] at h
          have ih := xt_L hv hr hp d (w + 1) (if t = 0 then w else f) (t + 1) (la_us x_doc rw p w t u) (n + x_doc (80 + 51 * p + 3 * w)) (by omega) (by omega) (fun z => absurd z (by omega)) h
          have f159 : ∀ z0 : Int32, z0 = nI (if t = 0 then w else f) → wX_takeLine_159 post (wX_takeLine_83 post (nI p) (nI k) (nI (dc_w x_doc p)) l0 rm x_tracking x_view x_slotNow x_stepsBack x_stepsAgain x_stale x_rounds x_columnCount x_doc x_kept x_referenceWidth x_labelValue x_labelWidth x_lineCount x_gapBefore x_headNeeds x_groupNeeds x_wordLine x_wordLeft x_lineFirst x_lineWords x_lineLeft x_lineSlack x_lineNotes x_lineColumn x_lineTop x_columnParagraph x_columnFirst x_columnLines x_columnNotes x_columnFilled (d + 1)) (nI p) (nI k) (nI (dc_w x_doc p)) l0 rm (nI t) u n (nI w) x12 z0 x_tracking x_view x_slotNow x_stepsBack x_stepsAgain x_stale x_rounds x_columnCount x_doc x_kept x_referenceWidth x_labelValue x_labelWidth x_lineCount x_gapBefore x_headNeeds x_groupNeeds x_wordLine x_wordLeft x_lineFirst x_lineWords x_lineLeft x_lineSlack x_lineNotes x_lineColumn x_lineTop x_columnParagraph x_columnFirst x_columnLines x_columnNotes x_columnFilled := fun z0 e => by
            subst e
            refine nm_r (nI_1 t) (nm_r ex (xr_wa rfl rfl ⟨ix_in (nI_1 _) (by omega) (by omega), nm_r (e' := n + x_doc (80 + 51 * p + 3 * w)) ?_ (nm_r (nI_1 w) ih)⟩))
            rw [ix_c (nI_1 _) (by omega), show 79 + 51 * p + 3 * w + 1 = 80 + 51 * p + 3 * w from by omega]
          exact pk_eq t 0 (fun z => f159 _ (by rw [if_pos z])) (fun z => f159 _ (by rw [if_neg z]))
        refine pk_le t 0 (fun z => take (by omega)) (fun z => br_c (fun y => take ?_) (fun y => ?_))
        · rw [ex] at y; exact fun q => Int32.not_lt.mpr y q.2
        · rw [ex] at y
          rw [la_tls hs ⟨z, Int32.not_le.mp y⟩] at h
          exact h
      refine pk_eq t 0 (fun z => xr_wd hv hr rfl hp rfl (by omega) (go _ ?_)) (fun z => xr_wd hv hr rfl hp rfl (by omega) (go _ ?_))
      · rw [hu z]; unfold la_us; rw [if_pos z, Int32.zero_add]
      · unfold la_us; rw [if_neg z, Int32.add_assoc]
    · rw [la_tlh hs] at h
      exact xt_L hv hr hp d (w + 1) f t u n (by omega) (by omega) hu h
theorem xt_line {post : Int32 → SX → Prop} {x y z : Int32} {p k : Nat} {rw : Nat → Int32} (hv : dc_V x_doc) (hr : ∀ m, m < 8 → x_referenceWidth m = rw m) (hl : x_labelWidth p = la_lw x_doc p) (hx : x = nI p) (hp : p < 24) (hy : y = nI k) (hk : k < 16) (hz : z = nI (la_fr x_doc x_view rw p k))
    (h : post (nI (la_fr x_doc x_view rw p (k + 1))) (x_tracking, x_view, x_slotNow, x_stepsBack, x_stepsAgain, x_stale, x_rounds, x_columnCount, x_doc, x_kept, x_referenceWidth, x_labelValue, x_labelWidth, x_lineCount, x_gapBefore, x_headNeeds, x_groupNeeds, x_wordLine, x_wordLeft, (upd x_lineFirst (16 * p + k) (nI (la_f x_doc x_view rw p k))), (upd x_lineWords (16 * p + k) (nI (la_t x_doc x_view rw p k))), (upd x_lineLeft (16 * p + k) (la_l0 x_doc p k)), (upd x_lineSlack (16 * p + k) (la_sl x_doc x_view rw p k)), (upd x_lineNotes (16 * p + k) (la_no x_doc x_view rw p k)), x_lineColumn, x_lineTop, x_columnParagraph, x_columnFirst, x_columnLines, x_columnNotes, x_columnFilled)) : wpX_takeLine post (x_tracking, x_view, x_slotNow, x_stepsBack, x_stepsAgain, x_stale, x_rounds, x_columnCount, x_doc, x_kept, x_referenceWidth, x_labelValue, x_labelWidth, x_lineCount, x_gapBefore, x_headNeeds, x_groupNeeds, x_wordLine, x_wordLeft, x_lineFirst, x_lineWords, x_lineLeft, x_lineSlack, x_lineNotes, x_lineColumn, x_lineTop, x_columnParagraph, x_columnFirst, x_columnLines, x_columnNotes, x_columnFilled) x y z := by
  subst hx hy hz
  have h16 := (dc_Vw hv hp).2
  have hf := la_frW (a := x_doc) (rw := rw) (vw := x_view) (p := p) k
  have el := ad_l p k
  have jl := ix_in (N := 384) el (by omega) (by omega)
  have jn := vp_in_nI (n := 16 * p + k) (N := 384) (by omega) (by omega)
  have cn := nI_clamp (n := 16 * p + k) (by omega)
  have e196 : wX_takeLine_196 post (nI p) (nI k) (la_l0 x_doc p k) (la_rm x_doc p k) (nI (la_f x_doc x_view rw p k)) (nI (la_t x_doc x_view rw p k)) (la_L x_doc x_view rw p k).2.2.2.1 (la_no x_doc x_view rw p k) (nI (la_fr x_doc x_view rw p (k + 1))) x_tracking x_view x_slotNow x_stepsBack x_stepsAgain x_stale x_rounds x_columnCount x_doc x_kept x_referenceWidth x_labelValue x_labelWidth x_lineCount x_gapBefore x_headNeeds x_groupNeeds x_wordLine x_wordLeft x_lineFirst x_lineWords x_lineLeft x_lineSlack x_lineNotes x_lineColumn x_lineTop x_columnParagraph x_columnFirst x_columnLines x_columnNotes x_columnFilled := by
    have f253 : ∀ z0 : Int32, z0 = la_sl x_doc x_view rw p k → wX_takeLine_253 post (la_no x_doc x_view rw p k) (nI (la_fr x_doc x_view rw p (k + 1))) (nI (16 * p + k)) z0 (nI (16 * p + k)) x_tracking x_view x_slotNow x_stepsBack x_stepsAgain x_stale x_rounds x_columnCount x_doc x_kept x_referenceWidth x_labelValue x_labelWidth x_lineCount x_gapBefore x_headNeeds x_groupNeeds x_wordLine x_wordLeft (upd x_lineFirst (16 * p + k) (nI (la_f x_doc x_view rw p k))) (upd x_lineWords (16 * p + k) (nI (la_t x_doc x_view rw p k))) (upd x_lineLeft (16 * p + k) (la_l0 x_doc p k)) x_lineSlack x_lineNotes x_lineColumn x_lineTop x_columnParagraph x_columnFirst x_columnLines x_columnNotes x_columnFilled := fun z0 e => by
      subst e
      exact ⟨jn, nm_r (by rw [cn]) ⟨jn, nm_r (by rw [cn]) h⟩⟩
    refine nm_r el ⟨jn, nm_r (by rw [cn]) ⟨jn, nm_r (by rw [cn]) ⟨jn, nm_r (by rw [cn]) (br_c (fun z => f253 _ ?_) (fun z => f253 _ ?_))⟩⟩⟩
    · unfold la_sl; rw [if_pos z]
    · unfold la_sl; rw [if_neg z]
  have f65 : ∀ z0 : Int32, z0 = la_rm x_doc p k → wX_takeLine_65 post (nI p) (nI k) (nI (la_fr x_doc x_view rw p k)) (nI (dc_w x_doc p)) (la_l0 x_doc p k) z0 x_tracking x_view x_slotNow x_stepsBack x_stepsAgain x_stale x_rounds x_columnCount x_doc x_kept x_referenceWidth x_labelValue x_labelWidth x_lineCount x_gapBefore x_headNeeds x_groupNeeds x_wordLine x_wordLeft x_lineFirst x_lineWords x_lineLeft x_lineSlack x_lineNotes x_lineColumn x_lineTop x_columnParagraph x_columnFirst x_columnLines x_columnNotes x_columnFilled := fun z0 e => by
    subst e
    exact ⟨dc_w x_doc p - la_fr x_doc x_view rw p k + 1, xt_L (t := 0) hv hr hp (dc_w x_doc p - la_fr x_doc x_view rw p k) (la_fr x_doc x_view rw p k) (dc_w x_doc p) 0 0 (by omega) (by omega) (fun _ => rfl) e196⟩
  have f37 : ∀ l : Int32, l = la_l0 x_doc p k → wX_takeLine_37 post (nI p) (nI k) (nI (la_fr x_doc x_view rw p k)) (nI (dc_w x_doc p)) l x_tracking x_view x_slotNow x_stepsBack x_stepsAgain x_stale x_rounds x_columnCount x_doc x_kept x_referenceWidth x_labelValue x_labelWidth x_lineCount x_gapBefore x_headNeeds x_groupNeeds x_wordLine x_wordLeft x_lineFirst x_lineWords x_lineLeft x_lineSlack x_lineNotes x_lineColumn x_lineTop x_columnParagraph x_columnFirst x_columnLines x_columnNotes x_columnFilled := fun l e => by
    subst e
    unfold wX_takeLine_37
    refine xr_cw (xr_tr hv rfl hp (t := 1) rfl (by omega) (nm_e (br_c (fun z => f65 _ ?_) (fun z => f65 _ ?_))))
    · unfold la_rm; rw [if_pos z]
    · unfold la_rm; rw [if_neg z]
  unfold wpX_takeLine
  refine xr_wo rfl hp ?_
  rw [(dc_Vw hv hp).1]
  refine xr_tr hv rfl hp (t := 0) rfl (by omega) (pk_eq k 0 (fun q => xr_tr hv rfl hp (t := 2) rfl (by omega) ⟨vp_in_nI hp (by omega), nm_r (e' := la_l0 x_doc p k) ?_ (f37 _ rfl)⟩) (fun q => f37 _ ?_))
  · rw [nI_clamp (by omega), hl]; unfold la_l0; rw [if_pos q]
  · unfold la_l0; rw [if_neg q]
/-- placeWords -/
theorem xp_L {post : SX → Prop} {p k f e t : Nat} {sl st l0 : Int32} {rw : Nat → Int32} (hv : dc_V x_doc) (hr : ∀ m, m < 8 → x_referenceWidth m = rw m) (hp : p < 24) (hf : f ≤ e) (he : e ≤ dc_w x_doc p) (ht : la_cn x_doc x_view p f (e - f) = t) (hst : ¬ st = 0 → 1 < t) (ht16 : t ≤ 16)
    (h : post (x_tracking, x_view, x_slotNow, x_stepsBack, x_stepsAgain, x_stale, x_rounds, x_columnCount, x_doc, x_kept, x_referenceWidth, x_labelValue, x_labelWidth, x_lineCount, x_gapBefore, x_headNeeds, x_groupNeeds, (la_wr x_doc x_view p x_wordLine (fun _ => nI k) f (e - f)), (la_wr x_doc x_view p x_wordLeft (fun w => (la_po x_doc x_view rw p sl (nI t - 1) st l0 f (w - f)).1) f (e - f)), x_lineFirst, x_lineWords, x_lineLeft, x_lineSlack, x_lineNotes, x_lineColumn, x_lineTop, x_columnParagraph, x_columnFirst, x_columnLines, x_columnNotes, x_columnFilled)) : ∀ (d m : Nat), f + m + d = dc_w x_doc p → f + m ≤ e →
    wX_placeWords_122 post (nI p) (nI k) sl (nI t - 1) st x_tracking x_view x_slotNow x_stepsBack x_stepsAgain x_stale x_rounds x_columnCount (d + 1) (la_po x_doc x_view rw p sl (nI t - 1) st l0 f m).1 (nI (la_cn x_doc x_view p f m)) (nI (f + m)) x_doc x_kept x_referenceWidth x_labelValue x_labelWidth x_lineCount x_gapBefore x_headNeeds x_groupNeeds (la_wr x_doc x_view p x_wordLine (fun _ => nI k) f m) (la_wr x_doc x_view p x_wordLeft (fun w => (la_po x_doc x_view rw p sl (nI t - 1) st l0 f (w - f)).1) f m) x_lineFirst x_lineWords x_lineLeft x_lineSlack x_lineNotes x_lineColumn x_lineTop x_columnParagraph x_columnFirst x_columnLines x_columnNotes x_columnFilled
  | d, m, hd, hm => by
    have h16 := (dc_Vw hv hp).2
    have hc := la_cnA (a := x_doc) (vw := x_view) (p := p) (w := f) (m := m) (k := e - f - m)
    rw [show m + (e - f - m) = e - f from by omega, ht] at hc
    have hcm := la_cnL (a := x_doc) (vw := x_view) (p := p) (w := f) (m := m)
    have stop : la_cn x_doc x_view p (f + m) (e - f - m) = 0 → post (x_tracking, x_view, x_slotNow, x_stepsBack, x_stepsAgain, x_stale, x_rounds, x_columnCount, x_doc, x_kept, x_referenceWidth, x_labelValue, x_labelWidth, x_lineCount, x_gapBefore, x_headNeeds, x_groupNeeds, (la_wr x_doc x_view p x_wordLine (fun _ => nI k) f m), (la_wr x_doc x_view p x_wordLeft (fun w => (la_po x_doc x_view rw p sl (nI t - 1) st l0 f (w - f)).1) f m), x_lineFirst, x_lineWords, x_lineLeft, x_lineSlack, x_lineNotes, x_lineColumn, x_lineTop, x_columnParagraph, x_columnFirst, x_columnLines, x_columnNotes, x_columnFilled) := fun z => by
      have e1 := la_wrE (a := x_doc) (vw := x_view) (p := p) (g := x_wordLine) (val := fun _ => nI k) (f := f) (m := m) (k := e - f - m) z
      have e2 := la_wrE (a := x_doc) (vw := x_view) (p := p) (g := x_wordLeft) (val := fun w => (la_po x_doc x_view rw p sl (nI t - 1) st l0 f (w - f)).1) (f := f) (m := m) (k := e - f - m) z
      rw [show m + (e - f - m) = e - f from by omega] at e1 e2
      rw [← e1, ← e2]; exact h
    have gaps : nI t - 1 < nI (la_cn x_doc x_view p f m) ↔ t ≤ la_cn x_doc x_view p f m := by
      by_cases z : t = 0
      · subst z
        refine ⟨fun _ => Nat.zero_le _, fun _ => ?_⟩
        rw [Int32.lt_iff_toInt_lt, nI_toInt (by omega), show (nI 0 - 1).toInt = -1 from by decide]; omega
      · obtain ⟨s, rfl⟩ : ∃ s, t = s + 1 := ⟨t - 1, by omega⟩
        rw [nI_pred, nI_ltI (by omega) (by omega)]; omega
    unfold wX_placeWords_122
    refine xr_wo rfl hp ?_
    rw [(dc_Vw hv hp).1]
    match d with
    | 0 =>
      refine br_t (nI_le (by omega) (by omega)) (stop ?_)
      rw [show e - f - m = 0 from by omega]; rfl
    | d + 1 =>
      refine br_f (nI_ge (by omega) (by omega)) (br_c (fun z => stop ?_) (fun z => ?_))
      · have := gaps.mp z; omega
      · have z' : la_cn x_doc x_view p f m < t := Nat.not_le.mp fun q => z (gaps.mpr q)
        have hlt : f + m < e := by
          rcases Nat.lt_or_ge (f + m) e with q | q
          · exact q
          · rw [show e - f - m = 0 from by omega] at hc
            have : la_cn x_doc x_view p (f + m) 0 = 0 := rfl
            omega
        refine xr_sh rfl hp rfl (by omega) (fun hs => br_f (by decide) ?_) (fun hs => br_t rfl (nm_r (nI_1 _) ?_))
        · have el := ad_l p (f + m)
          have jl := ix_in (N := 384) el (by omega) (by omega)
          have cl := ix_c el (by omega)
          have q1 : la_wr x_doc x_view p x_wordLine (fun _ => nI k) f (m + 1) = _ := if_pos hs
          have q2 : la_wr x_doc x_view p x_wordLeft (fun w => (la_po x_doc x_view rw p sl (nI t - 1) st l0 f (w - f)).1) f (m + 1) = upd (la_wr x_doc x_view p x_wordLeft (fun w => (la_po x_doc x_view rw p sl (nI t - 1) st l0 f (w - f)).1) f m) (16 * p + (f + m)) (la_po x_doc x_view rw p sl (nI t - 1) st l0 f m).1 :=
            (if_pos hs).trans (congrArg (fun z => upd (la_wr x_doc x_view p x_wordLeft (fun w => (la_po x_doc x_view rw p sl (nI t - 1) st l0 f (w - f)).1) f m) (16 * p + (f + m)) (la_po x_doc x_view rw p sl (nI t - 1) st l0 f z).1) (show f + m - f = m from by omega))
          have q3 : la_po x_doc x_view rw p sl (nI t - 1) st l0 f (m + 1) = _ := if_pos hs
          have q4 : la_cn x_doc x_view p f (m + 1) = la_cn x_doc x_view p f m + 1 := congrArg (la_cn x_doc x_view p f m + ·) (if_pos hs)
          have ih := xp_L hv hr hp hf he ht hst ht16 h d (m + 1) (by omega) (by omega)
          rw [q1, q2, q3, q4, la_poC] at ih
          have ih1 : ∀ v : Int32, v = la_s1 (la_po x_doc x_view rw p sl (nI t - 1) st l0 f m).1 (la_wd x_doc rw p (f + m)) sl (nI t - 1) st (la_cn x_doc x_view p f m) → _ := fun v ev => ev ▸ ih
          refine ⟨jl, nm_r (by rw [cl]) ⟨jl, nm_r (by rw [cl]) (xr_wd hv hr rfl hp rfl (by omega) (nm_e (br_c (fun s0 => nm_r (nI_1 _) (nm_r (nI_1 _) ?_)) (fun s0 => ?_))))⟩⟩
          · refine ih1 _ ?_
            unfold la_s1; rw [if_pos s0]
          · have hne : ¬ nI t - 1 = 0 := by
              obtain ⟨s, rfl⟩ : ∃ s, t = s + 1 := ⟨t - 1, by omega⟩
              have := hst s0
              rw [nI_pred]; exact nI_ne0 (by omega) (by omega)
            refine ⟨hne, hne, br_c (fun s1 => nm_e (nm_r (nI_1 _) (nm_r (nI_1 _) ?_))) (fun s1 => nm_e (nm_r (nI_1 _) (nm_r (nI_1 _) ?_)))⟩
            · refine ih1 _ ?_
              unfold la_s1; rw [if_neg s0, if_pos s1]
            · refine ih1 _ ?_
              unfold la_s1; rw [if_neg s0, if_neg s1]
        · have q1 : la_wr x_doc x_view p x_wordLine (fun _ => nI k) f (m + 1) = _ := if_neg hs
          have q2 : la_wr x_doc x_view p x_wordLeft (fun w => (la_po x_doc x_view rw p sl (nI t - 1) st l0 f (w - f)).1) f (m + 1) = _ := if_neg hs
          have q3 : la_po x_doc x_view rw p sl (nI t - 1) st l0 f (m + 1) = _ := if_neg hs
          have q4 : la_cn x_doc x_view p f (m + 1) = la_cn x_doc x_view p f m := congrArg (la_cn x_doc x_view p f m + ·) (if_neg hs)
          have ih := xp_L hv hr hp hf he ht hst ht16 h d (m + 1) (by omega) (by omega)
          rw [q1, q2, q3, q4] at ih
          exact ih
  termination_by d => d
end
section
section
variable {a rw : Nat → Int32} {vw : Int32} {p : Nat}
theorem la_t0 {k : Nat} (h : la_t a vw rw p k = 0) : la_fr a vw rw p (k + 1) = dc_w a p := by
  have hw := la_frW (a := a) (rw := rw) (vw := vw) (p := p) k
  have hw1 := la_frW (a := a) (rw := rw) (vw := vw) (p := p) (k + 1)
  rcases Nat.lt_or_ge (la_fr a vw rw p (k + 1)) (dc_w a p) with q | q
  · have z := ((la_tl1 (a := a) (rw := rw) (vw := vw) (p := p) (rm := la_rm a p k) (dc_w a p - la_fr a vw rw p k) (la_fr a vw rw p k) (dc_w a p) 0 0 0).2.2.1 (by
      have : (la_tl a vw rw p (la_rm a p k) (dc_w a p - la_fr a vw rw p k) (la_fr a vw rw p k) (dc_w a p) 0 0 0).1 < dc_w a p := q
      omega)).2
    unfold la_t la_L at h
    omega
  · omega
theorem la_fE {k : Nat} : la_f a vw rw p k ≤ la_fr a vw rw p (k + 1) := by
  rcases la_fC (a := a) (rw := rw) (vw := vw) (p := p) (k := k) with ⟨h1, h2⟩ | h
  · rw [h2, la_t0 h1]; exact Nat.le_refl _
  · omega
theorem la_tF {k : Nat} : la_cn a vw p (la_f a vw rw p k) (la_fr a vw rw p (k + 1) - la_f a vw rw p k) = la_t a vw rw p k := by
  rcases la_fC (a := a) (rw := rw) (vw := vw) (p := p) (k := k) with ⟨h1, h2⟩ | ⟨h1, h2, h3, h4⟩
  · rw [h2, la_t0 h1, Nat.sub_self, h1]; rfl
  · have e := la_cnA (a := a) (vw := vw) (p := p) (w := la_fr a vw rw p k) (m := la_f a vw rw p k - la_fr a vw rw p k) (k := la_fr a vw rw p (k + 1) - la_f a vw rw p k)
    rw [show la_f a vw rw p k - la_fr a vw rw p k + (la_fr a vw rw p (k + 1) - la_f a vw rw p k) = la_fr a vw rw p (k + 1) - la_fr a vw rw p k from by omega, ← la_tC,
      show la_fr a vw rw p k + (la_f a vw rw p k - la_fr a vw rw p k) = la_f a vw rw p k from by omega,
      la_cnN (m := la_f a vw rw p k - la_fr a vw rw p k) (fun v q1 q2 => h4 v q1 (by omega))] at e
    omega
theorem la_fS {k w : Nat} (h1 : la_fr a vw rw p k ≤ w) (h2 : w < la_fr a vw rw p (k + 1)) (hs : la_sh a vw p w = true) : la_f a vw rw p k ≤ w := by
  rcases la_fC (a := a) (rw := rw) (vw := vw) (p := p) (k := k) with ⟨q1, q2⟩ | ⟨q1, q2, q3, q4⟩
  · rw [la_tC] at q1
    exact absurd hs (la_cnZ q1 w h1 (by omega))
  · exact Nat.not_lt.mp fun z => q4 w h1 z hs
end
/-- what is written for a line's words -/
def la_wL (a : Nat → Int32) (vw : Int32) (rw : Nat → Int32) (p k : Nat) (g : Nat → Int32) : Nat → Int32 := la_wr a vw p g (fun _ => nI k) (la_f a vw rw p k) (la_fr a vw rw p (k + 1) - la_f a vw rw p k)
def la_wX (a : Nat → Int32) (vw : Int32) (rw : Nat → Int32) (p k : Nat) (g : Nat → Int32) : Nat → Int32 := la_wr a vw p g (fun w => la_ps a vw rw p k w) (la_f a vw rw p k) (la_fr a vw rw p (k + 1) - la_f a vw rw p k)
variable {x_tracking x_view x_slotNow x_stepsBack x_stepsAgain x_stale x_rounds x_columnCount : Int32} {x_doc x_kept x_referenceWidth x_labelValue x_labelWidth x_lineCount x_gapBefore x_headNeeds x_groupNeeds x_wordLine x_wordLeft x_lineFirst x_lineWords x_lineLeft x_lineSlack x_lineNotes x_lineColumn x_lineTop x_columnParagraph x_columnFirst x_columnLines x_columnNotes x_columnFilled : Nat → Int32}
theorem xp_place {post : SX → Prop} {x y : Int32} {p k : Nat} {rw : Nat → Int32} (hv : dc_V x_doc) (hr : ∀ m, m < 8 → x_referenceWidth m = rw m) (hx : x = nI p) (hp : p < 24) (hy : y = nI k) (hk : k < la_nl x_doc x_view rw p)
    (hlf : x_lineFirst (16 * p + k) = nI (la_f x_doc x_view rw p k)) (hln : x_lineWords (16 * p + k) = nI (la_t x_doc x_view rw p k)) (hll : x_lineLeft (16 * p + k) = la_l0 x_doc p k) (hls : x_lineSlack (16 * p + k) = la_sl x_doc x_view rw p k) (hlc : x_lineCount p = nI (la_nl x_doc x_view rw p))
    (h : post (x_tracking, x_view, x_slotNow, x_stepsBack, x_stepsAgain, x_stale, x_rounds, x_columnCount, x_doc, x_kept, x_referenceWidth, x_labelValue, x_labelWidth, x_lineCount, x_gapBefore, x_headNeeds, x_groupNeeds, (la_wL x_doc x_view rw p k x_wordLine), (la_wX x_doc x_view rw p k x_wordLeft), x_lineFirst, x_lineWords, (upd x_lineLeft (16 * p + k) (la_al x_doc x_view rw p k)), x_lineSlack, x_lineNotes, x_lineColumn, x_lineTop, x_columnParagraph, x_columnFirst, x_columnLines, x_columnNotes, x_columnFilled)) : wpX_placeWords post (x_tracking, x_view, x_slotNow, x_stepsBack, x_stepsAgain, x_stale, x_rounds, x_columnCount, x_doc, x_kept, x_referenceWidth, x_labelValue, x_labelWidth, x_lineCount, x_gapBefore, x_headNeeds, x_groupNeeds, x_wordLine, x_wordLeft, x_lineFirst, x_lineWords, x_lineLeft, x_lineSlack, x_lineNotes, x_lineColumn, x_lineTop, x_columnParagraph, x_columnFirst, x_columnLines, x_columnNotes, x_columnFilled) x y := by
  subst hx hy
  have h16 := (dc_Vw hv hp).2
  have hn := la_nlP (a := x_doc) (rw := rw) (vw := x_view) h16
  have el := ad_l p k
  have jn := vp_in_nI (n := 16 * p + k) (N := 384) (by omega) (by omega)
  have cn := nI_clamp (n := 16 * p + k) (by omega)
  have hf := la_fE (a := x_doc) (rw := rw) (vw := x_view) (p := p) (k := k)
  have he := la_frW (a := x_doc) (rw := rw) (vw := x_view) (p := p) (k + 1)
  have htt := la_tF (a := x_doc) (rw := rw) (vw := x_view) (p := p) (k := k)
  have ht16 := la_tB (a := x_doc) (rw := rw) (vw := x_view) (p := p) (k := k) h16
  have f101 : ∀ (st : Int32) (x_lineLeft : Nat → Int32), st = la_sp x_doc x_view rw p k → x_lineLeft (16 * p + k) = la_al x_doc x_view rw p k → post (x_tracking, x_view, x_slotNow, x_stepsBack, x_stepsAgain, x_stale, x_rounds, x_columnCount, x_doc, x_kept, x_referenceWidth, x_labelValue, x_labelWidth, x_lineCount, x_gapBefore, x_headNeeds, x_groupNeeds, (la_wL x_doc x_view rw p k x_wordLine), (la_wX x_doc x_view rw p k x_wordLeft), x_lineFirst, x_lineWords, x_lineLeft, x_lineSlack, x_lineNotes, x_lineColumn, x_lineTop, x_columnParagraph, x_columnFirst, x_columnLines, x_columnNotes, x_columnFilled) →
      wX_placeWords_101 post (nI p) (nI k) (nI (16 * p + k)) (la_sl x_doc x_view rw p k) (nI (la_t x_doc x_view rw p k) - 1) st x_tracking x_view x_slotNow x_stepsBack x_stepsAgain x_stale x_rounds x_columnCount x_doc x_kept x_referenceWidth x_labelValue x_labelWidth x_lineCount x_gapBefore x_headNeeds x_groupNeeds x_wordLine x_wordLeft x_lineFirst x_lineWords x_lineLeft x_lineSlack x_lineNotes x_lineColumn x_lineTop x_columnParagraph x_columnFirst x_columnLines x_columnNotes x_columnFilled := fun st x_lineLeft es ea h' => by
    subst es
    refine ⟨jn, nm_r (e' := la_al x_doc x_view rw p k) (by rw [cn, ea]) ⟨jn, nm_r (e' := nI (la_f x_doc x_view rw p k)) (by rw [cn, hlf]) ⟨dc_w x_doc p - la_f x_doc x_view rw p k + 1, ?_⟩⟩⟩
    exact xp_L (m := 0) (l0 := la_al x_doc x_view rw p k) hv hr hp hf he htt (fun z => by
      unfold la_sp at z
      split at z
      · rename_i c; exact c.2.1
      · exact absurd rfl z) ht16 h' (dc_w x_doc p - la_f x_doc x_view rw p k) (by omega) hf
  have f63 : ∀ (x_lineLeft : Nat → Int32), x_lineLeft (16 * p + k) = la_al x_doc x_view rw p k → post (x_tracking, x_view, x_slotNow, x_stepsBack, x_stepsAgain, x_stale, x_rounds, x_columnCount, x_doc, x_kept, x_referenceWidth, x_labelValue, x_labelWidth, x_lineCount, x_gapBefore, x_headNeeds, x_groupNeeds, (la_wL x_doc x_view rw p k x_wordLine), (la_wX x_doc x_view rw p k x_wordLeft), x_lineFirst, x_lineWords, x_lineLeft, x_lineSlack, x_lineNotes, x_lineColumn, x_lineTop, x_columnParagraph, x_columnFirst, x_columnLines, x_columnNotes, x_columnFilled) →
      wX_placeWords_63 post (nI p) (nI k) (nI (16 * p + k)) (dc_v x_doc p 6) (la_sl x_doc x_view rw p k) x_tracking x_view x_slotNow x_stepsBack x_stepsAgain x_stale x_rounds x_columnCount x_doc x_kept x_referenceWidth x_labelValue x_labelWidth x_lineCount x_gapBefore x_headNeeds x_groupNeeds x_wordLine x_wordLeft x_lineFirst x_lineWords x_lineLeft x_lineSlack x_lineNotes x_lineColumn x_lineTop x_columnParagraph x_columnFirst x_columnLines x_columnNotes x_columnFilled := fun x_lineLeft ea h' => by
    have g0 : nI (la_t x_doc x_view rw p k) - 1 ≤ 0 ↔ la_t x_doc x_view rw p k ≤ 1 := by
      generalize la_t x_doc x_view rw p k = t at *
      by_cases z : t = 0
      · subst z; exact ⟨fun _ => by omega, fun _ => by decide⟩
      · obtain ⟨s, rfl⟩ : ∃ s, t = s + 1 := ⟨t - 1, by omega⟩
        rw [nI_pred, ← nI_0, nI_leI (by omega) (by omega)]; omega
    have f100 : ¬ (dc_v x_doc p 6 = 3 ∧ 1 < la_t x_doc x_view rw p k ∧ k + 1 < la_nl x_doc x_view rw p) → wX_placeWords_100 post (nI p) (nI k) (nI (16 * p + k)) (la_sl x_doc x_view rw p k) (nI (la_t x_doc x_view rw p k) - 1) x_tracking x_view x_slotNow x_stepsBack x_stepsAgain x_stale x_rounds x_columnCount x_doc x_kept x_referenceWidth x_labelValue x_labelWidth x_lineCount x_gapBefore x_headNeeds x_groupNeeds x_wordLine x_wordLeft x_lineFirst x_lineWords x_lineLeft x_lineSlack x_lineNotes x_lineColumn x_lineTop x_columnParagraph x_columnFirst x_columnLines x_columnNotes x_columnFilled := fun z =>
      f101 0 x_lineLeft (if_neg z).symm ea h'
    refine ⟨jn, nm_r (e' := nI (la_t x_doc x_view rw p k) - 1) (by rw [cn, hln]) (br_c (fun z3 => br_c (fun zg => f100 fun q => ?_) (fun zg => ⟨vp_in_nI hp (by omega), ?_⟩)) (fun z3 => f100 fun q => z3 q.1))⟩
    · have := g0.mp zg; omega
    · rw [nI_clamp (by omega), hlc]
      have e1 : nI (la_nl x_doc x_view rw p) - 1 = nI (la_nl x_doc x_view rw p - 1) := pk_sub (b := 1) (by omega)
      rw [e1]
      refine pk_le (la_nl x_doc x_view rw p - 1) k (fun zk => f100 fun q => ?_) (fun zk => f101 1 x_lineLeft (if_pos ⟨z3, ?_, by omega⟩).symm ea h')
      · omega
      · have : ¬ la_t x_doc x_view rw p k ≤ 1 := fun q => zg (g0.mpr q)
        omega
  refine nm_r el (xr_tr hv rfl hp (t := 6) rfl (by omega) ⟨jn, nm_r (e' := la_sl x_doc x_view rw p k) (by rw [cn, hls]) (br_c (fun z => ⟨jn, jn, nm_r (e' := upd x_lineLeft (16 * p + k) (la_al x_doc x_view rw p k)) ?_ (f63 _ pk_us h)⟩) (fun z => br_c (fun y => ⟨jn, by decide, jn, nm_r (e' := upd x_lineLeft (16 * p + k) (la_al x_doc x_view rw p k)) ?_ (f63 _ pk_us h)⟩) (fun y => ?_)))⟩)
  · rw [cn, hll]; unfold la_al; rw [if_pos z]
  · rw [cn, hll]; unfold la_al; rw [if_neg z, if_pos y]
  · have ea : la_al x_doc x_view rw p k = la_l0 x_doc p k := by unfold la_al; rw [if_neg z, if_neg y]
    rw [ea, op_upd2 hll] at h
    exact f63 x_lineLeft (hll.trans ea.symm) h
/-- paragraphs broken so far -/
def xb_B (a : Nat → Int32) (vw : Int32) (rw : Nat → Int32) (p : Nat) (lc wl wx lf ln ll ls lo : Nat → Int32) : Prop := ∀ q, q < p → lc q = nI (la_nl a vw rw q)
  ∧ (∀ j, j < la_nl a vw rw q → lf (16 * q + j) = nI (la_f a vw rw q j) ∧ ln (16 * q + j) = nI (la_t a vw rw q j) ∧ ll (16 * q + j) = la_al a vw rw q j ∧ ls (16 * q + j) = la_sl a vw rw q j ∧ lo (16 * q + j) = la_no a vw rw q j)
  ∧ (∀ j w, j < la_nl a vw rw q → la_fr a vw rw q j ≤ w → w < la_fr a vw rw q (j + 1) → la_sh a vw q w = true → wl (16 * q + w) = nI j ∧ wx (16 * q + w) = la_ps a vw rw q j w)
theorem xb_fr {a rw : Nat → Int32} {vw : Int32} {p : Nat} {lc wl wx lf ln ll ls lo lc1 wl1 wx1 lf1 ln1 ll1 ls1 lo1 : Nat → Int32} (hv : dc_V a) (hp : p ≤ 24) (H : xb_B a vw rw p lc wl wx lf ln ll ls lo)
    (h1 : ∀ q, q < p → lc1 q = lc q) (h2 : ∀ i, i < 16 * p → wl1 i = wl i) (h3 : ∀ i, i < 16 * p → wx1 i = wx i) (h4 : ∀ i, i < 16 * p → lf1 i = lf i) (h5 : ∀ i, i < 16 * p → ln1 i = ln i) (h6 : ∀ i, i < 16 * p → ll1 i = ll i) (h7 : ∀ i, i < 16 * p → ls1 i = ls i) (h8 : ∀ i, i < 16 * p → lo1 i = lo i) :
    xb_B a vw rw p lc1 wl1 wx1 lf1 ln1 ll1 ls1 lo1 := by
  intro q hq
  obtain ⟨g1, g2, g3⟩ := H q hq
  have h16 := (dc_Vw hv (p := q) (by omega)).2
  have hn := (la_nlP (a := a) (rw := rw) (vw := vw) h16).2.1
  refine ⟨(h1 q hq).trans g1, fun j hj => ?_, fun j w hj hw1 hw2 hs => ?_⟩
  · rw [h4 _ (by omega), h5 _ (by omega), h6 _ (by omega), h7 _ (by omega), h8 _ (by omega)]; exact g2 j hj
  · have := la_frW (a := a) (rw := rw) (vw := vw) (p := q) (j + 1)
    rw [h2 _ (by omega), h3 _ (by omega)]; exact g3 j w hj hw1 hw2 hs
end
section
variable {x_tracking x_view x_slotNow x_stepsBack x_stepsAgain x_stale x_rounds x_columnCount : Int32} {x_doc x_kept x_referenceWidth x_labelValue x_labelWidth x_lineCount x_gapBefore x_headNeeds x_groupNeeds x_wordLine x_wordLeft x_lineFirst x_lineWords x_lineLeft x_lineSlack x_lineNotes x_lineColumn x_lineTop x_columnParagraph x_columnFirst x_columnLines x_columnNotes x_columnFilled : Nat → Int32}
theorem xb_L2 {post : SX → Prop} {p : Nat} {rw : Nat → Int32} (hv : dc_V x_doc) (hr : ∀ m, m < 8 → x_referenceWidth m = rw m) (hp : p < 24) (hlc : x_lineCount p = nI (la_nl x_doc x_view rw p))
    (hT : ∀ j, j < la_nl x_doc x_view rw p → x_lineFirst (16 * p + j) = nI (la_f x_doc x_view rw p j) ∧ x_lineWords (16 * p + j) = nI (la_t x_doc x_view rw p j) ∧ x_lineSlack (16 * p + j) = la_sl x_doc x_view rw p j ∧ x_lineNotes (16 * p + j) = la_no x_doc x_view rw p j)
    (h : ∀ x_wordLine x_wordLeft x_lineLeft, xb_B x_doc x_view rw (p + 1) x_lineCount x_wordLine x_wordLeft x_lineFirst x_lineWords x_lineLeft x_lineSlack x_lineNotes → post (x_tracking, x_view, x_slotNow, x_stepsBack, x_stepsAgain, x_stale, x_rounds, x_columnCount, x_doc, x_kept, x_referenceWidth, x_labelValue, x_labelWidth, x_lineCount, x_gapBefore, x_headNeeds, x_groupNeeds, x_wordLine, x_wordLeft, x_lineFirst, x_lineWords, x_lineLeft, x_lineSlack, x_lineNotes, x_lineColumn, x_lineTop, x_columnParagraph, x_columnFirst, x_columnLines, x_columnNotes, x_columnFilled)) : ∀ (d k : Nat) (x_wordLine x_wordLeft x_lineLeft : Nat → Int32), k + d = la_nl x_doc x_view rw p → xb_B x_doc x_view rw p x_lineCount x_wordLine x_wordLeft x_lineFirst x_lineWords x_lineLeft x_lineSlack x_lineNotes →
    (∀ j, j < k → x_lineLeft (16 * p + j) = la_al x_doc x_view rw p j) → (∀ j, k ≤ j → j < la_nl x_doc x_view rw p → x_lineLeft (16 * p + j) = la_l0 x_doc p j) →
    (∀ j w, j < k → la_fr x_doc x_view rw p j ≤ w → w < la_fr x_doc x_view rw p (j + 1) → la_sh x_doc x_view p w = true → x_wordLine (16 * p + w) = nI j ∧ x_wordLeft (16 * p + w) = la_ps x_doc x_view rw p j w) →
    wX_breakParagraph_56 post (nI p) (nI (la_nl x_doc x_view rw p)) (d + 1) (nI k) x_tracking x_view x_slotNow x_stepsBack x_stepsAgain x_stale x_rounds x_columnCount x_doc x_kept x_referenceWidth x_labelValue x_labelWidth x_lineCount x_gapBefore x_headNeeds x_groupNeeds x_wordLine x_wordLeft x_lineFirst x_lineWords x_lineLeft x_lineSlack x_lineNotes x_lineColumn x_lineTop x_columnParagraph x_columnFirst x_columnLines x_columnNotes x_columnFilled
  | 0, k, x_wordLine, x_wordLeft, x_lineLeft, hk, H, h1, h2, h3 => by
    have hn := (la_nlP (a := x_doc) (rw := rw) (vw := x_view) (dc_Vw hv hp).2).2.1
    obtain rfl : k = la_nl x_doc x_view rw p := by omega
    refine br_t (nI_le (by omega) (by omega)) (h _ _ _ fun q hq => ?_)
    by_cases e : q = p
    · subst e
      exact ⟨hlc, fun j hj => ⟨(hT j hj).1, (hT j hj).2.1, h1 j hj, (hT j hj).2.2.1, (hT j hj).2.2.2⟩, h3⟩
    · exact H q (by omega)
  | d + 1, k, x_wordLine, x_wordLeft, x_lineLeft, hk, H, h1, h2, h3 => by
    have h16 := (dc_Vw hv hp).2
    have hn := (la_nlP (a := x_doc) (rw := rw) (vw := x_view) h16).2.1
    have hw1 := la_frW (a := x_doc) (rw := rw) (vw := x_view) (p := p) (k + 1)
    have hrange : ∀ v, la_f x_doc x_view rw p k ≤ v → v < la_fr x_doc x_view rw p (k + 1) → la_fr x_doc x_view rw p k ≤ v := fun v q1 q2 => by
      rcases la_fC (a := x_doc) (rw := rw) (vw := x_view) (p := p) (k := k) with z | z <;> omega
    have hfe := la_fE (a := x_doc) (rw := rw) (vw := x_view) (p := p) (k := k)
    refine br_f (nI_ge (by omega) (by omega)) (xp_place hv hr rfl hp rfl (by omega) (hT k (by omega)).1 (hT k (by omega)).2.1 (h2 k (by omega) (by omega)) (hT k (by omega)).2.2.1 hlc (nm_r (nI_1 k) ?_))
    refine xb_L2 hv hr hp hlc hT h d (k + 1) _ _ _ (by omega) (xb_fr hv (by omega) H (fun _ _ => rfl) (fun i hi => la_wrO fun v _ _ _ => by omega) (fun i hi => la_wrO fun v _ _ _ => by omega) (fun _ _ => rfl) (fun _ _ => rfl) (fun i hi => pk_un (by omega)) (fun _ _ => rfl) (fun _ _ => rfl)) (fun j hj => ?_) (fun j hj1 hj2 => ?_) (fun j w hj hw2 hw3 hs => ?_)
    · by_cases e : j = k
      · subst e; exact pk_us
      · rw [pk_un (by omega)]; exact h1 j (by omega)
    · rw [pk_un (by omega)]; exact h2 j (by omega) hj2
    · by_cases e : j = k
      · subst e
        have q := la_fS hw2 hw3 hs
        exact ⟨la_wrI hs q (by omega), la_wrI (val := fun w => la_ps x_doc x_view rw p j w) hs q (by omega)⟩
      · have hm := la_frm (a := x_doc) (rw := rw) (vw := x_view) (p := p) (show j + 1 ≤ k from by omega)
        have e1 : la_wL x_doc x_view rw p k x_wordLine (16 * p + w) = x_wordLine (16 * p + w) := la_wrO fun v q1 q2 _ => by have := hrange v q1 (by omega); omega
        have e2 : la_wX x_doc x_view rw p k x_wordLeft (16 * p + w) = x_wordLeft (16 * p + w) := la_wrO fun v q1 q2 _ => by have := hrange v q1 (by omega); omega
        rw [e1, e2]
        exact h3 j w (by omega) hw2 hw3 hs
theorem xb_L1 {post : SX → Prop} {p : Nat} {rw : Nat → Int32} (hv : dc_V x_doc) (hr : ∀ m, m < 8 → x_referenceWidth m = rw m) (hl : x_labelWidth p = la_lw x_doc p) (hp : p < 24)
    (h : ∀ x_lineCount x_wordLine x_wordLeft x_lineFirst x_lineWords x_lineLeft x_lineSlack x_lineNotes, xb_B x_doc x_view rw (p + 1) x_lineCount x_wordLine x_wordLeft x_lineFirst x_lineWords x_lineLeft x_lineSlack x_lineNotes → post (x_tracking, x_view, x_slotNow, x_stepsBack, x_stepsAgain, x_stale, x_rounds, x_columnCount, x_doc, x_kept, x_referenceWidth, x_labelValue, x_labelWidth, x_lineCount, x_gapBefore, x_headNeeds, x_groupNeeds, x_wordLine, x_wordLeft, x_lineFirst, x_lineWords, x_lineLeft, x_lineSlack, x_lineNotes, x_lineColumn, x_lineTop, x_columnParagraph, x_columnFirst, x_columnLines, x_columnNotes, x_columnFilled)) : ∀ (d k : Nat) (x3 : Int32) (x_lineFirst x_lineWords x_lineLeft x_lineSlack x_lineNotes : Nat → Int32), k + d = 16 → (∀ j, 1 ≤ j → j ≤ k → la_fr x_doc x_view rw p j < dc_w x_doc p) → xb_B x_doc x_view rw p x_lineCount x_wordLine x_wordLeft x_lineFirst x_lineWords x_lineLeft x_lineSlack x_lineNotes →
    (∀ j, j < k → x_lineFirst (16 * p + j) = nI (la_f x_doc x_view rw p j) ∧ x_lineWords (16 * p + j) = nI (la_t x_doc x_view rw p j) ∧ x_lineLeft (16 * p + j) = la_l0 x_doc p j ∧ x_lineSlack (16 * p + j) = la_sl x_doc x_view rw p j ∧ x_lineNotes (16 * p + j) = la_no x_doc x_view rw p j) →
    wX_breakParagraph_7 post (nI p) (d + 1) (nI (la_fr x_doc x_view rw p k)) x3 (nI k) x_tracking x_view x_slotNow x_stepsBack x_stepsAgain x_stale x_rounds x_columnCount x_doc x_kept x_referenceWidth x_labelValue x_labelWidth x_lineCount x_gapBefore x_headNeeds x_groupNeeds x_wordLine x_wordLeft x_lineFirst x_lineWords x_lineLeft x_lineSlack x_lineNotes x_lineColumn x_lineTop x_columnParagraph x_columnFirst x_columnLines x_columnNotes x_columnFilled
  | 0, k, x3, x_lineFirst, x_lineWords, x_lineLeft, x_lineSlack, x_lineNotes, hk, hj, H, hT => by
    have h16 := (dc_Vw hv hp).2
    have z := hj k (by omega) (Nat.le_refl _)
    rcases la_frB (a := x_doc) (rw := rw) (vw := x_view) (p := p) k with q | q <;> exact absurd z (by omega)
  | d + 1, k, x3, x_lineFirst, x_lineWords, x_lineLeft, x_lineSlack, x_lineNotes, hk, hj, H, hT => by
    have h16 := (dc_Vw hv hp).2
    have hw1 := la_frW (a := x_doc) (rw := rw) (vw := x_view) (p := p) (k + 1)
    have jp := vp_in_nI (n := p) (N := 24) hp (by omega)
    have hT1 : ∀ j, j < k + 1 → upd x_lineFirst (16 * p + k) (nI (la_f x_doc x_view rw p k)) (16 * p + j) = nI (la_f x_doc x_view rw p j) ∧ upd x_lineWords (16 * p + k) (nI (la_t x_doc x_view rw p k)) (16 * p + j) = nI (la_t x_doc x_view rw p j) ∧ upd x_lineLeft (16 * p + k) (la_l0 x_doc p k) (16 * p + j) = la_l0 x_doc p j ∧ upd x_lineSlack (16 * p + k) (la_sl x_doc x_view rw p k) (16 * p + j) = la_sl x_doc x_view rw p j ∧ upd x_lineNotes (16 * p + k) (la_no x_doc x_view rw p k) (16 * p + j) = la_no x_doc x_view rw p j := fun j hj => by
      by_cases e : j = k
      · subst e; rw [pk_us, pk_us, pk_us, pk_us, pk_us]; exact ⟨rfl, rfl, rfl, rfl, rfl⟩
      · rw [pk_un (by omega), pk_un (by omega), pk_un (by omega), pk_un (by omega), pk_un (by omega)]; exact hT j (by omega)
    refine br_f (nI_ge (b := 16) (by omega) (by omega)) (xt_line hv hr hl rfl hp rfl (by omega) rfl (nm_r (nI_1 k) (xr_wo rfl hp ?_)))
    rw [(dc_Vw hv hp).1]
    refine pk_lt (la_fr x_doc x_view rw p (k + 1)) (dc_w x_doc p) (fun z => nm_r (nI_1 k) ?_) (fun z => ⟨jp, nm_r (e' := upd x_lineCount p (nI (k + 1))) (by rw [nI_clamp (by omega)]) ⟨k + 1 + 1, ?_⟩⟩)
    · refine xb_L1 hv hr hl hp h d (k + 1) _ _ _ _ _ _ (by omega) (fun j q1 q2 => ?_) (xb_fr hv (by omega) H (fun _ _ => rfl) (fun _ _ => rfl) (fun _ _ => rfl) (fun i hi => pk_un (by omega)) (fun i hi => pk_un (by omega)) (fun i hi => pk_un (by omega)) (fun i hi => pk_un (by omega)) (fun i hi => pk_un (by omega))) hT1
      by_cases e : j = k + 1
      · subst e; exact z
      · exact hj j q1 (by omega)
    · have en : la_nl x_doc x_view rw p = k + 1 := la_nlE h16 (by omega) (fun j q1 q2 => hj j q1 (by omega)) (by omega)
      have L := xb_L2 (post := post) (x_lineCount := upd x_lineCount p (nI (k + 1))) (x_lineFirst := upd x_lineFirst (16 * p + k) (nI (la_f x_doc x_view rw p k))) (x_lineWords := upd x_lineWords (16 * p + k) (nI (la_t x_doc x_view rw p k))) (x_lineSlack := upd x_lineSlack (16 * p + k) (la_sl x_doc x_view rw p k)) (x_lineNotes := upd x_lineNotes (16 * p + k) (la_no x_doc x_view rw p k))
        hv hr hp (by rw [pk_us, en]) (fun j hj => ⟨(hT1 j (by omega)).1, (hT1 j (by omega)).2.1, (hT1 j (by omega)).2.2.2⟩) (fun _ _ _ G => h _ _ _ _ _ _ _ _ G) (k + 1) 0 x_wordLine x_wordLeft (upd x_lineLeft (16 * p + k) (la_l0 x_doc p k)) (by omega)
        (xb_fr hv (by omega) H (fun q hq => pk_un (by omega)) (fun _ _ => rfl) (fun _ _ => rfl) (fun i hi => pk_un (by omega)) (fun i hi => pk_un (by omega)) (fun i hi => pk_un (by omega)) (fun i hi => pk_un (by omega)) (fun i hi => pk_un (by omega)))
        (fun j hj => absurd hj (by omega)) (fun j _ hj => (hT1 j (by omega)).2.2.1) (fun j w hj => absurd hj (by omega))
      rw [en] at L
      exact L
theorem xs_break {post : SX → Prop} {x : Int32} {p : Nat} {rw : Nat → Int32} (hv : dc_V x_doc) (hr : ∀ m, m < 8 → x_referenceWidth m = rw m) (hl : x_labelWidth p = la_lw x_doc p) (hx : x = nI p) (hp : p < 24) (H : xb_B x_doc x_view rw p x_lineCount x_wordLine x_wordLeft x_lineFirst x_lineWords x_lineLeft x_lineSlack x_lineNotes)
    (h : ∀ x_lineCount x_wordLine x_wordLeft x_lineFirst x_lineWords x_lineLeft x_lineSlack x_lineNotes, xb_B x_doc x_view rw (p + 1) x_lineCount x_wordLine x_wordLeft x_lineFirst x_lineWords x_lineLeft x_lineSlack x_lineNotes → post (x_tracking, x_view, x_slotNow, x_stepsBack, x_stepsAgain, x_stale, x_rounds, x_columnCount, x_doc, x_kept, x_referenceWidth, x_labelValue, x_labelWidth, x_lineCount, x_gapBefore, x_headNeeds, x_groupNeeds, x_wordLine, x_wordLeft, x_lineFirst, x_lineWords, x_lineLeft, x_lineSlack, x_lineNotes, x_lineColumn, x_lineTop, x_columnParagraph, x_columnFirst, x_columnLines, x_columnNotes, x_columnFilled)) : wpX_breakParagraph post (x_tracking, x_view, x_slotNow, x_stepsBack, x_stepsAgain, x_stale, x_rounds, x_columnCount, x_doc, x_kept, x_referenceWidth, x_labelValue, x_labelWidth, x_lineCount, x_gapBefore, x_headNeeds, x_groupNeeds, x_wordLine, x_wordLeft, x_lineFirst, x_lineWords, x_lineLeft, x_lineSlack, x_lineNotes, x_lineColumn, x_lineTop, x_columnParagraph, x_columnFirst, x_columnLines, x_columnNotes, x_columnFilled) x := by
  subst hx
  exact ⟨17, xb_L1 (k := 0) hv hr hl hp h 16 0 _ _ _ _ _ (by omega) (fun j q1 q2 => absurd q1 (by omega)) H (fun j hj => absurd hj (by omega))⟩
end
section
variable {x_tracking x_view x_slotNow x_stepsBack x_stepsAgain x_stale x_rounds x_columnCount : Int32} {x_doc x_kept x_referenceWidth x_labelValue x_labelWidth x_lineCount x_gapBefore x_headNeeds x_groupNeeds x_wordLine x_wordLeft x_lineFirst x_lineWords x_lineLeft x_lineSlack x_lineNotes x_lineColumn x_lineTop x_columnParagraph x_columnFirst x_columnLines x_columnNotes x_columnFilled : Nat → Int32}
theorem xr_gap {post : Int32 → Prop} {x : Int32} {p : Nat} (hv : dc_V x_doc) (hx : x = nI p) (hp : p + 1 < 24) (h : post (la_gb x_doc (p + 1))) : wpX_gapBehind post (x_tracking, x_view, x_slotNow, x_stepsBack, x_stepsAgain, x_stale, x_rounds, x_columnCount, x_doc, x_kept, x_referenceWidth, x_labelValue, x_labelWidth, x_lineCount, x_gapBefore, x_headNeeds, x_groupNeeds, x_wordLine, x_wordLeft, x_lineFirst, x_lineWords, x_lineLeft, x_lineSlack, x_lineNotes, x_lineColumn, x_lineTop, x_columnParagraph, x_columnFirst, x_columnLines, x_columnNotes, x_columnFilled) x := by
  subst hx
  unfold la_gb at h
  rw [if_neg (by omega), show p + 1 - 1 = p from by omega] at h
  unfold wpX_gapBehind
  refine xr_tr hv rfl (by omega) (t := 4) rfl (by omega) ?_
  refine xr_tr hv (nI_1 p) hp (t := 3) rfl (by omega) (br_c (fun z => ?_) (fun z => ?_))
  · rw [if_pos z] at h; exact h
  · rw [if_neg z] at h; exact h
theorem xr_sf {post : Int32 → Prop} {x : Int32} {p : Nat} {rw : Nat → Int32} (hv : dc_V x_doc) (hx : x = nI p) (hp : p < 24) (hc : x_lineCount p = nI (la_nl x_doc x_view rw p)) (h1 : la_sf x_doc x_view rw p = true → post 1) (h0 : ¬ la_sf x_doc x_view rw p = true → post 0) : wpX_isStiff post (x_tracking, x_view, x_slotNow, x_stepsBack, x_stepsAgain, x_stale, x_rounds, x_columnCount, x_doc, x_kept, x_referenceWidth, x_labelValue, x_labelWidth, x_lineCount, x_gapBefore, x_headNeeds, x_groupNeeds, x_wordLine, x_wordLeft, x_lineFirst, x_lineWords, x_lineLeft, x_lineSlack, x_lineNotes, x_lineColumn, x_lineTop, x_columnParagraph, x_columnFirst, x_columnLines, x_columnNotes, x_columnFilled) x := by
  subst hx
  have hn := (la_nlP (a := x_doc) (rw := rw) (vw := x_view) (dc_Vw hv hp).2).2.1
  unfold la_sf at h1 h0
  unfold wpX_isStiff
  refine xr_tr hv rfl hp (t := 8) rfl (by omega) (br_c (fun z => ?_) (fun z => xr_tr hv rfl hp (t := 11) rfl (by omega) (br_c (fun y => ⟨vp_in_nI hp (by omega), ?_⟩) (fun y => ?_))))
  · rw [if_pos z] at h1; exact h1 rfl
  · rw [nI_clamp (by omega), hc]
    rw [if_neg z, if_pos y] at h1 h0
    refine pk_le 4 (la_nl x_doc x_view rw p) (fun q => h0 ?_) (fun q => h1 (decide_eq_true q))
    rw [decide_eq_false (by omega)]; decide
  · rw [if_neg z, if_neg y] at h0; exact h0 (by decide)
theorem xr_hd {post : Int32 → Prop} {x : Int32} {p : Nat} {rw : Nat → Int32} (hv : dc_V x_doc) (hx : x = nI p) (hp : p < 24) (hc : x_lineCount p = nI (la_nl x_doc x_view rw p)) (h : post (nI (la_hd x_doc x_view rw p))) : wpX_headLines post (x_tracking, x_view, x_slotNow, x_stepsBack, x_stepsAgain, x_stale, x_rounds, x_columnCount, x_doc, x_kept, x_referenceWidth, x_labelValue, x_labelWidth, x_lineCount, x_gapBefore, x_headNeeds, x_groupNeeds, x_wordLine, x_wordLeft, x_lineFirst, x_lineWords, x_lineLeft, x_lineSlack, x_lineNotes, x_lineColumn, x_lineTop, x_columnParagraph, x_columnFirst, x_columnLines, x_columnNotes, x_columnFilled) x := by
  subst hx
  unfold la_hd at h
  unfold wpX_headLines
  refine xr_sf hv rfl hp hc (fun z => br_f (by decide) ⟨vp_in_nI hp (by omega), ?_⟩) (fun z => br_t rfl (xr_tr hv rfl hp (t := 11) rfl (by omega) (br_c (fun y => ?_) (fun y => ?_))))
  · rw [nI_clamp (by omega), hc]; rw [if_pos z] at h; exact h
  · rw [if_neg z, if_pos y] at h; exact h
  · rw [if_neg z, if_neg y] at h; exact h
theorem xr_ndL {post : Int32 → Prop} {p n : Nat} {rw : Nat → Int32} (hp : p < 24) (hn : n ≤ 16) (hl : ∀ j, j < n → x_lineNotes (16 * p + j) = la_no x_doc x_view rw p j) (h : post (la_hs x_doc x_view rw p n)) : ∀ d i, i + d = n →
    wX_needsOfLines_12 post (nI p) (nI n) x_tracking x_view x_slotNow x_stepsBack x_stepsAgain x_stale x_rounds x_columnCount x_doc x_kept x_referenceWidth x_labelValue x_labelWidth x_lineCount x_gapBefore x_headNeeds x_groupNeeds x_wordLine x_wordLeft x_lineFirst x_lineWords x_lineLeft x_lineSlack x_lineNotes x_lineColumn x_lineTop x_columnParagraph x_columnFirst x_columnLines x_columnNotes x_columnFilled (d + 1) (nI n * dc_v x_doc p 5 + la_sn x_doc x_view rw p i) (nI i)
  | 0, i, hi => by
    obtain rfl : i = n := by omega
    refine br_t (nI_le (by omega) (by omega)) ?_
    rw [la_hsn]; exact h
  | d + 1, i, hi => by
    have el := ad_l p i
    refine br_f (nI_ge (by omega) (by omega)) ⟨ix_in el (by omega) (by omega), nm_r (e' := nI n * dc_v x_doc p 5 + la_sn x_doc x_view rw p (i + 1)) ?_ (nm_r (nI_1 i) (xr_ndL hp hn hl h d (i + 1) (by omega)))⟩
    rw [ix_c el (by omega), hl i (by omega), Int32.add_assoc]; rfl
theorem xr_nd {post : Int32 → Prop} {x y : Int32} {p n : Nat} {rw : Nat → Int32} (hv : dc_V x_doc) (hx : x = nI p) (hy : y = nI n) (hp : p < 24) (hn : n ≤ 16) (hl : ∀ j, j < n → x_lineNotes (16 * p + j) = la_no x_doc x_view rw p j) (h : post (la_hs x_doc x_view rw p n)) : wpX_needsOfLines post (x_tracking, x_view, x_slotNow, x_stepsBack, x_stepsAgain, x_stale, x_rounds, x_columnCount, x_doc, x_kept, x_referenceWidth, x_labelValue, x_labelWidth, x_lineCount, x_gapBefore, x_headNeeds, x_groupNeeds, x_wordLine, x_wordLeft, x_lineFirst, x_lineWords, x_lineLeft, x_lineSlack, x_lineNotes, x_lineColumn, x_lineTop, x_columnParagraph, x_columnFirst, x_columnLines, x_columnNotes, x_columnFilled) x y := by
  subst hx hy
  unfold wpX_needsOfLines
  exact xr_tr hv rfl hp (t := 5) rfl (by omega) (nm_r (e' := nI n * dc_v x_doc p 5 + la_sn x_doc x_view rw p 0) (Int32.add_zero _).symm ⟨n + 1, xr_ndL hp hn hl h n 0 (by omega)⟩)
def xm_M (a : Nat → Int32) (vw : Int32) (rw : Nat → Int32) (m : Nat) (gb hn gn : Nat → Int32) : Prop := ∀ q, m ≤ q → q < dc_n a → gb q = la_gb a q ∧ hn q = la_hs a vw rw q (la_hd a vw rw q) ∧ gn q = la_gr a vw rw (dc_n a - 1 - q) q
theorem xm_L {post : SX → Prop} {rw : Nat → Int32} (hv : dc_V x_doc) (HB : xb_B x_doc x_view rw (dc_n x_doc) x_lineCount x_wordLine x_wordLeft x_lineFirst x_lineWords x_lineLeft x_lineSlack x_lineNotes) (h : ∀ x_gapBefore x_headNeeds x_groupNeeds, xm_M x_doc x_view rw 0 x_gapBefore x_headNeeds x_groupNeeds → post (x_tracking, x_view, x_slotNow, x_stepsBack, x_stepsAgain, x_stale, x_rounds, x_columnCount, x_doc, x_kept, x_referenceWidth, x_labelValue, x_labelWidth, x_lineCount, x_gapBefore, x_headNeeds, x_groupNeeds, x_wordLine, x_wordLeft, x_lineFirst, x_lineWords, x_lineLeft, x_lineSlack, x_lineNotes, x_lineColumn, x_lineTop, x_columnParagraph, x_columnFirst, x_columnLines, x_columnNotes, x_columnFilled)) : ∀ (m : Nat) (x_gapBefore x_headNeeds x_groupNeeds : Nat → Int32), m ≤ dc_n x_doc → xm_M x_doc x_view rw m x_gapBefore x_headNeeds x_groupNeeds →
    wX_measureParagraphs_11 post (nI (dc_n x_doc) - 1) x_tracking x_view x_slotNow x_stepsBack x_stepsAgain x_stale x_rounds x_columnCount (m + 1) (nI m - 1) x_doc x_kept x_referenceWidth x_labelValue x_labelWidth x_lineCount x_gapBefore x_headNeeds x_groupNeeds x_wordLine x_wordLeft x_lineFirst x_lineWords x_lineLeft x_lineSlack x_lineNotes x_lineColumn x_lineTop x_columnParagraph x_columnFirst x_columnLines x_columnNotes x_columnFilled
  | 0, x_gapBefore, x_headNeeds, x_groupNeeds, hm, H => br_t (by decide) (h _ _ _ H)
  | m + 1, x_gapBefore, x_headNeeds, x_groupNeeds, hm, H => by
    obtain ⟨e0, h24⟩ := dc_Vn hv
    have hp : m < 24 := by omega
    obtain ⟨hc, hT, _⟩ := HB m (by omega)
    have h16 := (dc_Vw hv hp).2
    have hn := (la_nlP (a := x_doc) (rw := rw) (vw := x_view) h16).2.1
    have hh := la_hdB (a := x_doc) (rw := rw) (vw := x_view) h16
    have hlo : ∀ j, j < la_nl x_doc x_view rw m → x_lineNotes (16 * m + j) = la_no x_doc x_view rw m j := fun j hj => (hT j hj).2.2.2.2
    have jm := vp_in_nI (n := m) (N := 24) hp (by omega)
    have cm := nI_clamp (n := m) (by omega)
    have elast : nI (dc_n x_doc) - 1 = nI (dc_n x_doc - 1) := pk_sub (b := 1) (by omega)
    have next : ∀ v : Int32, v = la_gr x_doc x_view rw (dc_n x_doc - 1 - m) m → ∀ x_groupNeeds' : Nat → Int32, x_groupNeeds' m = v → (∀ q, q ≠ m → x_groupNeeds' q = x_groupNeeds q) →
        wX_measureParagraphs_11 post (nI (dc_n x_doc) - 1) x_tracking x_view x_slotNow x_stepsBack x_stepsAgain x_stale x_rounds x_columnCount (m + 1) (nI m - 1) x_doc x_kept x_referenceWidth x_labelValue x_labelWidth x_lineCount (upd x_gapBefore m (la_gb x_doc m)) (upd x_headNeeds m (la_hs x_doc x_view rw m (la_hd x_doc x_view rw m))) x_groupNeeds' x_wordLine x_wordLeft x_lineFirst x_lineWords x_lineLeft x_lineSlack x_lineNotes x_lineColumn x_lineTop x_columnParagraph x_columnFirst x_columnLines x_columnNotes x_columnFilled := fun v ev g eg eo => by
      refine xm_L hv HB h m _ _ _ (by omega) fun q q1 q2 => ?_
      by_cases e : q = m
      · subst e; rw [pk_us, pk_us]; exact ⟨rfl, rfl, eg.trans ev⟩
      · rw [pk_un e, pk_un e, eo q e]; exact H q (by omega) q2
    have f35 : ∀ z0 : Int32, z0 = la_gb x_doc m → wX_measureParagraphs_35 post (wX_measureParagraphs_11 post (nI (dc_n x_doc) - 1) x_tracking x_view x_slotNow x_stepsBack x_stepsAgain x_stale x_rounds x_columnCount (m + 1)) (nI (dc_n x_doc) - 1) (nI m) z0 (nI m) x_tracking x_view x_slotNow x_stepsBack x_stepsAgain x_stale x_rounds x_columnCount x_doc x_kept x_referenceWidth x_labelValue x_labelWidth x_lineCount x_gapBefore x_headNeeds x_groupNeeds x_wordLine x_wordLeft x_lineFirst x_lineWords x_lineLeft x_lineSlack x_lineNotes x_lineColumn x_lineTop x_columnParagraph x_columnFirst x_columnLines x_columnNotes x_columnFilled := fun z0 ez => by
      subst ez
      refine ⟨jm, nm_r (by rw [cm]) (xr_hd (rw := rw) hv rfl hp hc (xr_nd (rw := rw) hv rfl rfl hp (by omega) (fun j hj => hlo j (by omega)) ⟨jm, nm_r (by rw [cm]) ⟨jm, jm, nm_r (e' := upd x_groupNeeds m (la_hs x_doc x_view rw m (la_hd x_doc x_view rw m))) (by rw [cm, pk_us]) ?_⟩⟩))⟩
      rw [elast]
      refine pk_le (dc_n x_doc - 1) m (fun z => nm_r (Int32.sub_eq_add_neg (nI m) 1).symm ?_) (fun z => ?_)
      · rw [← elast]
        refine next _ ?_ _ pk_us (fun q hq => pk_un hq)
        rw [show dc_n x_doc - 1 - m = 0 from by omega]; rfl
      · obtain ⟨d, hd⟩ : ∃ d, dc_n x_doc - 1 - m = d + 1 := ⟨dc_n x_doc - 1 - m - 1, by omega⟩
        have eg : la_gr x_doc x_view rw (dc_n x_doc - 1 - m) m = if dc_v x_doc m 9 = 1 then la_hs x_doc x_view rw m (la_nl x_doc x_view rw m) + la_gb x_doc (m + 1) + la_gr x_doc x_view rw d (m + 1) else la_hs x_doc x_view rw m (la_hd x_doc x_view rw m) := by rw [hd]; rfl
        refine xr_tr hv rfl hp (t := 9) rfl (by omega) (br_c (fun y => ⟨jm, ?_⟩) (fun y => nm_r (Int32.sub_eq_add_neg (nI m) 1).symm ?_))
        · rw [cm, hc]
          obtain ⟨g1, _, g3⟩ := H (m + 1) (by omega) (by omega)
          have j1 := ix_in (N := 24) (nI_1 m) (by omega) (by omega)
          refine xr_nd (rw := rw) hv rfl rfl hp hn hlo ⟨j1, j1, jm, nm_r (e' := upd (upd x_groupNeeds m (la_hs x_doc x_view rw m (la_hd x_doc x_view rw m))) m (la_gr x_doc x_view rw (dc_n x_doc - 1 - m) m)) ?_ (nm_r (Int32.sub_eq_add_neg (nI m) 1).symm ?_)⟩
          · rw [ix_c (nI_1 m) (by omega), pk_un (by omega), pk_un (by omega), g1, g3, eg, if_pos y, show dc_n x_doc - 1 - (m + 1) = d from by omega]
          · rw [← elast]
            exact next _ rfl _ pk_us (fun q hq => by rw [pk_un hq, pk_un hq])
        · rw [← elast]
          refine next _ ?_ _ pk_us (fun q hq => pk_un hq)
          rw [eg, if_neg y]
    rw [nI_pred]
    refine br_f (nI_pos (by omega)) (pk_eq m 0 (fun z => f35 _ ?_) (fun z => xr_gap (p := m - 1) hv (pk_sub (b := 1) (by omega)) (by omega) (f35 _ ?_)))
    · subst z; rfl
    · rw [show m - 1 + 1 = m from by omega]
theorem xs_meas {post : SX → Prop} {rw : Nat → Int32} (hv : dc_V x_doc) (HB : xb_B x_doc x_view rw (dc_n x_doc) x_lineCount x_wordLine x_wordLeft x_lineFirst x_lineWords x_lineLeft x_lineSlack x_lineNotes) (h : ∀ x_gapBefore x_headNeeds x_groupNeeds, xm_M x_doc x_view rw 0 x_gapBefore x_headNeeds x_groupNeeds → post (x_tracking, x_view, x_slotNow, x_stepsBack, x_stepsAgain, x_stale, x_rounds, x_columnCount, x_doc, x_kept, x_referenceWidth, x_labelValue, x_labelWidth, x_lineCount, x_gapBefore, x_headNeeds, x_groupNeeds, x_wordLine, x_wordLeft, x_lineFirst, x_lineWords, x_lineLeft, x_lineSlack, x_lineNotes, x_lineColumn, x_lineTop, x_columnParagraph, x_columnFirst, x_columnLines, x_columnNotes, x_columnFilled)) : wpX_measureParagraphs post (x_tracking, x_view, x_slotNow, x_stepsBack, x_stepsAgain, x_stale, x_rounds, x_columnCount, x_doc, x_kept, x_referenceWidth, x_labelValue, x_labelWidth, x_lineCount, x_gapBefore, x_headNeeds, x_groupNeeds, x_wordLine, x_wordLeft, x_lineFirst, x_lineWords, x_lineLeft, x_lineSlack, x_lineNotes, x_lineColumn, x_lineTop, x_columnParagraph, x_columnFirst, x_columnLines, x_columnNotes, x_columnFilled) := by
  obtain ⟨e0, h24⟩ := dc_Vn hv
  refine nm_r (e' := nI (dc_n x_doc) - 1) (by rw [e0]) ⟨dc_n x_doc + 1, ?_⟩
  exact xm_L hv HB h _ _ _ _ (Nat.le_refl _) (fun q q1 q2 => absurd q1 (by omega))
end
section
theorem dc_Vt {a : Nat → Int32} (hv : dc_V a) {p t : Nat} (hp : p < 24) (ht : t < 12) : dc_T t (dc_v a p t) := hv.2.2.2.1 (dc_s a p) t (by have := (dc_Vs hv hp).2; omega) ht
theorem la_gbB {a : Nat → Int32} (hv : dc_V a) {p : Nat} (hp : p < 24) : ∃ g, la_gb a p = nI g ∧ g ≤ 9 := by
  unfold la_gb
  split
  · exact ⟨0, rfl, by omega⟩
  · have z1 := (dc_Vt hv hp (t := 3) (by omega)).1 (Or.inl rfl)
    have z2 := (dc_Vt hv (p := p - 1) (by omega) (t := 4) (by omega)).1 (Or.inr rfl)
    split
    · exact ⟨_, z1⟩
    · exact ⟨_, z2⟩
theorem la_hB {a : Nat → Int32} (hv : dc_V a) {p : Nat} (hp : p < 24) : ∃ g, dc_v a p 5 = nI g ∧ g ≤ 4 := ⟨_, (dc_Vt hv hp (t := 5) (by omega)).2.1 rfl⟩
/-- how great what is kept of columns can be -/
def la_J (S : la_F) (c L : Nat) : Prop := S.1 ≤ c ∧ ∀ i, i < S.1 → ∃ m f g, S.2.2.2.1 i = nI m ∧ m ≤ L ∧ S.2.2.2.2.2.1 i = nI f ∧ f ≤ 13 * L ∧ S.2.2.2.2.1 i = nI g ∧ g ≤ 48 * L
theorem la_Jm {S : la_F} {c L c' L' : Nat} (h : la_J S c L) (hc : c ≤ c') (hL : L ≤ L') : la_J S c' L' := by
  refine ⟨Nat.le_trans h.1 hc, fun i hi => ?_⟩
  obtain ⟨m, f, g, e1, b1, e2, b2, e3, b3⟩ := h.2 i hi
  exact ⟨m, f, g, e1, by omega, e2, by omega, e3, by omega⟩
theorem la_Jnew {S : la_F} {c L p k : Nat} (h : la_J S c L) : la_J (la_new S p k) (c + 1) L := by
  refine ⟨Nat.succ_le_succ h.1, fun i hi => ?_⟩
  by_cases e : i = S.1
  · subst e
    exact ⟨0, 0, 0, pk_us, by omega, pk_us, by omega, pk_us, by omega⟩
  · have hi' : i < S.1 + 1 := hi
    obtain ⟨m, f, g, e1, b1, e2, b2, e3, b3⟩ := h.2 i (by omega)
    exact ⟨m, f, g, (pk_un e).trans e1, b1, (pk_un e).trans e2, b2, (pk_un e).trans e3, b3⟩
theorem la_gaB {a : Nat → Int32} (hv : dc_V a) {S : la_F} {p k : Nat} (hp : p < 24) : ∃ g, la_ga a S p k = nI g ∧ g ≤ 9 := by
  unfold la_ga
  split
  · split
    · exact ⟨0, rfl, by omega⟩
    · exact la_gbB hv hp
  · exact ⟨0, rfl, by omega⟩
theorem la_Jput {a rw : Nat → Int32} {vw : Int32} {S : la_F} {c L p k : Nat} (hv : dc_V a) (hp : p < 24) (h : la_J S c L) (h1 : 1 ≤ S.1) : la_J (la_put a vw rw S p k) c (L + 1) := by
  refine ⟨h.1, fun i hi => ?_⟩
  have hi' : i < S.1 := hi
  obtain ⟨m, f, g, e1, b1, e2, b2, e3, b3⟩ := h.2 i hi'
  by_cases e : i = S.1 - 1
  · subst e
    obtain ⟨n1, q1, r1⟩ := la_gaB (S := S) (k := k) hv hp
    obtain ⟨n2, q2, r2⟩ := la_hB hv hp
    obtain ⟨n3, q3, r3⟩ := la_noB (rw := rw) (vw := vw) hv hp (k := k)
    refine ⟨m + 1, f + n1 + n2, g + n3, ?_, by omega, ?_, by omega, ?_, by omega⟩
    · exact pk_us.trans (by rw [e1, nI_1])
    · exact pk_us.trans (by rw [e2, q1, q2, nI_add, nI_add])
    · exact pk_us.trans (by rw [e3, q3, nI_add])
  · exact ⟨m, f, g, (pk_un e).trans e1, by omega, (pk_un e).trans e2, by omega, (pk_un e).trans e3, by omega⟩
theorem la_adI {a rw : Nat → Int32} {vw : Int32} {S : la_F} {L p k : Nat} (hv : dc_V a) (hp : p < 24) (h : la_J S L L) (h1 : S.1 = 0 → la_is a vw rw S p k = true) : la_J (la_ad a vw rw S p k) (L + 1) (L + 1) ∧ 1 ≤ (la_ad a vw rw S p k).1 ∧ 1 ≤ (if la_is a vw rw S p k = true then la_new S p k else S).1 := by
  unfold la_ad
  by_cases c : la_is a vw rw S p k = true
  · rw [if_pos c]
    have q : 1 ≤ (la_new S p k).1 := Nat.succ_le_succ (Nat.zero_le _)
    exact ⟨la_Jput hv hp (la_Jnew h) q, q, q⟩
  · rw [if_neg c]
    have q : 1 ≤ S.1 := by
      rcases Nat.eq_zero_or_pos S.1 with z | z
      · exact absurd (h1 z) c
      · exact z
    exact ⟨la_Jm (la_Jput hv hp h q) (by omega) (by omega), q, q⟩
theorem la_fpI {a rw : Nat → Int32} {vw : Int32} {S : la_F} {L p : Nat} (hv : dc_V a) (hp : p < 24) (h : la_J S L L) (h1 : S.1 = 0 → p = 0) : ∀ k, la_J (la_fp a vw rw S p k) (L + k) (L + k) ∧ (1 ≤ k → 1 ≤ (la_fp a vw rw S p k).1) ∧ ((la_fp a vw rw S p k).1 = 0 → la_is a vw rw (la_fp a vw rw S p k) p k = true)
  | 0 => by
    refine ⟨h, fun z => absurd z (by omega), fun z => ?_⟩
    show la_op a vw rw S p = true
    unfold la_op; rw [if_pos (h1 z)]
  | k + 1 => by
    obtain ⟨g1, g2, g3⟩ := la_fpI hv hp h h1 k
    obtain ⟨q1, q2, _⟩ := la_adI (rw := rw) (vw := vw) hv hp g1 g3
    refine ⟨q1, fun _ => q2, fun z => ?_⟩
    have : (la_ad a vw rw (la_fp a vw rw S p k) p k).1 = 0 := z
    omega
theorem la_flI {a rw : Nat → Int32} {vw : Int32} (hv : dc_V a) : ∀ p, p ≤ 24 → la_J (la_fl a vw rw p) (16 * p) (16 * p) ∧ ((la_fl a vw rw p).1 = 0 → p = 0)
  | 0, _ => ⟨⟨Nat.le_refl _, fun i hi => absurd hi (Nat.not_lt_zero _)⟩, fun _ => rfl⟩
  | p + 1, hp => by
    obtain ⟨g1, g2⟩ := la_flI (rw := rw) (vw := vw) hv p (by omega)
    have hn := la_nlP (a := a) (rw := rw) (vw := vw) (dc_Vw hv (p := p) (by omega)).2
    obtain ⟨q1, q2, _⟩ := la_fpI (rw := rw) (vw := vw) hv (p := p) (by omega) g1 g2 (la_nl a vw rw p)
    refine ⟨la_Jm q1 (by omega) (by omega), fun z => ?_⟩
    have z' : (la_fp a vw rw (la_fl a vw rw p) p (la_nl a vw rw p)).1 = 0 := z
    have := q2 hn.1
    omega
/-- X's columns -/
def xf_C (a : Nat → Int32) (vw : Int32) (rw : Nat → Int32) (S : la_F) (p k : Nat) (cc : Int32) (lk lt cp cf cl cn cd : Nat → Int32) : Prop := cc = nI S.1
  ∧ (∀ i, i < S.1 → cp i = S.2.1 i ∧ cf i = S.2.2.1 i ∧ cl i = S.2.2.2.1 i ∧ cn i = S.2.2.2.2.1 i ∧ cd i = S.2.2.2.2.2.1 i)
  ∧ (∀ q j, j < 16 → ((q < p ∧ j < la_nl a vw rw q) ∨ (q = p ∧ j < k)) → lk (16 * q + j) = S.2.2.2.2.2.2.1 (16 * q + j) ∧ lt (16 * q + j) = S.2.2.2.2.2.2.2 (16 * q + j))
variable {x_tracking x_view x_slotNow x_stepsBack x_stepsAgain x_stale x_rounds x_columnCount : Int32} {x_doc x_kept x_referenceWidth x_labelValue x_labelWidth x_lineCount x_gapBefore x_headNeeds x_groupNeeds x_wordLine x_wordLeft x_lineFirst x_lineWords x_lineLeft x_lineSlack x_lineNotes x_lineColumn x_lineTop x_columnParagraph x_columnFirst x_columnLines x_columnNotes x_columnFilled : Nat → Int32}
theorem xf_start {post : SX → Prop} {x y : Int32} {p k : Nat} {rw : Nat → Int32} {S : la_F} (hx : x = nI p) (hy : y = nI k) (hc : S.1 < 384) (H : xf_C x_doc x_view rw S p k x_columnCount x_lineColumn x_lineTop x_columnParagraph x_columnFirst x_columnLines x_columnNotes x_columnFilled)
    (h : ∀ x_columnCount x_lineColumn x_lineTop x_columnParagraph x_columnFirst x_columnLines x_columnNotes x_columnFilled, xf_C x_doc x_view rw (la_new S p k) p k x_columnCount x_lineColumn x_lineTop x_columnParagraph x_columnFirst x_columnLines x_columnNotes x_columnFilled → post (x_tracking, x_view, x_slotNow, x_stepsBack, x_stepsAgain, x_stale, x_rounds, x_columnCount, x_doc, x_kept, x_referenceWidth, x_labelValue, x_labelWidth, x_lineCount, x_gapBefore, x_headNeeds, x_groupNeeds, x_wordLine, x_wordLeft, x_lineFirst, x_lineWords, x_lineLeft, x_lineSlack, x_lineNotes, x_lineColumn, x_lineTop, x_columnParagraph, x_columnFirst, x_columnLines, x_columnNotes, x_columnFilled)) : wpX_startColumn post (x_tracking, x_view, x_slotNow, x_stepsBack, x_stepsAgain, x_stale, x_rounds, x_columnCount, x_doc, x_kept, x_referenceWidth, x_labelValue, x_labelWidth, x_lineCount, x_gapBefore, x_headNeeds, x_groupNeeds, x_wordLine, x_wordLeft, x_lineFirst, x_lineWords, x_lineLeft, x_lineSlack, x_lineNotes, x_lineColumn, x_lineTop, x_columnParagraph, x_columnFirst, x_columnLines, x_columnNotes, x_columnFilled) x y := by
  obtain ⟨H1, H2, H3⟩ := H
  have j := ix_in (N := 384) H1 hc (by omega)
  have c := ix_c H1 (by omega)
  refine ⟨j, nm_r (by rw [c]) ⟨j, nm_r (by rw [c]) ⟨j, nm_r (by rw [c]) ⟨j, nm_r (by rw [c]) ⟨j, nm_r (by rw [c]) (nm_r (e' := nI (S.1 + 1)) (by rw [H1, nI_1]) (h _ _ _ _ _ _ _ _ ⟨rfl, fun i hi => ?_, H3⟩))⟩⟩⟩⟩⟩
  subst hx hy
  by_cases e : i = S.1
  · subst e
    exact ⟨pk_us.trans pk_us.symm, pk_us.trans pk_us.symm, pk_us.trans pk_us.symm, pk_us.trans pk_us.symm, pk_us.trans pk_us.symm⟩
  · have hi' : i < S.1 + 1 := hi
    obtain ⟨g1, g2, g3, g4, g5⟩ := H2 i (by omega)
    exact ⟨(pk_un e).trans (g1.trans (pk_un e).symm), (pk_un e).trans (g2.trans (pk_un e).symm), (pk_un e).trans (g3.trans (pk_un e).symm), (pk_un e).trans (g4.trans (pk_un e).symm), (pk_un e).trans (g5.trans (pk_un e).symm)⟩
theorem xf_put {post : SX → Prop} {x y : Int32} {p k : Nat} {rw : Nat → Int32} {S : la_F} (hv : dc_V x_doc) (hx : x = nI p) (hp : p < 24) (hy : y = nI k) (hk : k < 16) (h1 : 1 ≤ S.1) (hc : S.1 ≤ 384) (hg : x_gapBefore p = la_gb x_doc p) (hno : x_lineNotes (16 * p + k) = la_no x_doc x_view rw p k) (H : xf_C x_doc x_view rw S p k x_columnCount x_lineColumn x_lineTop x_columnParagraph x_columnFirst x_columnLines x_columnNotes x_columnFilled)
    (h : ∀ x_lineColumn x_lineTop x_columnParagraph x_columnFirst x_columnLines x_columnNotes x_columnFilled, xf_C x_doc x_view rw (la_put x_doc x_view rw S p k) p (k + 1) x_columnCount x_lineColumn x_lineTop x_columnParagraph x_columnFirst x_columnLines x_columnNotes x_columnFilled → post (x_tracking, x_view, x_slotNow, x_stepsBack, x_stepsAgain, x_stale, x_rounds, x_columnCount, x_doc, x_kept, x_referenceWidth, x_labelValue, x_labelWidth, x_lineCount, x_gapBefore, x_headNeeds, x_groupNeeds, x_wordLine, x_wordLeft, x_lineFirst, x_lineWords, x_lineLeft, x_lineSlack, x_lineNotes, x_lineColumn, x_lineTop, x_columnParagraph, x_columnFirst, x_columnLines, x_columnNotes, x_columnFilled)) : wpX_putLine post (x_tracking, x_view, x_slotNow, x_stepsBack, x_stepsAgain, x_stale, x_rounds, x_columnCount, x_doc, x_kept, x_referenceWidth, x_labelValue, x_labelWidth, x_lineCount, x_gapBefore, x_headNeeds, x_groupNeeds, x_wordLine, x_wordLeft, x_lineFirst, x_lineWords, x_lineLeft, x_lineSlack, x_lineNotes, x_lineColumn, x_lineTop, x_columnParagraph, x_columnFirst, x_columnLines, x_columnNotes, x_columnFilled) x y := by
  subst hx hy
  obtain ⟨H1, H2, H3⟩ := H
  have el := ad_l p k
  have jl := vp_in_nI (n := 16 * p + k) (N := 384) (by omega) (by omega)
  have cl := nI_clamp (n := 16 * p + k) (by omega)
  have ec : x_columnCount - 1 = nI (S.1 - 1) := by rw [H1]; exact pk_sub (b := 1) h1
  have jc := vp_in_nI (n := S.1 - 1) (N := 384) (by omega) (by omega)
  have cc := nI_clamp (n := S.1 - 1) (by omega)
  obtain ⟨g1, g2, g3, g4, g5⟩ := H2 (S.1 - 1) (by omega)
  have f39 : ∀ z0 : Int32, z0 = la_ga x_doc S p k → wX_putLine_39 post (nI p) (nI (16 * p + k)) (nI (S.1 - 1)) z0 x_tracking x_view x_slotNow x_stepsBack x_stepsAgain x_stale x_rounds x_columnCount x_doc x_kept x_referenceWidth x_labelValue x_labelWidth x_lineCount x_gapBefore x_headNeeds x_groupNeeds x_wordLine x_wordLeft x_lineFirst x_lineWords x_lineLeft x_lineSlack x_lineNotes x_lineColumn x_lineTop x_columnParagraph x_columnFirst x_columnLines x_columnNotes x_columnFilled := fun z0 ez => by
    subst ez
    refine ⟨jl, nm_r (by rw [cl]) ⟨jc, jl, nm_r (by rw [cl, cc, g5]) ⟨jl, xr_tr hv rfl hp (t := 5) rfl (by omega) ⟨jc, nm_r (e' := upd x_columnFilled (S.1 - 1) (S.2.2.2.2.2.1 (S.1 - 1) + la_ga x_doc S p k + dc_v x_doc p 5)) (by rw [cl, cc, pk_us]) ⟨jc, jl, jc, nm_r (by rw [cl, cc, g4, hno]) ⟨jc, jc, nm_r (by rw [cc, g3]) (h _ _ _ _ _ _ _ ⟨H1, fun i hi => ?_, fun q j hj hq => ?_⟩)⟩⟩⟩⟩⟩⟩
    · obtain ⟨w1, w2, w3, w4, w5⟩ := H2 i hi
      refine ⟨w1, w2, ?_⟩
      by_cases e : i = S.1 - 1
      · subst e; exact ⟨pk_us.trans pk_us.symm, pk_us.trans pk_us.symm, pk_us.trans pk_us.symm⟩
      · exact ⟨(pk_un e).trans (w3.trans (pk_un e).symm), (pk_un e).trans (w4.trans (pk_un e).symm), (pk_un e).trans (w5.trans (pk_un e).symm)⟩
    · by_cases e : q = p ∧ j = k
      · obtain ⟨rfl, rfl⟩ := e; exact ⟨pk_us.trans pk_us.symm, pk_us.trans pk_us.symm⟩
      · have ne : 16 * q + j ≠ 16 * p + k := by omega
        obtain ⟨w1, w2⟩ := H3 q j hj (by rcases hq with z | z; exact Or.inl z; exact Or.inr ⟨z.1, by omega⟩)
        exact ⟨(pk_un ne).trans (w1.trans (pk_un ne).symm), (pk_un ne).trans (w2.trans (pk_un ne).symm)⟩
  refine nm_r el (nm_r ec (pk_eq k 0 (fun z => ⟨jc, br_c (fun y => f39 0 ?_) (fun y => ⟨vp_in_nI hp (by omega), f39 _ ?_⟩)⟩) (fun z => f39 0 ?_)))
  · rw [cc, g3] at y; unfold la_ga; rw [if_pos z, if_pos y]
  · rw [cc, g3] at y; rw [nI_clamp (by omega), hg]; unfold la_ga; rw [if_pos z, if_neg y]
  · unfold la_ga; rw [if_neg z]
theorem xf_free {post : Int32 → Prop} {p k : Nat} {rw : Nat → Int32} {S : la_F} (h1 : 1 ≤ S.1) (hc : S.1 ≤ 384) (H : xf_C x_doc x_view rw S p k x_columnCount x_lineColumn x_lineTop x_columnParagraph x_columnFirst x_columnLines x_columnNotes x_columnFilled) (h : post (la_fh x_doc S)) : wpX_freeHeight post (x_tracking, x_view, x_slotNow, x_stepsBack, x_stepsAgain, x_stale, x_rounds, x_columnCount, x_doc, x_kept, x_referenceWidth, x_labelValue, x_labelWidth, x_lineCount, x_gapBefore, x_headNeeds, x_groupNeeds, x_wordLine, x_wordLeft, x_lineFirst, x_lineWords, x_lineLeft, x_lineSlack, x_lineNotes, x_lineColumn, x_lineTop, x_columnParagraph, x_columnFirst, x_columnLines, x_columnNotes, x_columnFilled) := by
  obtain ⟨H1, H2, H3⟩ := H
  have ec : x_columnCount - 1 = nI (S.1 - 1) := by rw [H1]; exact pk_sub (b := 1) h1
  have jc := vp_in_nI (n := S.1 - 1) (N := 384) (by omega) (by omega)
  have cc := nI_clamp (n := S.1 - 1) (by omega)
  obtain ⟨g1, g2, g3, g4, g5⟩ := H2 (S.1 - 1) (by omega)
  refine nm_r ec ⟨jc, jc, ?_⟩
  rw [cc, g4, g5]; exact h
theorem xf_opens {post : Int32 → Prop} {x : Int32} {p : Nat} {rw : Nat → Int32} {S : la_F} (hv : dc_V x_doc) (hx : x = nI p) (hp : p < dc_n x_doc) (h1 : ¬ p = 0 → 1 ≤ S.1) (hc : S.1 ≤ 384) (HM : xm_M x_doc x_view rw 0 x_gapBefore x_headNeeds x_groupNeeds) (H : xf_C x_doc x_view rw S p 0 x_columnCount x_lineColumn x_lineTop x_columnParagraph x_columnFirst x_columnLines x_columnNotes x_columnFilled)
    (ht : la_op x_doc x_view rw S p = true → post 1) (hf : ¬ la_op x_doc x_view rw S p = true → post 0) : wpX_opensColumn post (x_tracking, x_view, x_slotNow, x_stepsBack, x_stepsAgain, x_stale, x_rounds, x_columnCount, x_doc, x_kept, x_referenceWidth, x_labelValue, x_labelWidth, x_lineCount, x_gapBefore, x_headNeeds, x_groupNeeds, x_wordLine, x_wordLeft, x_lineFirst, x_lineWords, x_lineLeft, x_lineSlack, x_lineNotes, x_lineColumn, x_lineTop, x_columnParagraph, x_columnFirst, x_columnLines, x_columnNotes, x_columnFilled) x := by
  subst hx
  have h24 := (dc_Vn hv).2
  obtain ⟨m1, m2, m3⟩ := HM p (by omega) hp
  have jp := vp_in_nI (n := p) (N := 24) (by omega) (by omega)
  have cp := nI_clamp (n := p) (by omega)
  unfold la_op at ht hf
  refine pk_eq p 0 (fun z => ?_) (fun z => xr_tr hv rfl (by omega) (t := 10) rfl (by omega) (br_c (fun y => ?_) (fun y => xf_free (h1 z) hc H ⟨jp, nm_r (e' := la_fh x_doc S - la_gb x_doc p) (by rw [cp, m1]) ⟨jp, ?_⟩⟩)))
  · rw [if_pos z] at ht; exact ht rfl
  · rw [if_neg z, if_pos y] at ht; exact ht rfl
  · rw [if_neg z, if_neg y] at ht hf
    rw [cp, m3]
    have f69 : ∀ nd : Int32, nd = (if x_doc 2 < la_gr x_doc x_view rw (dc_n x_doc - 1 - p) p then la_hs x_doc x_view rw p (la_hd x_doc x_view rw p) else la_gr x_doc x_view rw (dc_n x_doc - 1 - p) p) → wX_opensColumn_69 post (la_fh x_doc S - la_gb x_doc p) nd x_tracking x_view x_slotNow x_stepsBack x_stepsAgain x_stale x_rounds x_columnCount x_doc x_kept x_referenceWidth x_labelValue x_labelWidth x_lineCount x_gapBefore x_headNeeds x_groupNeeds x_wordLine x_wordLeft x_lineFirst x_lineWords x_lineLeft x_lineSlack x_lineNotes x_lineColumn x_lineTop x_columnParagraph x_columnFirst x_columnLines x_columnNotes x_columnFilled := fun nd e => by
      subst e
      refine br_c (fun q => hf ?_) (fun q => ht ?_)
      · rw [decide_eq_true q]; decide
      · rw [decide_eq_false q]; rfl
    refine br_c (fun q => br_t rfl ⟨jp, f69 _ ?_⟩) (fun q => br_f (by decide) ⟨jp, f69 _ ?_⟩)
    · rw [cp, m2, if_pos q]
    · rw [cp, m3, if_neg q]
theorem xf_turns {post : Int32 → Prop} {x y : Int32} {p k : Nat} {rw : Nat → Int32} {S : la_F} (hv : dc_V x_doc) (hx : x = nI p) (hp : p < 24) (hy : y = nI k) (hk : k < la_nl x_doc x_view rw p) (h1 : 1 ≤ S.1) (hc : S.1 ≤ 384) (hlc : x_lineCount p = nI (la_nl x_doc x_view rw p)) (hno : ∀ j, j < la_nl x_doc x_view rw p → x_lineNotes (16 * p + j) = la_no x_doc x_view rw p j) (H : xf_C x_doc x_view rw S p k x_columnCount x_lineColumn x_lineTop x_columnParagraph x_columnFirst x_columnLines x_columnNotes x_columnFilled)
    (ht : la_tu x_doc x_view rw S p k = true → post 1) (hf : ¬ la_tu x_doc x_view rw S p k = true → post 0) : wpX_turnsColumn post (x_tracking, x_view, x_slotNow, x_stepsBack, x_stepsAgain, x_stale, x_rounds, x_columnCount, x_doc, x_kept, x_referenceWidth, x_labelValue, x_labelWidth, x_lineCount, x_gapBefore, x_headNeeds, x_groupNeeds, x_wordLine, x_wordLeft, x_lineFirst, x_lineWords, x_lineLeft, x_lineSlack, x_lineNotes, x_lineColumn, x_lineTop, x_columnParagraph, x_columnFirst, x_columnLines, x_columnNotes, x_columnFilled) x y := by
  subst hx hy
  have hn := la_nlP (a := x_doc) (rw := rw) (vw := x_view) (dc_Vw hv hp).2
  have el := ad_l p k
  have jl := vp_in_nI (n := 16 * p + k) (N := 384) (by omega) (by omega)
  have cl := nI_clamp (n := 16 * p + k) (by omega)
  unfold la_tu at ht hf
  refine nm_r el (xr_tr hv rfl hp (t := 5) rfl (by omega) (xf_free h1 hc H ⟨jl, nm_r (e' := la_fh x_doc S - dc_v x_doc p 5 - la_no x_doc x_view rw p k) (by rw [cl, hno k hk]) (br_c (fun z => ⟨vp_in_nI hp (by omega), ?_⟩) (fun z => ?_))⟩))
  · rw [if_pos z] at ht hf
    rw [nI_clamp (by omega), hlc]
    have ek : nI k = nI (la_nl x_doc x_view rw p) - 2 ↔ k + 2 = la_nl x_doc x_view rw p := by
      generalize la_nl x_doc x_view rw p = n at *
      by_cases q : n = 1
      · subst q
        refine ⟨fun e => ?_, fun e => absurd e (by omega)⟩
        have e' := congrArg Int32.toInt e
        rw [nI_toInt (by omega), show (nI 1 - 2).toInt = -1 from by decide] at e'; omega
      · have e2 : nI n - 2 = nI (n - 2) := pk_sub (b := 2) (by omega)
        rw [e2, nI_eq (by omega) (by omega)]; omega
    refine br_c (fun q => ?_) (fun q => ?_)
    · have q' := ek.mp q
      rw [if_pos q'] at ht hf
      refine xr_tr hv rfl hp (t := 11) rfl (by omega) (br_c (fun y => ?_) (fun y => xr_sf (rw := rw) hv rfl hp hlc (fun s => br_f (by decide) ?_) (fun s => br_t rfl ⟨ix_in (nI_1 _) (by omega) (by omega), ?_⟩)))
      · rw [if_pos y] at hf; exact hf (by decide)
      · rw [if_neg y, if_pos s] at hf; exact hf (by decide)
      · rw [if_neg y, if_neg s] at ht hf
        rw [ix_c (nI_1 _) (by omega), show 16 * p + k + 1 = 16 * p + (k + 1) from by omega, hno (k + 1) (by omega)]
        refine br_c (fun w => hf ?_) (fun w => ht ?_)
        · rw [decide_eq_true w]; decide
        · rw [decide_eq_false w]; rfl
    · rw [if_neg (fun e => q (ek.mpr e))] at hf; exact hf (by decide)
  · rw [if_neg z] at ht; exact ht rfl
end
section
variable {x_tracking x_view x_slotNow x_stepsBack x_stepsAgain x_stale x_rounds x_columnCount : Int32} {x_doc x_kept x_referenceWidth x_labelValue x_labelWidth x_lineCount x_gapBefore x_headNeeds x_groupNeeds x_wordLine x_wordLeft x_lineFirst x_lineWords x_lineLeft x_lineSlack x_lineNotes x_lineColumn x_lineTop x_columnParagraph x_columnFirst x_columnLines x_columnNotes x_columnFilled : Nat → Int32}
theorem xf_L19 {post : SX → Prop} {p n : Nat} {rw : Nat → Int32} (hv : dc_V x_doc) (HB : xb_B x_doc x_view rw (dc_n x_doc) x_lineCount x_wordLine x_wordLeft x_lineFirst x_lineWords x_lineLeft x_lineSlack x_lineNotes) (HM : xm_M x_doc x_view rw 0 x_gapBefore x_headNeeds x_groupNeeds) (hp : p < dc_n x_doc)
    (h : ∀ x_columnCount x_lineColumn x_lineTop x_columnParagraph x_columnFirst x_columnLines x_columnNotes x_columnFilled, xf_C x_doc x_view rw (la_fl x_doc x_view rw (p + 1)) (p + 1) 0 x_columnCount x_lineColumn x_lineTop x_columnParagraph x_columnFirst x_columnLines x_columnNotes x_columnFilled → wX_fillColumns_7 post n (nI (p + 1)) x_tracking x_view x_slotNow x_stepsBack x_stepsAgain x_stale x_rounds x_columnCount x_doc x_kept x_referenceWidth x_labelValue x_labelWidth x_lineCount x_gapBefore x_headNeeds x_groupNeeds x_wordLine x_wordLeft x_lineFirst x_lineWords x_lineLeft x_lineSlack x_lineNotes x_lineColumn x_lineTop x_columnParagraph x_columnFirst x_columnLines x_columnNotes x_columnFilled) : ∀ (d k : Nat) (x_columnCount : Int32) (x_lineColumn x_lineTop x_columnParagraph x_columnFirst x_columnLines x_columnNotes x_columnFilled : Nat → Int32), k + d = la_nl x_doc x_view rw p →
    xf_C x_doc x_view rw (la_fp x_doc x_view rw (la_fl x_doc x_view rw p) p k) p k x_columnCount x_lineColumn x_lineTop x_columnParagraph x_columnFirst x_columnLines x_columnNotes x_columnFilled → wX_fillColumns_19 post (wX_fillColumns_7 post n) (nI p) (d + 1) (nI k) x_tracking x_view x_slotNow x_stepsBack x_stepsAgain x_stale x_rounds x_columnCount x_doc x_kept x_referenceWidth x_labelValue x_labelWidth x_lineCount x_gapBefore x_headNeeds x_groupNeeds x_wordLine x_wordLeft x_lineFirst x_lineWords x_lineLeft x_lineSlack x_lineNotes x_lineColumn x_lineTop x_columnParagraph x_columnFirst x_columnLines x_columnNotes x_columnFilled
  | 0, k, x_columnCount, x_lineColumn, x_lineTop, x_columnParagraph, x_columnFirst, x_columnLines, x_columnNotes, x_columnFilled, hk, H => by
    have h24 := (dc_Vn hv).2
    obtain ⟨hc, hT, _⟩ := HB p hp
    have hn := la_nlP (a := x_doc) (rw := rw) (vw := x_view) (dc_Vw hv (p := p) (by omega)).2
    obtain rfl : k = la_nl x_doc x_view rw p := by omega
    refine ⟨vp_in_nI (by omega) (by omega), ?_⟩
    rw [nI_clamp (by omega), hc]
    refine br_t (nI_le (by omega) (by omega)) (nm_r (nI_1 p) (h _ _ _ _ _ _ _ _ ⟨H.1, H.2.1, fun q j hj hq => H.2.2 q j hj ?_⟩))
    rcases hq with ⟨q1, q2⟩ | ⟨q1, q2⟩
    · by_cases e : q = p
      · subst e; exact Or.inr ⟨rfl, q2⟩
      · exact Or.inl ⟨by omega, q2⟩
    · exact absurd q2 (by omega)
  | d + 1, k, x_columnCount, x_lineColumn, x_lineTop, x_columnParagraph, x_columnFirst, x_columnLines, x_columnNotes, x_columnFilled, hk, H => by
    have h24 := (dc_Vn hv).2
    have hp24 : p < 24 := by omega
    obtain ⟨hc, hT, _⟩ := HB p hp
    have hn := la_nlP (a := x_doc) (rw := rw) (vw := x_view) (dc_Vw hv hp24).2
    have hlo : ∀ j, j < la_nl x_doc x_view rw p → x_lineNotes (16 * p + j) = la_no x_doc x_view rw p j := fun j hj => (hT j hj).2.2.2.2
    obtain ⟨g1, g2⟩ := la_flI (rw := rw) (vw := x_view) hv p (by omega)
    obtain ⟨q1, q2, q3⟩ := la_fpI (rw := rw) (vw := x_view) hv hp24 g1 g2 k
    have qb := q1.1
    have q4 := (la_adI (rw := rw) (vw := x_view) hv hp24 q1 q3).2.2
    have ih := xf_L19 hv HB HM hp h d (k + 1)
    have estep : la_fp x_doc x_view rw (la_fl x_doc x_view rw p) p (k + 1) = la_put x_doc x_view rw (if la_is x_doc x_view rw (la_fp x_doc x_view rw (la_fl x_doc x_view rw p) p k) p k = true then la_new (la_fp x_doc x_view rw (la_fl x_doc x_view rw p) p k) p k else la_fp x_doc x_view rw (la_fl x_doc x_view rw p) p k) p k := rfl
    rw [estep] at ih
    have f58 : ∀ (S : la_F) (x_columnCount : Int32) (x_lineColumn x_lineTop x_columnParagraph x_columnFirst x_columnLines x_columnNotes x_columnFilled : Nat → Int32), S = (if la_is x_doc x_view rw (la_fp x_doc x_view rw (la_fl x_doc x_view rw p) p k) p k = true then la_new (la_fp x_doc x_view rw (la_fl x_doc x_view rw p) p k) p k else la_fp x_doc x_view rw (la_fl x_doc x_view rw p) p k) → S.1 ≤ 384 → xf_C x_doc x_view rw S p k x_columnCount x_lineColumn x_lineTop x_columnParagraph x_columnFirst x_columnLines x_columnNotes x_columnFilled →
        wX_fillColumns_58 post (wX_fillColumns_7 post n) (wX_fillColumns_19 post (wX_fillColumns_7 post n) (nI p) (d + 1)) (nI p) (nI k) x_tracking x_view x_slotNow x_stepsBack x_stepsAgain x_stale x_rounds x_columnCount x_doc x_kept x_referenceWidth x_labelValue x_labelWidth x_lineCount x_gapBefore x_headNeeds x_groupNeeds x_wordLine x_wordLeft x_lineFirst x_lineWords x_lineLeft x_lineSlack x_lineNotes x_lineColumn x_lineTop x_columnParagraph x_columnFirst x_columnLines x_columnNotes x_columnFilled := fun S cc x_lineColumn1 x_lineTop1 x_columnParagraph1 x_columnFirst1 x_columnLines1 x_columnNotes1 x_columnFilled1 eS hS H' => by
      rw [← eS] at ih q4
      unfold wX_fillColumns_58
      refine xf_put hv rfl hp24 rfl (by omega) q4 hS (HM p (by omega) hp).1 (hlo k (by omega)) H' ?_
      intro x_lineColumn x_lineTop x_columnParagraph x_columnFirst x_columnLines x_columnNotes x_columnFilled H2
      exact nm_r (nI_1 k) (ih _ _ _ _ _ _ _ _ (by omega) H2)
    have f47t : la_is x_doc x_view rw (la_fp x_doc x_view rw (la_fl x_doc x_view rw p) p k) p k = true → wX_fillColumns_47 post (wX_fillColumns_7 post n) (wX_fillColumns_19 post (wX_fillColumns_7 post n) (nI p) (d + 1)) (nI p) (nI k) 1 x_tracking x_view x_slotNow x_stepsBack x_stepsAgain x_stale x_rounds x_columnCount x_doc x_kept x_referenceWidth x_labelValue x_labelWidth x_lineCount x_gapBefore x_headNeeds x_groupNeeds x_wordLine x_wordLeft x_lineFirst x_lineWords x_lineLeft x_lineSlack x_lineNotes x_lineColumn x_lineTop x_columnParagraph x_columnFirst x_columnLines x_columnNotes x_columnFilled := fun z => by
      refine br_f (by decide) (xf_start rfl rfl (by omega) H ?_)
      intro x_columnCount x_lineColumn x_lineTop x_columnParagraph x_columnFirst x_columnLines x_columnNotes x_columnFilled H2
      exact f58 _ _ _ _ _ _ _ _ _ (if_pos z).symm (by show _ + 1 ≤ 384; omega) H2
    have f47f : ¬ la_is x_doc x_view rw (la_fp x_doc x_view rw (la_fl x_doc x_view rw p) p k) p k = true → wX_fillColumns_47 post (wX_fillColumns_7 post n) (wX_fillColumns_19 post (wX_fillColumns_7 post n) (nI p) (d + 1)) (nI p) (nI k) 0 x_tracking x_view x_slotNow x_stepsBack x_stepsAgain x_stale x_rounds x_columnCount x_doc x_kept x_referenceWidth x_labelValue x_labelWidth x_lineCount x_gapBefore x_headNeeds x_groupNeeds x_wordLine x_wordLeft x_lineFirst x_lineWords x_lineLeft x_lineSlack x_lineNotes x_lineColumn x_lineTop x_columnParagraph x_columnFirst x_columnLines x_columnNotes x_columnFilled := fun z =>
      br_t rfl (f58 _ _ _ _ _ _ _ _ _ (if_neg z).symm (by omega) H)
    refine ⟨vp_in_nI (by omega) (by omega), ?_⟩
    rw [nI_clamp (by omega), hc]
    refine br_f (nI_ge (by omega) (by omega)) (pk_eq k 0 (fun z => ?_) (fun z => ?_))
    · subst z
      exact xf_opens hv rfl hp (fun z0 => by have := g2; show 1 ≤ (la_fl x_doc x_view rw p).1; omega) (by omega) HM H f47t f47f
    · have ei : la_is x_doc x_view rw (la_fp x_doc x_view rw (la_fl x_doc x_view rw p) p k) p k = la_tu x_doc x_view rw (la_fp x_doc x_view rw (la_fl x_doc x_view rw p) p k) p k := if_neg z
      rw [ei] at f47t f47f
      exact xf_turns hv rfl hp24 rfl (by omega) (q2 (by omega)) (by omega) hc hlo H f47t f47f
theorem xf_L7 {post : SX → Prop} {rw : Nat → Int32} (hv : dc_V x_doc) (HB : xb_B x_doc x_view rw (dc_n x_doc) x_lineCount x_wordLine x_wordLeft x_lineFirst x_lineWords x_lineLeft x_lineSlack x_lineNotes) (HM : xm_M x_doc x_view rw 0 x_gapBefore x_headNeeds x_groupNeeds)
    (h : ∀ x_columnCount x_lineColumn x_lineTop x_columnParagraph x_columnFirst x_columnLines x_columnNotes x_columnFilled, xf_C x_doc x_view rw (la_fl x_doc x_view rw (dc_n x_doc)) (dc_n x_doc) 0 x_columnCount x_lineColumn x_lineTop x_columnParagraph x_columnFirst x_columnLines x_columnNotes x_columnFilled → post (x_tracking, x_view, x_slotNow, x_stepsBack, x_stepsAgain, x_stale, x_rounds, x_columnCount, x_doc, x_kept, x_referenceWidth, x_labelValue, x_labelWidth, x_lineCount, x_gapBefore, x_headNeeds, x_groupNeeds, x_wordLine, x_wordLeft, x_lineFirst, x_lineWords, x_lineLeft, x_lineSlack, x_lineNotes, x_lineColumn, x_lineTop, x_columnParagraph, x_columnFirst, x_columnLines, x_columnNotes, x_columnFilled)) : ∀ (d p : Nat) (x_columnCount : Int32) (x_lineColumn x_lineTop x_columnParagraph x_columnFirst x_columnLines x_columnNotes x_columnFilled : Nat → Int32), p + d = dc_n x_doc →
    xf_C x_doc x_view rw (la_fl x_doc x_view rw p) p 0 x_columnCount x_lineColumn x_lineTop x_columnParagraph x_columnFirst x_columnLines x_columnNotes x_columnFilled → wX_fillColumns_7 post (d + 1) (nI p) x_tracking x_view x_slotNow x_stepsBack x_stepsAgain x_stale x_rounds x_columnCount x_doc x_kept x_referenceWidth x_labelValue x_labelWidth x_lineCount x_gapBefore x_headNeeds x_groupNeeds x_wordLine x_wordLeft x_lineFirst x_lineWords x_lineLeft x_lineSlack x_lineNotes x_lineColumn x_lineTop x_columnParagraph x_columnFirst x_columnLines x_columnNotes x_columnFilled
  | 0, p, x_columnCount, x_lineColumn, x_lineTop, x_columnParagraph, x_columnFirst, x_columnLines, x_columnNotes, x_columnFilled, hp, H => by
    obtain ⟨e0, h24⟩ := dc_Vn hv
    obtain rfl : p = dc_n x_doc := by omega
    exact br_t (by rw [e0]; exact nI_le (by omega) (by omega)) (h _ _ _ _ _ _ _ _ H)
  | d + 1, p, x_columnCount, x_lineColumn, x_lineTop, x_columnParagraph, x_columnFirst, x_columnLines, x_columnNotes, x_columnFilled, hp, H => by
    obtain ⟨e0, h24⟩ := dc_Vn hv
    refine br_f (by rw [e0]; exact nI_ge (by omega) (by omega)) ⟨la_nl x_doc x_view rw p + 1, ?_⟩
    exact xf_L19 (k := 0) hv HB HM (by omega) (fun cc c1 c2 c3 c4 c5 c6 c7 H2 => xf_L7 hv HB HM h d (p + 1) cc c1 c2 c3 c4 c5 c6 c7 (by omega) H2) (la_nl x_doc x_view rw p) _ _ _ _ _ _ _ _ (by omega) H
theorem xs_fill {post : SX → Prop} {rw : Nat → Int32} (hv : dc_V x_doc) (HB : xb_B x_doc x_view rw (dc_n x_doc) x_lineCount x_wordLine x_wordLeft x_lineFirst x_lineWords x_lineLeft x_lineSlack x_lineNotes) (HM : xm_M x_doc x_view rw 0 x_gapBefore x_headNeeds x_groupNeeds)
    (h : ∀ x_columnCount x_lineColumn x_lineTop x_columnParagraph x_columnFirst x_columnLines x_columnNotes x_columnFilled, xf_C x_doc x_view rw (la_fl x_doc x_view rw (dc_n x_doc)) (dc_n x_doc) 0 x_columnCount x_lineColumn x_lineTop x_columnParagraph x_columnFirst x_columnLines x_columnNotes x_columnFilled → post (x_tracking, x_view, x_slotNow, x_stepsBack, x_stepsAgain, x_stale, x_rounds, x_columnCount, x_doc, x_kept, x_referenceWidth, x_labelValue, x_labelWidth, x_lineCount, x_gapBefore, x_headNeeds, x_groupNeeds, x_wordLine, x_wordLeft, x_lineFirst, x_lineWords, x_lineLeft, x_lineSlack, x_lineNotes, x_lineColumn, x_lineTop, x_columnParagraph, x_columnFirst, x_columnLines, x_columnNotes, x_columnFilled)) : wpX_fillColumns post (x_tracking, x_view, x_slotNow, x_stepsBack, x_stepsAgain, x_stale, x_rounds, x_columnCount, x_doc, x_kept, x_referenceWidth, x_labelValue, x_labelWidth, x_lineCount, x_gapBefore, x_headNeeds, x_groupNeeds, x_wordLine, x_wordLeft, x_lineFirst, x_lineWords, x_lineLeft, x_lineSlack, x_lineNotes, x_lineColumn, x_lineTop, x_columnParagraph, x_columnFirst, x_columnLines, x_columnNotes, x_columnFilled) :=
  ⟨_, xf_L7 (p := 0) hv HB HM h (dc_n x_doc) 0 _ _ _ _ _ _ _ (by omega) ⟨rfl, fun i hi => absurd hi (Nat.not_lt_zero _), fun q j _ hq => absurd hq (by omega)⟩⟩
/-- references -/
theorem xr_pgL {post : Int32 → Prop} {m : Nat} {lC : Nat → Int32} (hv : dc_V x_doc) (hl : ∀ q, q < dc_n x_doc → x_lineColumn (16 * q) = lC (16 * q)) : ∀ (d p : Nat), p + d = dc_n x_doc → post (la_pg x_doc lC m d p) → wX_pageDigits_2 post (nI m) x_tracking x_view x_slotNow x_stepsBack x_stepsAgain x_stale x_rounds x_columnCount x_doc x_kept x_referenceWidth x_labelValue x_labelWidth x_lineCount x_gapBefore x_headNeeds x_groupNeeds x_wordLine x_wordLeft x_lineFirst x_lineWords x_lineLeft x_lineSlack x_lineNotes x_lineColumn x_lineTop x_columnParagraph x_columnFirst x_columnLines x_columnNotes x_columnFilled (d + 1) (nI p)
  | 0, p, hp, h => by
    obtain ⟨e0, h24⟩ := dc_Vn hv
    exact br_t (by rw [e0]; exact nI_le (by omega) (by omega)) h
  | d + 1, p, hp, h => by
    obtain ⟨e0, h24⟩ := dc_Vn hv
    refine br_f (by rw [e0]; exact nI_ge (by omega) (by omega)) (xr_rec rfl ⟨ix_in (nI_1 _) (by omega) (by omega), ?_⟩)
    rw [ix_c (nI_1 _) (by omega), show 76 + 51 * p + 1 = 77 + 51 * p from by omega]
    unfold la_pg at h
    have e16 : nI p * 16 = nI (16 * p) := by simp only [li_, pk_mul]; exact congrArg nI (by omega)
    refine br_c (fun z => ⟨ix_in e16 (by omega) (by omega), nm_r (e' := lC (16 * p)) (by rw [ix_c e16 (by omega), hl p (by omega)]) ?_⟩) (fun z => nm_r (nI_1 p) (xr_pgL hv hl d (p + 1) (by omega) ?_))
    · rw [if_pos z] at h
      refine br_c (fun y => ⟨by decide, ?_⟩) (fun y => ?_)
      · rw [if_pos y] at h; unfold wX_pageDigits_55; exact xr_dg h
      · rw [if_neg y] at h; unfold wX_pageDigits_55; exact xr_dg h
    · rw [if_neg z] at h; exact h
theorem xr_pg {post : Int32 → Prop} {x : Int32} {m : Nat} {lC : Nat → Int32} (hv : dc_V x_doc) (hx : x = nI m) (hl : ∀ q, q < dc_n x_doc → x_lineColumn (16 * q) = lC (16 * q)) (h : post (la_pg x_doc lC m (dc_n x_doc) 0)) : wpX_pageDigits post (x_tracking, x_view, x_slotNow, x_stepsBack, x_stepsAgain, x_stale, x_rounds, x_columnCount, x_doc, x_kept, x_referenceWidth, x_labelValue, x_labelWidth, x_lineCount, x_gapBefore, x_headNeeds, x_groupNeeds, x_wordLine, x_wordLeft, x_lineFirst, x_lineWords, x_lineLeft, x_lineSlack, x_lineNotes, x_lineColumn, x_lineTop, x_columnParagraph, x_columnFirst, x_columnLines, x_columnNotes, x_columnFilled) x := by
  subst hx
  exact ⟨_, xr_pgL hv hl (dc_n x_doc) 0 (by omega) h⟩
theorem xr_rfL14 {post : Int32 → Prop} {m p n : Nat} (hv : dc_V x_doc) (hp : p < dc_n x_doc) (h1 : la_rf x_doc m → post 1) (h0 : (∀ w, w < dc_w x_doc p → ¬ x_doc (79 + 51 * p + 3 * w) = -1 - nI m) → wX_isReferredTo_2 post (nI m) x_tracking x_view x_slotNow x_stepsBack x_stepsAgain x_stale x_rounds x_columnCount x_doc x_kept x_referenceWidth x_labelValue x_labelWidth x_lineCount x_gapBefore x_headNeeds x_groupNeeds x_wordLine x_wordLeft x_lineFirst x_lineWords x_lineLeft x_lineSlack x_lineNotes x_lineColumn x_lineTop x_columnParagraph x_columnFirst x_columnLines x_columnNotes x_columnFilled n (nI (p + 1))) : ∀ (d w : Nat), w + d = dc_w x_doc p → (∀ v, v < w → ¬ x_doc (79 + 51 * p + 3 * v) = -1 - nI m) →
    wX_isReferredTo_14 post (wX_isReferredTo_2 post (nI m) x_tracking x_view x_slotNow x_stepsBack x_stepsAgain x_stale x_rounds x_columnCount x_doc x_kept x_referenceWidth x_labelValue x_labelWidth x_lineCount x_gapBefore x_headNeeds x_groupNeeds x_wordLine x_wordLeft x_lineFirst x_lineWords x_lineLeft x_lineSlack x_lineNotes x_lineColumn x_lineTop x_columnParagraph x_columnFirst x_columnLines x_columnNotes x_columnFilled n) (nI m) (nI p) x_tracking x_view x_slotNow x_stepsBack x_stepsAgain x_stale x_rounds x_columnCount x_doc x_kept x_referenceWidth x_labelValue x_labelWidth x_lineCount x_gapBefore x_headNeeds x_groupNeeds x_wordLine x_wordLeft x_lineFirst x_lineWords x_lineLeft x_lineSlack x_lineNotes x_lineColumn x_lineTop x_columnParagraph x_columnFirst x_columnLines x_columnNotes x_columnFilled (d + 1) (nI w)
  | 0, w, hw, H => by
    have h24 := (dc_Vn hv).2
    obtain ⟨ew, h16⟩ := dc_Vw hv (p := p) (by omega)
    unfold wX_isReferredTo_14
    refine xr_wo rfl (by omega) ?_
    rw [ew]
    exact br_t (nI_le (by omega) (by omega)) (nm_r (nI_1 p) (h0 fun v hv => H v (by omega)))
  | d + 1, w, hw, H => by
    have h24 := (dc_Vn hv).2
    obtain ⟨ew, h16⟩ := dc_Vw hv (p := p) (by omega)
    unfold wX_isReferredTo_14
    refine xr_wo rfl (by omega) ?_
    rw [ew]
    refine br_f (nI_ge (by omega) (by omega)) (xr_wa rfl rfl ⟨ix_in (ad_0 _) (by omega) (by omega), ?_⟩)
    rw [ix_c (ad_0 _) (by omega)]
    refine br_c (fun z => h1 ⟨p, w, hp, by omega, z⟩) (fun z => nm_r (nI_1 w) (xr_rfL14 hv hp h1 h0 d (w + 1) (by omega) fun v hv => ?_))
    by_cases e : v = w
    · subst e; exact z
    · exact H v (by omega)
theorem xr_rfL {post : Int32 → Prop} {m : Nat} (hv : dc_V x_doc) (h1 : la_rf x_doc m → post 1) (h0 : ¬ la_rf x_doc m → post 0) : ∀ (d p : Nat), p + d = dc_n x_doc → (∀ q w, q < p → w < dc_w x_doc q → ¬ x_doc (79 + 51 * q + 3 * w) = -1 - nI m) → wX_isReferredTo_2 post (nI m) x_tracking x_view x_slotNow x_stepsBack x_stepsAgain x_stale x_rounds x_columnCount x_doc x_kept x_referenceWidth x_labelValue x_labelWidth x_lineCount x_gapBefore x_headNeeds x_groupNeeds x_wordLine x_wordLeft x_lineFirst x_lineWords x_lineLeft x_lineSlack x_lineNotes x_lineColumn x_lineTop x_columnParagraph x_columnFirst x_columnLines x_columnNotes x_columnFilled (d + 1) (nI p)
  | 0, p, hp, H => by
    obtain ⟨e0, h24⟩ := dc_Vn hv
    refine br_t (by rw [e0]; exact nI_le (by omega) (by omega)) (h0 ?_)
    rintro ⟨q, w, q1, q2, q3⟩
    exact H q w (by omega) q2 q3
  | d + 1, p, hp, H => by
    obtain ⟨e0, h24⟩ := dc_Vn hv
    refine br_f (by rw [e0]; exact nI_ge (by omega) (by omega)) ⟨dc_w x_doc p + 1, xr_rfL14 hv (by omega) h1 (fun G => xr_rfL hv h1 h0 d (p + 1) (by omega) fun q w q1 q2 => ?_) (dc_w x_doc p) 0 (by omega) (fun v hv => absurd hv (by omega))⟩
    by_cases e : q = p
    · subst e; exact G w q2
    · exact H q w (by omega) q2
theorem xr_rf {post : Int32 → Prop} {x : Int32} {m : Nat} (hv : dc_V x_doc) (hx : x = nI m) (h1 : la_rf x_doc m → post 1) (h0 : ¬ la_rf x_doc m → post 0) : wpX_isReferredTo post (x_tracking, x_view, x_slotNow, x_stepsBack, x_stepsAgain, x_stale, x_rounds, x_columnCount, x_doc, x_kept, x_referenceWidth, x_labelValue, x_labelWidth, x_lineCount, x_gapBefore, x_headNeeds, x_groupNeeds, x_wordLine, x_wordLeft, x_lineFirst, x_lineWords, x_lineLeft, x_lineSlack, x_lineNotes, x_lineColumn, x_lineTop, x_columnParagraph, x_columnFirst, x_columnLines, x_columnNotes, x_columnFilled) x := by
  subst hx
  exact ⟨_, xr_rfL hv h1 h0 (dc_n x_doc) 0 (by omega) (fun q w hq => absurd hq (by omega))⟩
end
section
/-- what X knows when its layout isn't stale -/
def lx_OK (a : Nat → Int32) (vw ro cc : Int32) (lv lc wl wx lf ln ll ls lo lk lt cp cf cl cn cd : Nat → Int32) : Prop := ∃ r, la_fin a vw r ∧ ro = nI r ∧ (∀ q, q < dc_n a → lv q = la_lb a q)
  ∧ xb_B a vw (la_rk a vw (r - 1)) (dc_n a) lc wl wx lf ln ll ls lo ∧ xf_C a vw (la_rk a vw (r - 1)) (la_fl a vw (la_rk a vw (r - 1)) (dc_n a)) (dc_n a) 0 cc lk lt cp cf cl cn cd
variable {x_tracking x_view x_slotNow x_stepsBack x_stepsAgain x_stale x_rounds x_columnCount : Int32} {x_doc x_kept x_referenceWidth x_labelValue x_labelWidth x_lineCount x_gapBefore x_headNeeds x_groupNeeds x_wordLine x_wordLeft x_lineFirst x_lineWords x_lineLeft x_lineSlack x_lineNotes x_lineColumn x_lineTop x_columnParagraph x_columnFirst x_columnLines x_columnNotes x_columnFilled : Nat → Int32}
theorem xr_chL {post : Int32 → SX → Prop} {rw : Nat → Int32} (hv : dc_V x_doc) (hl : ∀ q, q < dc_n x_doc → x_lineColumn (16 * q) = (la_fl x_doc x_view rw (dc_n x_doc)).2.2.2.2.2.2.1 (16 * q))
    (h1 : la_ch x_doc x_view rw → ∀ x_referenceWidth, (∀ m, m < 8 → x_referenceWidth m = la_nx x_doc x_view rw m) → post 1 (x_tracking, x_view, x_slotNow, x_stepsBack, x_stepsAgain, x_stale, x_rounds, x_columnCount, x_doc, x_kept, x_referenceWidth, x_labelValue, x_labelWidth, x_lineCount, x_gapBefore, x_headNeeds, x_groupNeeds, x_wordLine, x_wordLeft, x_lineFirst, x_lineWords, x_lineLeft, x_lineSlack, x_lineNotes, x_lineColumn, x_lineTop, x_columnParagraph, x_columnFirst, x_columnLines, x_columnNotes, x_columnFilled))
    (h0 : ¬ la_ch x_doc x_view rw → ∀ x_referenceWidth, (∀ m, m < 8 → x_referenceWidth m = la_nx x_doc x_view rw m) → post 0 (x_tracking, x_view, x_slotNow, x_stepsBack, x_stepsAgain, x_stale, x_rounds, x_columnCount, x_doc, x_kept, x_referenceWidth, x_labelValue, x_labelWidth, x_lineCount, x_gapBefore, x_headNeeds, x_groupNeeds, x_wordLine, x_wordLeft, x_lineFirst, x_lineWords, x_lineLeft, x_lineSlack, x_lineNotes, x_lineColumn, x_lineTop, x_columnParagraph, x_columnFirst, x_columnLines, x_columnNotes, x_columnFilled)) : ∀ (d m : Nat) (x1 : Int32) (x_referenceWidth : Nat → Int32), m + d = 8 →
    (∀ i, i < m → x_referenceWidth i = la_nx x_doc x_view rw i) → (∀ i, m ≤ i → i < 8 → x_referenceWidth i = rw i) → ((x1 = 1 ∧ la_ch x_doc x_view rw) ∨ (x1 = 0 ∧ ∀ i, i < m → ¬ (la_nx x_doc x_view rw i ≠ rw i ∧ la_rf x_doc i))) →
    wX_referencesChange_4 post x_tracking x_view x_slotNow x_stepsBack x_stepsAgain x_stale x_rounds x_columnCount (d + 1) x1 (nI m) x_doc x_kept x_referenceWidth x_labelValue x_labelWidth x_lineCount x_gapBefore x_headNeeds x_groupNeeds x_wordLine x_wordLeft x_lineFirst x_lineWords x_lineLeft x_lineSlack x_lineNotes x_lineColumn x_lineTop x_columnParagraph x_columnFirst x_columnLines x_columnNotes x_columnFilled
  | 0, m, x1, x_referenceWidth, hm, q1, q2, q3 => by
    obtain rfl : m = 8 := by omega
    refine br_t (nI_le (a := 8) (b := 8) (by omega) (by omega)) ?_
    rcases q3 with ⟨rfl, c⟩ | ⟨rfl, c⟩
    · exact ⟨rfl, h1 c _ q1⟩
    · refine ⟨rfl, h0 ?_ _ q1⟩
      rintro ⟨i, z1, z2⟩
      exact c i z1 z2
  | d + 1, m, x1, x_referenceWidth, hm, q1, q2, q3 => by
    have jm := vp_in_nI (n := m) (N := 8) (by omega) (by omega)
    have cm := nI_clamp (n := m) (by omega)
    have next : ∀ y1 : Int32, ((y1 = 1 ∧ la_ch x_doc x_view rw) ∨ (y1 = 0 ∧ ∀ i, i < m + 1 → ¬ (la_nx x_doc x_view rw i ≠ rw i ∧ la_rf x_doc i))) → wX_referencesChange_4 post x_tracking x_view x_slotNow x_stepsBack x_stepsAgain x_stale x_rounds x_columnCount (d + 1) y1 (nI (m + 1)) x_doc x_kept (upd x_referenceWidth m (la_nx x_doc x_view rw m)) x_labelValue x_labelWidth x_lineCount x_gapBefore x_headNeeds x_groupNeeds x_wordLine x_wordLeft x_lineFirst x_lineWords x_lineLeft x_lineSlack x_lineNotes x_lineColumn x_lineTop x_columnParagraph x_columnFirst x_columnLines x_columnNotes x_columnFilled := fun y1 q4 => by
      refine xr_chL hv hl h1 h0 d (m + 1) y1 _ (by omega) (fun i hi => ?_) (fun i hi hi2 => ?_) q4
      · by_cases e : i = m
        · subst e; exact pk_us
        · rw [pk_un e]; exact q1 i (by omega)
      · rw [pk_un (by omega)]; exact q2 i (by omega) hi2
    have keep : ¬ (la_nx x_doc x_view rw m ≠ rw m ∧ la_rf x_doc m) → ((x1 = 1 ∧ la_ch x_doc x_view rw) ∨ (x1 = 0 ∧ ∀ i, i < m + 1 → ¬ (la_nx x_doc x_view rw i ≠ rw i ∧ la_rf x_doc i))) := fun z => by
      rcases q3 with c | ⟨c1, c2⟩
      · exact Or.inl c
      · refine Or.inr ⟨c1, fun i hi => ?_⟩
        by_cases e : i = m
        · subst e; exact z
        · exact c2 i (by omega)
    refine br_f (nI_ge (b := 8) (by omega) (by omega)) (xr_pg hv rfl hl ⟨jm, ?_⟩)
    rw [cm, q2 m (by omega) (by omega)]
    refine br_c (fun z => ⟨jm, nm_e (nm_r (nI_1 m) (next x1 (keep fun c => c.1 z)))⟩) (fun z => xr_rf hv rfl (fun c => br_f (by decide) ⟨jm, nm_r rfl (nm_r (nI_1 m) (next 1 (Or.inl ⟨rfl, ⟨m, by omega, z, c⟩⟩)))⟩) (fun c => br_t rfl ⟨jm, nm_r rfl (nm_r (nI_1 m) (next x1 (keep fun c2 => c c2.2)))⟩))
theorem xs_ch {post : Int32 → SX → Prop} {rw : Nat → Int32} (hv : dc_V x_doc) (hr : ∀ m, m < 8 → x_referenceWidth m = rw m) (hl : ∀ q, q < dc_n x_doc → x_lineColumn (16 * q) = (la_fl x_doc x_view rw (dc_n x_doc)).2.2.2.2.2.2.1 (16 * q))
    (h1 : la_ch x_doc x_view rw → ∀ x_referenceWidth, (∀ m, m < 8 → x_referenceWidth m = la_nx x_doc x_view rw m) → post 1 (x_tracking, x_view, x_slotNow, x_stepsBack, x_stepsAgain, x_stale, x_rounds, x_columnCount, x_doc, x_kept, x_referenceWidth, x_labelValue, x_labelWidth, x_lineCount, x_gapBefore, x_headNeeds, x_groupNeeds, x_wordLine, x_wordLeft, x_lineFirst, x_lineWords, x_lineLeft, x_lineSlack, x_lineNotes, x_lineColumn, x_lineTop, x_columnParagraph, x_columnFirst, x_columnLines, x_columnNotes, x_columnFilled))
    (h0 : ¬ la_ch x_doc x_view rw → ∀ x_referenceWidth, (∀ m, m < 8 → x_referenceWidth m = la_nx x_doc x_view rw m) → post 0 (x_tracking, x_view, x_slotNow, x_stepsBack, x_stepsAgain, x_stale, x_rounds, x_columnCount, x_doc, x_kept, x_referenceWidth, x_labelValue, x_labelWidth, x_lineCount, x_gapBefore, x_headNeeds, x_groupNeeds, x_wordLine, x_wordLeft, x_lineFirst, x_lineWords, x_lineLeft, x_lineSlack, x_lineNotes, x_lineColumn, x_lineTop, x_columnParagraph, x_columnFirst, x_columnLines, x_columnNotes, x_columnFilled)) : wpX_referencesChange post (x_tracking, x_view, x_slotNow, x_stepsBack, x_stepsAgain, x_stale, x_rounds, x_columnCount, x_doc, x_kept, x_referenceWidth, x_labelValue, x_labelWidth, x_lineCount, x_gapBefore, x_headNeeds, x_groupNeeds, x_wordLine, x_wordLeft, x_lineFirst, x_lineWords, x_lineLeft, x_lineSlack, x_lineNotes, x_lineColumn, x_lineTop, x_columnParagraph, x_columnFirst, x_columnLines, x_columnNotes, x_columnFilled) :=
  ⟨9, xr_chL (m := 0) hv hl h1 h0 8 0 _ (by omega) (fun i hi => absurd hi (by omega)) (fun i _ hi => hr i hi) (Or.inr ⟨rfl, fun i hi => absurd hi (by omega)⟩)⟩
/-- one round -/
theorem xw_58 {post : SX → Prop} {n r : Nat} {rw : Nat → Int32} (hv : dc_V x_doc) (hr : ∀ m, m < 8 → x_referenceWidth m = rw m) (hl : ∀ q, q < dc_n x_doc → x_labelWidth q = la_lw x_doc q)
    (h1 : la_ch x_doc x_view rw → ∀ x_columnCount x_referenceWidth x_lineCount x_wordLine x_wordLeft x_lineFirst x_lineWords x_lineLeft x_lineSlack x_lineNotes x_gapBefore x_headNeeds x_groupNeeds x_lineColumn x_lineTop x_columnParagraph x_columnFirst x_columnLines x_columnNotes x_columnFilled, (∀ m, m < 8 → x_referenceWidth m = la_nx x_doc x_view rw m) → xb_B x_doc x_view rw (dc_n x_doc) x_lineCount x_wordLine x_wordLeft x_lineFirst x_lineWords x_lineLeft x_lineSlack x_lineNotes → xf_C x_doc x_view rw (la_fl x_doc x_view rw (dc_n x_doc)) (dc_n x_doc) 0 x_columnCount x_lineColumn x_lineTop x_columnParagraph x_columnFirst x_columnLines x_columnNotes x_columnFilled → wX_layOutIfStale_42 post n 0 (nI (r + 1)) x_tracking x_view x_slotNow x_stepsBack x_stepsAgain x_stale x_rounds x_columnCount x_doc x_kept x_referenceWidth x_labelValue x_labelWidth x_lineCount x_gapBefore x_headNeeds x_groupNeeds x_wordLine x_wordLeft x_lineFirst x_lineWords x_lineLeft x_lineSlack x_lineNotes x_lineColumn x_lineTop x_columnParagraph x_columnFirst x_columnLines x_columnNotes x_columnFilled)
    (h0 : ¬ la_ch x_doc x_view rw → ∀ x_columnCount x_referenceWidth x_lineCount x_wordLine x_wordLeft x_lineFirst x_lineWords x_lineLeft x_lineSlack x_lineNotes x_gapBefore x_headNeeds x_groupNeeds x_lineColumn x_lineTop x_columnParagraph x_columnFirst x_columnLines x_columnNotes x_columnFilled, (∀ m, m < 8 → x_referenceWidth m = la_nx x_doc x_view rw m) → xb_B x_doc x_view rw (dc_n x_doc) x_lineCount x_wordLine x_wordLeft x_lineFirst x_lineWords x_lineLeft x_lineSlack x_lineNotes → xf_C x_doc x_view rw (la_fl x_doc x_view rw (dc_n x_doc)) (dc_n x_doc) 0 x_columnCount x_lineColumn x_lineTop x_columnParagraph x_columnFirst x_columnLines x_columnNotes x_columnFilled → wX_layOutIfStale_42 post n 1 (nI (r + 1)) x_tracking x_view x_slotNow x_stepsBack x_stepsAgain x_stale x_rounds x_columnCount x_doc x_kept x_referenceWidth x_labelValue x_labelWidth x_lineCount x_gapBefore x_headNeeds x_groupNeeds x_wordLine x_wordLeft x_lineFirst x_lineWords x_lineLeft x_lineSlack x_lineNotes x_lineColumn x_lineTop x_columnParagraph x_columnFirst x_columnLines x_columnNotes x_columnFilled) : ∀ (d p : Nat) (x_lineCount x_wordLine x_wordLeft x_lineFirst x_lineWords x_lineLeft x_lineSlack x_lineNotes : Nat → Int32), p + d = dc_n x_doc →
    xb_B x_doc x_view rw p x_lineCount x_wordLine x_wordLeft x_lineFirst x_lineWords x_lineLeft x_lineSlack x_lineNotes → wX_layOutIfStale_58 post (wX_layOutIfStale_42 post n) (nI r) (d + 1) (nI p) x_tracking x_view x_slotNow x_stepsBack x_stepsAgain x_stale x_rounds x_columnCount x_doc x_kept x_referenceWidth x_labelValue x_labelWidth x_lineCount x_gapBefore x_headNeeds x_groupNeeds x_wordLine x_wordLeft x_lineFirst x_lineWords x_lineLeft x_lineSlack x_lineNotes x_lineColumn x_lineTop x_columnParagraph x_columnFirst x_columnLines x_columnNotes x_columnFilled
  | 0, p, x_lineCount, x_wordLine, x_wordLeft, x_lineFirst, x_lineWords, x_lineLeft, x_lineSlack, x_lineNotes, hp, H => by
    obtain ⟨e0, h24⟩ := dc_Vn hv
    obtain rfl : p = dc_n x_doc := by omega
    refine br_t (by rw [e0]; exact nI_le (by omega) (by omega)) (xs_meas hv H ?_)
    intro x_gapBefore x_headNeeds x_groupNeeds HM
    refine xs_fill hv H HM ?_
    intro x_columnCount x_lineColumn x_lineTop x_columnParagraph x_columnFirst x_columnLines x_columnNotes x_columnFilled HC
    refine xs_ch hv hr (fun q hq => ?_) (fun c x_referenceWidth g => br_f (by decide) (nm_r (nI_1 r) (h1 c _ _ _ _ _ _ _ _ _ _ _ _ _ _ _ _ _ _ _ _ g H HC))) (fun c x_referenceWidth g => br_t rfl (nm_r (nI_1 r) (h0 c _ _ _ _ _ _ _ _ _ _ _ _ _ _ _ _ _ _ _ _ g H HC)))
    have hn := la_nlP (a := x_doc) (rw := rw) (vw := x_view) (dc_Vw hv (p := q) (by omega)).2
    exact (HC.2.2 q 0 (by omega) (Or.inl ⟨hq, by omega⟩)).1
  | d + 1, p, x_lineCount, x_wordLine, x_wordLeft, x_lineFirst, x_lineWords, x_lineLeft, x_lineSlack, x_lineNotes, hp, H => by
    obtain ⟨e0, h24⟩ := dc_Vn hv
    refine br_f (by rw [e0]; exact nI_ge (by omega) (by omega)) (xs_break hv hr (hl p (by omega)) rfl (by omega) H ?_)
    intro x_lineCount x_wordLine x_wordLeft x_lineFirst x_lineWords x_lineLeft x_lineSlack x_lineNotes H2
    exact nm_r (nI_1 p) (xw_58 hv hr hl h1 h0 d (p + 1) _ _ _ _ _ _ _ _ (by omega) H2)
theorem xw_42 {post : SX → Prop} (hv : dc_V x_doc) (HN : xl_N x_doc x_labelValue x_labelWidth (dc_n x_doc))
    (h : ∀ x_rounds x_columnCount x_referenceWidth x_lineCount x_wordLine x_wordLeft x_lineFirst x_lineWords x_lineLeft x_lineSlack x_lineNotes x_gapBefore x_headNeeds x_groupNeeds x_lineColumn x_lineTop x_columnParagraph x_columnFirst x_columnLines x_columnNotes x_columnFilled, lx_OK x_doc x_view x_rounds x_columnCount x_labelValue x_lineCount x_wordLine x_wordLeft x_lineFirst x_lineWords x_lineLeft x_lineSlack x_lineNotes x_lineColumn x_lineTop x_columnParagraph x_columnFirst x_columnLines x_columnNotes x_columnFilled → post (x_tracking, x_view, x_slotNow, x_stepsBack, x_stepsAgain, x_stale, x_rounds, x_columnCount, x_doc, x_kept, x_referenceWidth, x_labelValue, x_labelWidth, x_lineCount, x_gapBefore, x_headNeeds, x_groupNeeds, x_wordLine, x_wordLeft, x_lineFirst, x_lineWords, x_lineLeft, x_lineSlack, x_lineNotes, x_lineColumn, x_lineTop, x_columnParagraph, x_columnFirst, x_columnLines, x_columnNotes, x_columnFilled)) : ∀ (d r : Nat) (x_rounds x_columnCount : Int32) (x_referenceWidth x_lineCount x_wordLine x_wordLeft x_lineFirst x_lineWords x_lineLeft x_lineSlack x_lineNotes x_gapBefore x_headNeeds x_groupNeeds x_lineColumn x_lineTop x_columnParagraph x_columnFirst x_columnLines x_columnNotes x_columnFilled : Nat → Int32), r + d = 4 → 1 ≤ r →
    (∀ i, i + 1 < r → la_ch x_doc x_view (la_rk x_doc x_view i)) → (∀ m, m < 8 → x_referenceWidth m = la_rk x_doc x_view (r - 1) m) → wX_layOutIfStale_42 post (d + 2) 0 (nI r) x_tracking x_view x_slotNow x_stepsBack x_stepsAgain x_stale x_rounds x_columnCount x_doc x_kept x_referenceWidth x_labelValue x_labelWidth x_lineCount x_gapBefore x_headNeeds x_groupNeeds x_wordLine x_wordLeft x_lineFirst x_lineWords x_lineLeft x_lineSlack x_lineNotes x_lineColumn x_lineTop x_columnParagraph x_columnFirst x_columnLines x_columnNotes x_columnFilled
  | d, r, x_rounds, x_columnCount, x_referenceWidth, x_lineCount, x_wordLine, x_wordLeft, x_lineFirst, x_lineWords, x_lineLeft, x_lineSlack, x_lineNotes, x_gapBefore, x_headNeeds, x_groupNeeds, x_lineColumn, x_lineTop, x_columnParagraph, x_columnFirst, x_columnLines, x_columnNotes, x_columnFilled, hr4, hr1, hc, hr => by
    refine br_f (nI_nlt (a := 4) (by omega) (by omega)) (br_t rfl ⟨dc_n x_doc + 1, ?_⟩)
    have done : (r = 4 ∨ ¬ la_ch x_doc x_view (la_rk x_doc x_view (r - 1))) → la_fin x_doc x_view r := fun z => ⟨hr1, by omega, hc, z⟩
    refine xw_58 (p := 0) (rw := la_rk x_doc x_view (r - 1)) hv hr (fun q hq => (HN q hq).2) (fun c => ?_) (fun c => ?_) (dc_n x_doc) _ _ _ _ _ _ _ _ (by omega) (fun q hq => absurd hq (by omega))
    · intro x_columnCount x_referenceWidth x_lineCount x_wordLine x_wordLeft x_lineFirst x_lineWords x_lineLeft x_lineSlack x_lineNotes x_gapBefore x_headNeeds x_groupNeeds x_lineColumn x_lineTop x_columnParagraph x_columnFirst x_columnLines x_columnNotes x_columnFilled g H HC
      match d, hr4 with
      | 0, hr4 =>
        exact br_t (nI_lt (a := 4) (by omega) (by omega)) (h _ _ _ _ _ _ _ _ _ _ _ _ _ _ _ _ _ _ _ _ _ ⟨r, done (Or.inl (by omega)), rfl, fun q hq => (HN q hq).1, H, HC⟩)
      | d + 1, hr4 =>
        refine xw_42 hv HN h d (r + 1) _ _ _ _ _ _ _ _ _ _ _ _ _ _ _ _ _ _ _ _ _ (by omega) (by omega) (fun i hi => ?_) (fun m hm => ?_)
        · by_cases e : i = r - 1
          · subst e; exact c
          · exact hc i (by omega)
        · rw [g m hm, show r + 1 - 1 = r - 1 + 1 from by omega]; rfl
    · intro x_columnCount x_referenceWidth x_lineCount x_wordLine x_wordLeft x_lineFirst x_lineWords x_lineLeft x_lineSlack x_lineNotes x_gapBefore x_headNeeds x_groupNeeds x_lineColumn x_lineTop x_columnParagraph x_columnFirst x_columnLines x_columnNotes x_columnFilled g H HC
      have fin := h (nI r) x_columnCount x_referenceWidth _ _ _ _ _ _ _ _ x_gapBefore x_headNeeds x_groupNeeds _ _ _ _ _ _ _ ⟨r, done (Or.inr c), rfl, fun q hq => (HN q hq).1, H, HC⟩
      exact br_c (fun _ => fin) (fun _ => br_f (by decide) fin)
  termination_by d => d
theorem xw_19 {post : SX → Prop} (h : ∀ x_referenceWidth, (∀ m, m < 8 → x_referenceWidth m = 1) → ∃ n, wX_layOutIfStale_42 post n 0 1 x_tracking x_view x_slotNow x_stepsBack x_stepsAgain x_stale x_rounds x_columnCount x_doc x_kept x_referenceWidth x_labelValue x_labelWidth x_lineCount x_gapBefore x_headNeeds x_groupNeeds x_wordLine x_wordLeft x_lineFirst x_lineWords x_lineLeft x_lineSlack x_lineNotes x_lineColumn x_lineTop x_columnParagraph x_columnFirst x_columnLines x_columnNotes x_columnFilled) : ∀ (d m : Nat) (x_referenceWidth : Nat → Int32), m + d = 8 → (∀ i, i < m → x_referenceWidth i = 1) → wX_layOutIfStale_19 post x_tracking x_view x_slotNow x_stepsBack x_stepsAgain x_stale x_rounds x_columnCount (d + 1) (nI m) x_doc x_kept x_referenceWidth x_labelValue x_labelWidth x_lineCount x_gapBefore x_headNeeds x_groupNeeds x_wordLine x_wordLeft x_lineFirst x_lineWords x_lineLeft x_lineSlack x_lineNotes x_lineColumn x_lineTop x_columnParagraph x_columnFirst x_columnLines x_columnNotes x_columnFilled
  | 0, m, x_referenceWidth, hm, H => by
    obtain rfl : m = 8 := by omega
    exact br_t (nI_le (a := 8) (b := 8) (by omega) (by omega)) (h _ H)
  | d + 1, m, x_referenceWidth, hm, H => by
    refine br_f (nI_ge (b := 8) (by omega) (by omega)) ⟨vp_in_nI (by omega) (by omega), nm_r (by rw [nI_clamp (by omega)]) (nm_r (nI_1 m) (xw_19 h d (m + 1) _ (by omega) fun i hi => ?_))⟩
    by_cases e : i = m
    · subst e; exact pk_us
    · rw [pk_un e]; exact H i (by omega)
theorem xs_lay {post : SX → Prop} (hv : dc_V x_doc) (hs : x_stale = 0 ∨ x_stale = 1) (hok : x_stale = 0 → lx_OK x_doc x_view x_rounds x_columnCount x_labelValue x_lineCount x_wordLine x_wordLeft x_lineFirst x_lineWords x_lineLeft x_lineSlack x_lineNotes x_lineColumn x_lineTop x_columnParagraph x_columnFirst x_columnLines x_columnNotes x_columnFilled)
    (h : ∀ x_rounds x_columnCount x_referenceWidth x_labelValue x_labelWidth x_lineCount x_wordLine x_wordLeft x_lineFirst x_lineWords x_lineLeft x_lineSlack x_lineNotes x_gapBefore x_headNeeds x_groupNeeds x_lineColumn x_lineTop x_columnParagraph x_columnFirst x_columnLines x_columnNotes x_columnFilled, lx_OK x_doc x_view x_rounds x_columnCount x_labelValue x_lineCount x_wordLine x_wordLeft x_lineFirst x_lineWords x_lineLeft x_lineSlack x_lineNotes x_lineColumn x_lineTop x_columnParagraph x_columnFirst x_columnLines x_columnNotes x_columnFilled → post (x_tracking, x_view, x_slotNow, x_stepsBack, x_stepsAgain, 0, x_rounds, x_columnCount, x_doc, x_kept, x_referenceWidth, x_labelValue, x_labelWidth, x_lineCount, x_gapBefore, x_headNeeds, x_groupNeeds, x_wordLine, x_wordLeft, x_lineFirst, x_lineWords, x_lineLeft, x_lineSlack, x_lineNotes, x_lineColumn, x_lineTop, x_columnParagraph, x_columnFirst, x_columnLines, x_columnNotes, x_columnFilled)) : wpX_layOutIfStale post (x_tracking, x_view, x_slotNow, x_stepsBack, x_stepsAgain, x_stale, x_rounds, x_columnCount, x_doc, x_kept, x_referenceWidth, x_labelValue, x_labelWidth, x_lineCount, x_gapBefore, x_headNeeds, x_groupNeeds, x_wordLine, x_wordLeft, x_lineFirst, x_lineWords, x_lineLeft, x_lineSlack, x_lineNotes, x_lineColumn, x_lineTop, x_columnParagraph, x_columnFirst, x_columnLines, x_columnNotes, x_columnFilled) := by
  refine br_c (fun z => ?_) (fun z => ?_)
  · subst z
    exact h _ _ x_referenceWidth _ x_labelWidth _ _ _ _ _ _ _ _ x_gapBefore x_headNeeds x_groupNeeds _ _ _ _ _ _ _ (hok rfl)
  · refine xs_num hv ?_
    intro x_labelValue x_labelWidth HN
    refine ⟨9, xw_19 (fun x_referenceWidth hr => ⟨5, ?_⟩) 8 0 _ (by omega) (fun i hi => absurd hi (by omega))⟩
    exact xw_42 (d := 3) (r := 1) hv HN (fun _ _ _ _ _ _ _ _ _ _ _ _ _ _ _ _ _ _ _ _ _ G => h _ _ _ _ _ _ _ _ _ _ _ _ _ _ _ _ _ _ _ _ _ _ _ G) _ _ _ _ _ _ _ _ _ _ _ _ _ _ _ _ _ _ _ _ _ (by omega) (by omega) (fun i hi => absurd hi (by omega)) hr
end
section
/-- Y's arrays hold the document a -/
def yz_Z (a : Nat → Int32) (y_many y_pages y_styles y_styleOf y_markOf y_words y_width y_note y_status : Nat → Int32) : Prop := y_many 0 = a 0 ∧ (∀ j, j < 3 → y_pages j = a (1 + j)) ∧ (∀ j, j < 72 → y_styles j = a (4 + j)) ∧ (∀ p, p < 24 → y_styleOf p = a (76 + 51 * p)) ∧ (∀ p, p < 24 → y_markOf p = a (77 + 51 * p)) ∧ (∀ p, p < 24 → y_words p = a (78 + 51 * p))
  ∧ (∀ p w, p < 24 → w < 16 → y_width (16 * p + w) = a (79 + 51 * p + 3 * w)) ∧ (∀ p w, p < 24 → w < 16 → y_note (16 * p + w) = a (80 + 51 * p + 3 * w)) ∧ (∀ p w, p < 24 → w < 16 → y_status (16 * p + w) = a (81 + 51 * p + 3 * w))
theorem yz_of {A : Nat → Nat → Int32} {y_many y_pages y_styles y_styleOf y_markOf y_words y_width y_note y_status : Nat → Int32} (H : ya_A A y_many y_pages y_styles y_styleOf y_markOf y_words y_width y_note y_status) : yz_Z (A 0) y_many y_pages y_styles y_styleOf y_markOf y_words y_width y_note y_status := by
  refine ⟨(ya_many H (d := 0) (by omega)).symm, fun j hj => ?_, fun j hj => ?_, fun p hp => ?_, fun p hp => ?_, fun p hp => ?_, fun p w hp hw => ?_, fun p w hp hw => ?_, fun p w hp hw => ?_⟩
  · have z := ya_pages H (d := 0) (by omega) hj; rw [z]; exact congrArg y_pages (by omega)
  · have z := ya_styles H (d := 0) (by omega) hj; rw [z]; exact congrArg y_styles (by omega)
  · have z := ya_styleOf H (d := 0) (by omega) hp; rw [z]; exact congrArg y_styleOf (by omega)
  · have z := ya_markOf H (d := 0) (by omega) hp; rw [z]; exact congrArg y_markOf (by omega)
  · have z := ya_words H (d := 0) (by omega) hp; rw [z]; exact congrArg y_words (by omega)
  · have z := ya_width H (d := 0) (by omega) hp hw; rw [z]; exact congrArg y_width (by omega)
  · have z := ya_note H (d := 0) (by omega) hp hw; rw [z]; exact congrArg y_note (by omega)
  · have z := ya_status H (d := 0) (by omega) hp hw; rw [z]; exact congrArg y_status (by omega)
variable {y_doc y_tracking y_view y_done y_steps y_lines y_columns y_rounds y_known : Int32} {y_many y_styleOf y_markOf y_words y_width y_note y_status y_styles y_pages y_stepKind y_stepA y_stepB y_stepC y_stepOn y_ofParagraph y_firstWord y_wordsOf y_slack y_begin y_needs y_notes y_columnOf y_topOf y_firstLine y_label y_labelWide y_counter y_refWide y_nextWide y_columnLine y_columnLines y_filled y_foot : Nat → Int32} {a : Nat → Int32}
theorem yr_tr {post : Int32 → Prop} {x y : Int32} {p t : Nat} (hv : dc_V a) (Z : yz_Z a y_many y_pages y_styles y_styleOf y_markOf y_words y_width y_note y_status) (hx : x = nI p) (hp : p < 24) (hy : y = nI t) (ht : t < 12) (h : post (dc_v a p t)) : wpY_styleValue post (y_doc, y_tracking, y_view, y_done, y_steps, y_lines, y_columns, y_rounds, y_known, y_many, y_styleOf, y_markOf, y_words, y_width, y_note, y_status, y_styles, y_pages, y_stepKind, y_stepA, y_stepB, y_stepC, y_stepOn, y_ofParagraph, y_firstWord, y_wordsOf, y_slack, y_begin, y_needs, y_notes, y_columnOf, y_topOf, y_firstLine, y_label, y_labelWide, y_counter, y_refWide, y_nextWide, y_columnLine, y_columnLines, y_filled, y_foot) x y := by
  subst hx hy
  obtain ⟨es, h5⟩ := dc_Vs hv hp
  have e2 : (12 : Int32) * nI (dc_s a p) + nI t = nI (12 * dc_s a p + t) := by simp only [li_, pk_mul, nI_add]
  have e3 : y_styleOf (nI p).toNatClampNeg = nI (dc_s a p) := by rw [nI_clamp (by omega), Z.2.2.2.1 p hp, es]
  refine ⟨vp_in_nI (by omega) (by omega), ?_⟩
  rw [e3]
  refine ⟨ix_in e2 (by omega) (by omega), ?_⟩
  rw [ix_c e2 (by omega), Z.2.2.1 _ (by omega), show 4 + (12 * dc_s a p + t) = 4 + 12 * dc_s a p + t from by omega]; exact h
theorem yr_dg {post : Int32 → Prop} {x : Int32} (h : post (la_dg x)) : wpY_digits post x := by
  unfold la_dg at h
  refine br_c (fun z => br_c (fun y => ?_) (fun y => ?_)) (fun z => ?_)
  · rw [if_pos z, if_pos y] at h; exact h
  · rw [if_pos z, if_neg y] at h; exact h
  · rw [if_neg z] at h; exact h
theorem yr_cw {post : Int32 → Prop} (Z : yz_Z a y_many y_pages y_styles y_styleOf y_markOf y_words y_width y_note y_status) (h : post (la_cw a)) : wpY_columnWide post (y_doc, y_tracking, y_view, y_done, y_steps, y_lines, y_columns, y_rounds, y_known, y_many, y_styleOf, y_markOf, y_words, y_width, y_note, y_status, y_styles, y_pages, y_stepKind, y_stepA, y_stepB, y_stepC, y_stepOn, y_ofParagraph, y_firstWord, y_wordsOf, y_slack, y_begin, y_needs, y_notes, y_columnOf, y_topOf, y_firstLine, y_label, y_labelWide, y_counter, y_refWide, y_nextWide, y_columnLine, y_columnLines, y_filled, y_foot) := by
  have e0 := Z.2.1 0 (by omega)
  have e2 := Z.2.1 2 (by omega)
  have e2' : y_pages 2 = a 3 := e2
  have e0' : y_pages 0 = a 1 := e0
  unfold wpY_columnWide
  unfold la_cw at h
  refine br_c (fun z => ?_) (fun z => ⟨by decide, ?_⟩)
  · rw [e2'] at z; rw [if_pos z] at h; rw [e0']; exact h
  · rw [e2'] at z; rw [if_neg z] at h; rw [e0']; exact h
theorem yr_sh {post : Int32 → Prop} {x : Int32} {p w : Nat} (Z : yz_Z a y_many y_pages y_styles y_styleOf y_markOf y_words y_width y_note y_status) (hx : x = nI (16 * p + w)) (hp : p < 24) (hw : w < 16) (h1 : la_sh a y_view p w = true → post 1) (h0 : ¬ la_sh a y_view p w = true → post 0) : wpY_isShown post (y_doc, y_tracking, y_view, y_done, y_steps, y_lines, y_columns, y_rounds, y_known, y_many, y_styleOf, y_markOf, y_words, y_width, y_note, y_status, y_styles, y_pages, y_stepKind, y_stepA, y_stepB, y_stepC, y_stepOn, y_ofParagraph, y_firstWord, y_wordsOf, y_slack, y_begin, y_needs, y_notes, y_columnOf, y_topOf, y_firstLine, y_label, y_labelWide, y_counter, y_refWide, y_nextWide, y_columnLine, y_columnLines, y_filled, y_foot) x := by
  have es := Z.2.2.2.2.2.2.2.2 p w hp hw
  have j := ix_in (N := 768) hx (by omega) (by omega)
  unfold la_sh at h1 h0
  refine br_c (fun z => ?_) (fun z => br_c (fun y => ⟨j, ?_⟩) (fun y => ⟨j, ?_⟩))
  · rw [if_pos z] at h1; exact h1 rfl
  · rw [ix_c hx (by omega), es]
    refine br_c (fun q => ?_) (fun q => ?_)
    · rw [if_neg z, if_pos y, decide_eq_true q] at h0; exact h0 (by decide)
    · rw [if_neg z, if_pos y, decide_eq_false q] at h1; exact h1 rfl
  · rw [ix_c hx (by omega), es]
    refine br_c (fun q => ?_) (fun q => ?_)
    · rw [if_neg z, if_neg y, decide_eq_true q] at h0; exact h0 (by decide)
    · rw [if_neg z, if_neg y, decide_eq_false q] at h1; exact h1 rfl
theorem yr_wd {post : Int32 → Prop} {x : Int32} {p w : Nat} {rw : Nat → Int32} (hv : dc_V a) (Z : yz_Z a y_many y_pages y_styles y_styleOf y_markOf y_words y_width y_note y_status) (hr : ∀ m, m < 8 → y_refWide m = rw m) (hx : x = nI (16 * p + w)) (hp : p < 24) (hw : w < dc_w a p) (h : post (la_wd a rw p w)) : wpY_wide post (y_doc, y_tracking, y_view, y_done, y_steps, y_lines, y_columns, y_rounds, y_known, y_many, y_styleOf, y_markOf, y_words, y_width, y_note, y_status, y_styles, y_pages, y_stepKind, y_stepA, y_stepB, y_stepC, y_stepOn, y_ofParagraph, y_firstWord, y_wordsOf, y_slack, y_begin, y_needs, y_notes, y_columnOf, y_topOf, y_firstLine, y_label, y_labelWide, y_counter, y_refWide, y_nextWide, y_columnLine, y_columnLines, y_filled, y_foot) x := by
  have h16 := (dc_Vw hv hp).2
  have ew := Z.2.2.2.2.2.2.1 p w hp (by omega)
  have j := ix_in (N := 768) hx (by omega) (by omega)
  obtain ⟨b1, b2, b3⟩ := (dc_Vo hv hp hw).1
  refine ⟨j, ?_⟩
  rw [ix_c hx (by omega), ew]
  unfold la_wd at h
  refine br_c (fun z => ⟨j, ?_⟩) (fun z => ⟨j, ?_⟩)
  · have z0 : ¬ (0 : Int32) ≤ a (79 + 51 * p + 3 * w) := fun q => b3 (Int32.le_antisymm z q)
    rw [if_neg z0] at h
    obtain ⟨m, hm, e⟩ := la_neg b1 z0
    rw [e, nI_clamp (by omega)] at h ⊢
    refine ⟨vp_in_nI hm (by omega), ?_⟩
    rw [hr m hm]; exact h
  · have z0 : (0 : Int32) ≤ a (79 + 51 * p + 3 * w) := Int32.le_of_lt (Int32.not_le.mp z)
    rw [if_pos z0] at h; exact h
/-- labels -/
def yl_m (i : Nat) : Int32 := if i = 1 then 10000 else if i = 2 then 100 else 1
theorem yl_95s {post : SY → Prop} {J22 : Int32 → (Nat → Int32) → (Nat → Int32) → (Nat → Int32) → (Nat → Int32) → (Nat → Int32) → (Nat → Int32) → (Nat → Int32) → (Nat → Int32) → (Nat → Int32) → (Nat → Int32) → (Nat → Int32) → (Nat → Int32) → (Nat → Int32) → (Nat → Int32) → (Nat → Int32) → (Nat → Int32) → (Nat → Int32) → (Nat → Int32) → (Nat → Int32) → (Nat → Int32) → (Nat → Int32) → (Nat → Int32) → (Nat → Int32) → (Nat → Int32) → (Nat → Int32) → (Nat → Int32) → (Nat → Int32) → (Nat → Int32) → (Nat → Int32) → (Nat → Int32) → (Nat → Int32) → (Nat → Int32) → (Nat → Int32) → Prop} {p n i m : Nat} (hp : p < 24) (hi1 : 1 ≤ i) (hi : i ≤ n) (hn : n ≤ 3)
    (h : wY_findLabels_95 post J22 (nI p) (nI n) y_doc y_tracking y_view y_done y_steps y_lines y_columns y_rounds y_known m (nI (i + 1)) y_many y_styleOf y_markOf y_words y_width y_note y_status y_styles y_pages y_stepKind y_stepA y_stepB y_stepC y_stepOn y_ofParagraph y_firstWord y_wordsOf y_slack y_begin y_needs y_notes y_columnOf y_topOf y_firstLine (upd y_label p (y_label p + y_counter i * yl_m i)) (upd y_labelWide p (y_labelWide p + (la_dg (y_counter i) + 1))) y_counter y_refWide y_nextWide y_columnLine y_columnLines y_filled y_foot) :
    wY_findLabels_95 post J22 (nI p) (nI n) y_doc y_tracking y_view y_done y_steps y_lines y_columns y_rounds y_known (m + 1) (nI i) y_many y_styleOf y_markOf y_words y_width y_note y_status y_styles y_pages y_stepKind y_stepA y_stepB y_stepC y_stepOn y_ofParagraph y_firstWord y_wordsOf y_slack y_begin y_needs y_notes y_columnOf y_topOf y_firstLine y_label y_labelWide y_counter y_refWide y_nextWide y_columnLine y_columnLines y_filled y_foot := by
  have jp := vp_in_nI (n := p) (N := 24) hp (by omega)
  have cp := nI_clamp (n := p) (by omega)
  have ji := vp_in_nI (n := i) (N := 4) (by omega) (by omega)
  have ci := nI_clamp (n := i) (by omega)
  unfold yl_m at h
  refine br_f (nI_nlt (by omega) (by omega)) ⟨ji, ?_⟩
  rw [ci]
  refine yr_dg ⟨jp, jp, nm_r (by rw [cp]) ⟨jp, ji, pk_eq i 1 (fun z => ⟨jp, nm_r (by rw [cp]) (nm_r (nI_1 i) ?_)⟩) (fun z => pk_eq i 2 (fun y => ⟨jp, nm_r (by rw [cp]) (nm_r (nI_1 i) ?_)⟩) (fun y => ⟨jp, nm_r (by rw [cp]) (nm_r (nI_1 i) ?_)⟩))⟩⟩
  · rw [if_pos z] at h; exact h
  · rw [if_neg z, if_pos y] at h; exact h
  · rw [if_neg z, if_neg y] at h; exact h
theorem yl_N' {x : Int32} {m : Nat} (h : dc_N x m) : ∃ n, n ≤ m ∧ x = nI n := ⟨_, h.2, h.1⟩
def yl_N (a lv lw : Nat → Int32) (p : Nat) : Prop := ∀ q, q < p → lv q = la_lb a q ∧ lw q = la_lw a q
theorem yl_L {post : SY → Prop} (hv : dc_V a) (Z : yz_Z a y_many y_pages y_styles y_styleOf y_markOf y_words y_width y_note y_status) (h : ∀ y_label y_labelWide y_counter, yl_N a y_label y_labelWide (dc_n a) → post (y_doc, y_tracking, y_view, y_done, y_steps, y_lines, y_columns, y_rounds, y_known, y_many, y_styleOf, y_markOf, y_words, y_width, y_note, y_status, y_styles, y_pages, y_stepKind, y_stepA, y_stepB, y_stepC, y_stepOn, y_ofParagraph, y_firstWord, y_wordsOf, y_slack, y_begin, y_needs, y_notes, y_columnOf, y_topOf, y_firstLine, y_label, y_labelWide, y_counter, y_refWide, y_nextWide, y_columnLine, y_columnLines, y_filled, y_foot)) : ∀ (d p : Nat) (y_label y_labelWide y_counter : Nat → Int32), p + d = dc_n a → yl_N a y_label y_labelWide p → y_counter 1 = (la_ct a p).1 → y_counter 2 = (la_ct a p).2.1 → y_counter 3 = (la_ct a p).2.2 →
    wY_findLabels_22 post y_doc y_tracking y_view y_done y_steps y_lines y_columns y_rounds y_known (d + 1) (nI p) y_many y_styleOf y_markOf y_words y_width y_note y_status y_styles y_pages y_stepKind y_stepA y_stepB y_stepC y_stepOn y_ofParagraph y_firstWord y_wordsOf y_slack y_begin y_needs y_notes y_columnOf y_topOf y_firstLine y_label y_labelWide y_counter y_refWide y_nextWide y_columnLine y_columnLines y_filled y_foot
  | 0, p, y_label, y_labelWide, y_counter, hp, H, c1, c2, c3 => by
    obtain ⟨e0, h24⟩ := dc_Vn hv
    obtain rfl : p = dc_n a := by omega
    exact br_t (by rw [Z.1, e0]; exact nI_le (by omega) (by omega)) (h _ _ _ H)
  | d + 1, p, y_label, y_labelWide, y_counter, hp, H, c1, c2, c3 => by
    obtain ⟨e0, h24⟩ := dc_Vn hv
    have hp24 : p < 24 := by omega
    have jp := vp_in_nI (n := p) (N := 24) hp24 (by omega)
    have cp := nI_clamp (n := p) (by omega)
    obtain ⟨n, hn, en⟩ := yl_N' ((dc_Vt hv hp24 (t := 7) (by omega)).2.2.1 rfl)
    have ext : ∀ (f g : Nat → Int32), f p = la_lb a p → g p = la_lw a p → (∀ q, q ≠ p → f q = y_label q) → (∀ q, q ≠ p → g q = y_labelWide q) → yl_N a f g (p + 1) := fun f g e1 e2 e3 e4 q hq => by
      by_cases c : q = p
      · subst c; exact ⟨e1, e2⟩
      · rw [e3 q c, e4 q c]; exact H q (by omega)
    refine br_f (by rw [Z.1, e0]; exact nI_ge (by omega) (by omega)) (yr_tr hv Z rfl hp24 (t := 7) rfl (by omega) ⟨jp, nm_r (by rw [cp]) ⟨jp, nm_r (by rw [cp]) (br_c (fun z => ?_) (fun z => ?_))⟩⟩)
    · have ec : la_ct a (p + 1) = la_ct a p := if_pos z
      refine nm_r (nI_1 p) (yl_L hv Z h d (p + 1) _ _ _ (by omega) (ext _ _ ?_ ?_ (fun q hq => pk_un hq) (fun q hq => pk_un hq)) (by rw [ec]; exact c1) (by rw [ec]; exact c2) (by rw [ec]; exact c3))
      · rw [pk_us]; unfold la_lb; rw [if_pos z]
      · rw [pk_us]; unfold la_lw; rw [if_pos z]
    · have ec : la_ct a (p + 1) = ((la_ct a p).1 + (if dc_v a p 7 = 1 then 1 else 0), (if dc_v a p 7 = 1 then 0 else if dc_v a p 7 = 2 then (la_ct a p).2.1 + 1 else (la_ct a p).2.1), (if dc_v a p 7 = 3 then (la_ct a p).2.2 + 1 else 0)) := if_neg z
      have elb : la_lb a p = _ := if_neg z
      have elw : la_lw a p = _ := if_neg z
      rw [en] at z ⊢
      have jn := vp_in_nI (n := n) (N := 4) (by omega) (by omega)
      have cn := nI_clamp (n := n) (by omega)
      have next : ∀ (f g c : Nat → Int32), f p = la_lb a p → g p = la_lw a p → (∀ q, q ≠ p → f q = y_label q) → (∀ q, q ≠ p → g q = y_labelWide q) → c 1 = (la_ct a (p + 1)).1 → c 2 = (la_ct a (p + 1)).2.1 → c 3 = (la_ct a (p + 1)).2.2 → wY_findLabels_22 post y_doc y_tracking y_view y_done y_steps y_lines y_columns y_rounds y_known (d + 1) (nI (p + 1)) y_many y_styleOf y_markOf y_words y_width y_note y_status y_styles y_pages y_stepKind y_stepA y_stepB y_stepC y_stepOn y_ofParagraph y_firstWord y_wordsOf y_slack y_begin y_needs y_notes y_columnOf y_topOf y_firstLine f g c y_refWide y_nextWide y_columnLine y_columnLines y_filled y_foot := fun f g c e1 e2 e3 e4 e5 e6 e7 =>
        yl_L hv Z h d (p + 1) f g c (by omega) (ext f g e1 e2 e3 e4) e5 e6 e7
      have hn0 : n ≠ 0 := fun q => z (by rw [q]; rfl)
      have n3 : n = 1 ∨ n = 2 ∨ n = 3 := by omega
      have d12 : ¬ (nI 1 : Int32) = 2 := by decide
      have d13 : ¬ (nI 1 : Int32) = 3 := by decide
      have d21 : ¬ (nI 2 : Int32) = 1 := by decide
      have d23 : ¬ (nI 2 : Int32) = 3 := by decide
      have d31 : ¬ (nI 3 : Int32) = 1 := by decide
      have d32 : ¬ (nI 3 : Int32) = 2 := by decide
      have t11 : (nI 1 : Int32) = 1 := rfl
      have t22 : (nI 2 : Int32) = 2 := rfl
      have t33 : (nI 3 : Int32) = 3 := rfl
      have z0 : ∀ x : Int32, x * 100 + 0 = x * 100 := fun x => Int32.add_zero _
      rw [en] at ec elw
      refine ⟨jn, jn, nm_r (by rw [cn]) (nm_r (nI_1 n) ?_)⟩
      rcases n3 with rfl | rfl | rfl
      · rw [if_pos t11, if_pos t11, if_neg d13] at ec
        rw [ec] at elb elw
        refine ⟨3, br_f (nI_ge (a := 2) (b := 4) (by omega) (by omega)) ⟨vp_in_nI (n := 2) (by omega) (by omega), nm_r rfl (nm_r (nI_1 2) (br_f (nI_ge (a := 3) (b := 4) (by omega) (by omega)) ⟨vp_in_nI (n := 3) (by omega) (by omega), nm_r rfl (nm_r (nI_1 3) (br_t (nI_le (a := 4) (b := 4) (by omega) (by omega)) ⟨2, yl_95s (i := 1) hp24 (by omega) (by omega) (by omega) (br_t (nI_lt (a := 1) (b := 2) (by omega) (by omega)) (nm_r (nI_1 p) (next _ _ _ ?_ ?_ (fun q hq => by rw [pk_un hq, pk_un hq]) (fun q hq => by rw [pk_un hq, pk_un hq]) ?_ ?_ ?_)))⟩))⟩))⟩⟩
        · rw [pk_us, pk_us, elb]
          show 0 + (y_counter 1 + 1) * 10000 = ((la_ct a p).1 + 1) * 10000 + 0 * 100 + 0
          rw [c1, Int32.zero_add, Int32.zero_mul, Int32.add_zero, Int32.add_zero]
        · rw [pk_us, pk_us, elw]
          show 0 + (la_dg (y_counter 1 + 1) + 1) = (la_dg ((la_ct a p).1 + 1) + 1 + (if (2 : Int32) ≤ nI 1 then _ else 0)) + (if (3 : Int32) ≤ nI 1 then _ else 0)
          rw [c1, if_neg (by decide), if_neg (by decide), Int32.zero_add, Int32.add_zero, Int32.add_zero]
        · rw [ec]; show y_counter 1 + 1 = _; rw [c1]
        · rw [ec]; rfl
        · rw [ec]; rfl
      · rw [if_neg d21, if_neg d21, if_pos t22, if_neg d23] at ec
        rw [ec] at elb elw
        refine ⟨2, br_f (nI_ge (a := 3) (b := 4) (by omega) (by omega)) ⟨vp_in_nI (n := 3) (by omega) (by omega), nm_r rfl (nm_r (nI_1 3) (br_t (nI_le (a := 4) (b := 4) (by omega) (by omega)) ⟨3, yl_95s (i := 1) hp24 (by omega) (by omega) (by omega) (yl_95s (i := 2) hp24 (by omega) (by omega) (by omega) (br_t (nI_lt (a := 2) (b := 3) (by omega) (by omega)) (nm_r (nI_1 p) (next _ _ _ ?_ ?_ (fun q hq => by rw [pk_un hq, pk_un hq, pk_un hq]) (fun q hq => by rw [pk_un hq, pk_un hq, pk_un hq]) ?_ ?_ ?_))))⟩))⟩⟩
        · rw [pk_us, pk_us, pk_us, elb]
          show 0 + y_counter 1 * 10000 + (y_counter 2 + 1) * 100 = ((la_ct a p).1 + 0) * 10000 + ((la_ct a p).2.1 + 1) * 100 + 0
          rw [c1, c2, Int32.zero_add, Int32.add_zero, Int32.add_zero]
        · rw [pk_us, pk_us, pk_us, elw]
          show 0 + (la_dg (y_counter 1) + 1) + (la_dg (y_counter 2 + 1) + 1) = (la_dg ((la_ct a p).1 + 0) + 1 + (if (2 : Int32) ≤ nI 2 then la_dg ((la_ct a p).2.1 + 1) + 1 else 0)) + (if (3 : Int32) ≤ nI 2 then _ else 0)
          rw [c1, c2, if_pos (by decide), if_neg (by decide), Int32.zero_add, Int32.add_zero, Int32.add_zero]
        · rw [ec]; show y_counter 1 = (la_ct a p).1 + 0; rw [c1, Int32.add_zero]
        · rw [ec]; show y_counter 2 + 1 = _; rw [c2]
        · rw [ec]; rfl
      · rw [if_neg d31, if_neg d31, if_neg d32, if_pos t33] at ec
        rw [ec] at elb elw
        refine ⟨1, br_t (nI_le (a := 4) (b := 4) (by omega) (by omega)) ⟨4, yl_95s (i := 1) hp24 (by omega) (by omega) (by omega) (yl_95s (i := 2) hp24 (by omega) (by omega) (by omega) (yl_95s (i := 3) hp24 (by omega) (by omega) (by omega) (br_t (nI_lt (a := 3) (b := 4) (by omega) (by omega)) (nm_r (nI_1 p) (next _ _ _ ?_ ?_ (fun q hq => by rw [pk_un hq, pk_un hq, pk_un hq, pk_un hq]) (fun q hq => by rw [pk_un hq, pk_un hq, pk_un hq, pk_un hq]) ?_ ?_ ?_)))))⟩⟩
        · rw [pk_us, pk_us, pk_us, pk_us, elb]
          show 0 + y_counter 1 * 10000 + y_counter 2 * 100 + (y_counter 3 + 1) * 1 = ((la_ct a p).1 + 0) * 10000 + (la_ct a p).2.1 * 100 + ((la_ct a p).2.2 + 1)
          rw [c1, c2, c3, Int32.zero_add, Int32.add_zero, Int32.mul_one]
        · rw [pk_us, pk_us, pk_us, pk_us, elw]
          show 0 + (la_dg (y_counter 1) + 1) + (la_dg (y_counter 2) + 1) + (la_dg (y_counter 3 + 1) + 1) = (la_dg ((la_ct a p).1 + 0) + 1 + (if (2 : Int32) ≤ nI 3 then la_dg (la_ct a p).2.1 + 1 else 0)) + (if (3 : Int32) ≤ nI 3 then la_dg ((la_ct a p).2.2 + 1) + 1 else 0)
          rw [c1, c2, c3, if_pos (by decide), if_pos (by decide), Int32.zero_add, Int32.add_zero]
        · rw [ec]; show y_counter 1 = (la_ct a p).1 + 0; rw [c1, Int32.add_zero]
        · rw [ec]; show y_counter 2 = _; rw [c2]
        · rw [ec]; show y_counter 3 + 1 = _; rw [c3]
theorem ys_lab {post : SY → Prop} (hv : dc_V a) (Z : yz_Z a y_many y_pages y_styles y_styleOf y_markOf y_words y_width y_note y_status) (h : ∀ y_label y_labelWide y_counter, yl_N a y_label y_labelWide (dc_n a) → post (y_doc, y_tracking, y_view, y_done, y_steps, y_lines, y_columns, y_rounds, y_known, y_many, y_styleOf, y_markOf, y_words, y_width, y_note, y_status, y_styles, y_pages, y_stepKind, y_stepA, y_stepB, y_stepC, y_stepOn, y_ofParagraph, y_firstWord, y_wordsOf, y_slack, y_begin, y_needs, y_notes, y_columnOf, y_topOf, y_firstLine, y_label, y_labelWide, y_counter, y_refWide, y_nextWide, y_columnLine, y_columnLines, y_filled, y_foot)) : wpY_findLabels post (y_doc, y_tracking, y_view, y_done, y_steps, y_lines, y_columns, y_rounds, y_known, y_many, y_styleOf, y_markOf, y_words, y_width, y_note, y_status, y_styles, y_pages, y_stepKind, y_stepA, y_stepB, y_stepC, y_stepOn, y_ofParagraph, y_firstWord, y_wordsOf, y_slack, y_begin, y_needs, y_notes, y_columnOf, y_topOf, y_firstLine, y_label, y_labelWide, y_counter, y_refWide, y_nextWide, y_columnLine, y_columnLines, y_filled, y_foot) := by
  have e : ∀ i : Nat, i < 4 → ¬ (4 : Int32) ≤ nI i := fun i hi => nI_ge (b := 4) hi (by omega)
  refine ⟨5, br_f (e 0 (by omega)) ⟨vp_in_nI (n := 0) (by omega) (by omega), nm_r rfl (nm_r (nI_1 0) (br_f (e 1 (by omega)) ⟨vp_in_nI (n := 1) (by omega) (by omega), nm_r rfl (nm_r (nI_1 1) (br_f (e 2 (by omega)) ⟨vp_in_nI (n := 2) (by omega) (by omega), nm_r rfl (nm_r (nI_1 2) (br_f (e 3 (by omega)) ⟨vp_in_nI (n := 3) (by omega) (by omega), nm_r rfl (nm_r (nI_1 3) (br_t (nI_le (a := 4) (b := 4) (by omega) (by omega)) ⟨dc_n a + 1, ?_⟩))⟩))⟩))⟩))⟩⟩
  exact yl_L (p := 0) hv Z h (dc_n a) _ _ _ (by omega) (fun q hq => absurd hq (by omega)) rfl rfl rfl
end
section
theorem up_2 {g : Nat → Int32} {l : Nat} {x y : Int32} : upd (upd g l x) l y = upd g l y := by
  funext i
  by_cases e : i = l
  · subst e; rw [pk_us, pk_us]
  · rw [pk_un e, pk_un e, pk_un e]
variable {y_doc y_tracking y_view y_done y_steps y_lines y_columns y_rounds y_known : Int32} {y_many y_styleOf y_markOf y_words y_width y_note y_status y_styles y_pages y_stepKind y_stepA y_stepB y_stepC y_stepOn y_ofParagraph y_firstWord y_wordsOf y_slack y_begin y_needs y_notes y_columnOf y_topOf y_firstLine y_label y_labelWide y_counter y_refWide y_nextWide y_columnLine y_columnLines y_filled y_foot : Nat → Int32} {a : Nat → Int32}
theorem yt_L {post : Int32 → SY → Prop} {p l : Nat} {l0 rm : Int32} {rw : Nat → Int32} (hv : dc_V a) (Z : yz_Z a y_many y_pages y_styles y_styleOf y_markOf y_words y_width y_note y_status) (hr : ∀ m, m < 8 → y_refWide m = rw m) (hp : p < 24) (hl : l < 384) : ∀ (d w f t : Nat) (u n : Int32), w + d = dc_w a p → t ≤ w →
    wY_oneLine_262 post (nI p) (nI l) l0 rm (la_tl a y_view rw p rm d w f t u n).2.2.2.1 (nI (la_tl a y_view rw p rm d w f t u n).1) y_doc y_tracking y_view y_done y_steps y_lines y_columns y_rounds y_known y_many y_styleOf y_markOf y_words y_width y_note y_status y_styles y_pages y_stepKind y_stepA y_stepB y_stepC y_stepOn y_ofParagraph (upd y_firstWord l (nI (la_tl a y_view rw p rm d w f t u n).2.1)) (upd y_wordsOf l (nI (la_tl a y_view rw p rm d w f t u n).2.2.1)) y_slack y_begin y_needs (upd y_notes l (la_tl a y_view rw p rm d w f t u n).2.2.2.2) y_columnOf y_topOf y_firstLine y_label y_labelWide y_counter y_refWide y_nextWide y_columnLine y_columnLines y_filled y_foot →
    wY_oneLine_107 post (nI p) (nI l) l0 rm y_doc y_tracking y_view y_done y_steps y_lines y_columns y_rounds y_known (d + 2) u (nI w) 1 y_many y_styleOf y_markOf y_words y_width y_note y_status y_styles y_pages y_stepKind y_stepA y_stepB y_stepC y_stepOn y_ofParagraph (upd y_firstWord l (nI f)) (upd y_wordsOf l (nI t)) y_slack y_begin y_needs (upd y_notes l n) y_columnOf y_topOf y_firstLine y_label y_labelWide y_counter y_refWide y_nextWide y_columnLine y_columnLines y_filled y_foot
  | 0, w, f, t, u, n, hw, ht, h => by
    obtain ⟨ew, h16⟩ := dc_Vw hv hp
    refine br_f (by decide) ⟨vp_in_nI (by omega) (by omega), ?_⟩
    rw [nI_clamp (by omega), Z.2.2.2.2.2.1 p hp, ew]
    exact br_t (nI_le (by omega) (by omega)) h
  | d + 1, w, f, t, u, n, hw, ht, h => by
    obtain ⟨ew, h16⟩ := dc_Vw hv hp
    have jl := vp_in_nI (n := l) (N := 384) hl (by omega)
    have cl := nI_clamp (n := l) (by omega)
    have exw := ad_yl p w
    have hn := Z.2.2.2.2.2.2.2.1 p w hp (by omega)
    refine br_f (by decide) ⟨vp_in_nI (by omega) (by omega), ?_⟩
    rw [nI_clamp (by omega), Z.2.2.2.2.2.1 p hp, ew]
    refine br_f (nI_ge (by omega) (by omega)) (nm_r exw (yr_sh Z rfl hp (by omega) (fun hs => yr_wd hv Z hr rfl hp (by omega) ⟨jl, ?_⟩) (fun hs => yr_wd hv Z hr rfl hp (by omega) ⟨jl, ?_⟩)))
    · rw [cl, pk_us]
      have go : ∀ z0 : Int32, z0 = la_us a rw p w t u → wY_oneLine_170 post (wY_oneLine_107 post (nI p) (nI l) l0 rm y_doc y_tracking y_view y_done y_steps y_lines y_columns y_rounds y_known (d + 2)) (nI p) (nI l) l0 rm u (nI w) 1 (nI (16 * p + w)) 1 z0 y_doc y_tracking y_view y_done y_steps y_lines y_columns y_rounds y_known y_many y_styleOf y_markOf y_words y_width y_note y_status y_styles y_pages y_stepKind y_stepA y_stepB y_stepC y_stepOn y_ofParagraph (upd y_firstWord l (nI f)) (upd y_wordsOf l (nI t)) y_slack y_begin y_needs (upd y_notes l n) y_columnOf y_topOf y_firstLine y_label y_labelWide y_counter y_refWide y_nextWide y_columnLine y_columnLines y_filled y_foot := fun z0 ez => by
        subst ez
        have take : ¬ (0 < t ∧ rm < la_us a rw p w t u) → wY_oneLine_200 post (wY_oneLine_107 post (nI p) (nI l) l0 rm y_doc y_tracking y_view y_done y_steps y_lines y_columns y_rounds y_known (d + 2)) (nI p) (nI l) l0 rm u (nI w) 1 (nI (16 * p + w)) 1 (la_us a rw p w t u) y_doc y_tracking y_view y_done y_steps y_lines y_columns y_rounds y_known y_many y_styleOf y_markOf y_words y_width y_note y_status y_styles y_pages y_stepKind y_stepA y_stepB y_stepC y_stepOn y_ofParagraph (upd y_firstWord l (nI f)) (upd y_wordsOf l (nI t)) y_slack y_begin y_needs (upd y_notes l n) y_columnOf y_topOf y_firstLine y_label y_labelWide y_counter y_refWide y_nextWide y_columnLine y_columnLines y_filled y_foot := fun hc => by
          rw [la_tlt hs hc] at h
          have ih := yt_L hv Z hr hp hl d (w + 1) (if t = 0 then w else f) (t + 1) (la_us a rw p w t u) (n + a (80 + 51 * p + 3 * w)) (by omega) (by omega) h
          have f224 : ∀ fw : Nat → Int32, fw = upd y_firstWord l (nI (if t = 0 then w else f)) → wY_oneLine_224 post (wY_oneLine_107 post (nI p) (nI l) l0 rm y_doc y_tracking y_view y_done y_steps y_lines y_columns y_rounds y_known (d + 2)) (nI p) (nI l) l0 rm (nI w) 1 (nI (16 * p + w)) (la_us a rw p w t u) y_doc y_tracking y_view y_done y_steps y_lines y_columns y_rounds y_known y_many y_styleOf y_markOf y_words y_width y_note y_status y_styles y_pages y_stepKind y_stepA y_stepB y_stepC y_stepOn y_ofParagraph fw (upd y_wordsOf l (nI t)) y_slack y_begin y_needs (upd y_notes l n) y_columnOf y_topOf y_firstLine y_label y_labelWide y_counter y_refWide y_nextWide y_columnLine y_columnLines y_filled y_foot := fun fw e => by
            subst e
            exact ⟨jl, jl, nm_r (e' := upd y_wordsOf l (nI (t + 1))) (by rw [cl, pk_us, up_2, nI_1]) ⟨jl, vp_in_nI (by omega) (by omega), jl, nm_r (e' := upd y_notes l (n + a (80 + 51 * p + 3 * w))) (by rw [cl, pk_us, up_2, nI_clamp (by omega), hn]) (nm_r (nI_1 w) ih)⟩⟩
          refine br_f (by decide) ⟨jl, ?_⟩
          rw [cl, pk_us]
          exact pk_eq t 0 (fun z => ⟨jl, nm_r (by rw [up_2]) (f224 _ (by rw [if_pos z]))⟩) (fun z => f224 _ (by rw [if_neg z]))
        refine br_f (by decide) ⟨jl, ?_⟩
        rw [cl, pk_us]
        refine pk_le t 0 (fun z => take (by omega)) (fun z => br_c (fun y => take fun q => Int32.not_lt.mpr y q.2) (fun y => ?_))
        rw [la_tls hs ⟨z, Int32.not_le.mp y⟩] at h
        exact br_t rfl h
      refine pk_eq t 0 (fun z => go _ ?_) (fun z => go _ ?_)
      · unfold la_us; rw [if_pos z]
      · unfold la_us; rw [if_neg z]
    · rw [la_tlh hs] at h
      have ih := yt_L hv Z hr hp hl d (w + 1) f t u n (by omega) (by omega) h
      exact br_c (fun _ => br_t rfl (br_t rfl (nm_r (nI_1 w) ih))) (fun _ => br_t rfl (br_t rfl (nm_r (nI_1 w) ih)))
theorem yt_line {post : Int32 → SY → Prop} {x y z : Int32} {p k l : Nat} {rw : Nat → Int32} (hv : dc_V a) (Z : yz_Z a y_many y_pages y_styles y_styleOf y_markOf y_words y_width y_note y_status) (hr : ∀ m, m < 8 → y_refWide m = rw m) (hlb : y_labelWide p = la_lw a p) (hx : x = nI p) (hp : p < 24) (hy : y = nI (la_fr a y_view rw p k)) (hz : z = if k = 0 then 1 else 0) (hl : y_lines = nI l) (hl2 : l < 384)
    (h : post (nI (la_fr a y_view rw p (k + 1))) (y_doc, y_tracking, y_view, y_done, y_steps, (nI (l + 1)), y_columns, y_rounds, y_known, y_many, y_styleOf, y_markOf, y_words, y_width, y_note, y_status, y_styles, y_pages, y_stepKind, y_stepA, y_stepB, y_stepC, y_stepOn, (upd y_ofParagraph l (nI p)), (upd y_firstWord l (nI (la_f a y_view rw p k))), (upd y_wordsOf l (nI (la_t a y_view rw p k))), (upd y_slack l (la_sl a y_view rw p k)), (upd y_begin l (la_l0 a p k)), (upd y_needs l (la_nd a y_view rw p k)), (upd y_notes l (la_no a y_view rw p k)), y_columnOf, y_topOf, y_firstLine, y_label, y_labelWide, y_counter, y_refWide, y_nextWide, y_columnLine, y_columnLines, y_filled, y_foot)) : wpY_oneLine post (y_doc, y_tracking, y_view, y_done, y_steps, y_lines, y_columns, y_rounds, y_known, y_many, y_styleOf, y_markOf, y_words, y_width, y_note, y_status, y_styles, y_pages, y_stepKind, y_stepA, y_stepB, y_stepC, y_stepOn, y_ofParagraph, y_firstWord, y_wordsOf, y_slack, y_begin, y_needs, y_notes, y_columnOf, y_topOf, y_firstLine, y_label, y_labelWide, y_counter, y_refWide, y_nextWide, y_columnLine, y_columnLines, y_filled, y_foot) x y z := by
  subst hx hy hl
  obtain ⟨ew, h16⟩ := dc_Vw hv hp
  have hf := la_frW (a := a) (rw := rw) (vw := y_view) (p := p) k
  have jl := vp_in_nI (n := l) (N := 384) hl2 (by omega)
  have cl := nI_clamp (n := l) (by omega)
  have f262 : wY_oneLine_262 post (nI p) (nI l) (la_l0 a p k) (la_rm a p k) (la_L a y_view rw p k).2.2.2.1 (nI (la_fr a y_view rw p (k + 1))) y_doc y_tracking y_view y_done y_steps (nI l) y_columns y_rounds y_known y_many y_styleOf y_markOf y_words y_width y_note y_status y_styles y_pages y_stepKind y_stepA y_stepB y_stepC y_stepOn (upd y_ofParagraph l (nI p)) (upd y_firstWord l (nI (la_f a y_view rw p k))) (upd y_wordsOf l (nI (la_t a y_view rw p k))) y_slack y_begin y_needs (upd y_notes l (la_no a y_view rw p k)) y_columnOf y_topOf y_firstLine y_label y_labelWide y_counter y_refWide y_nextWide y_columnLine y_columnLines y_filled y_foot := by
    have f284 : ∀ z0 : Int32, z0 = la_sl a y_view rw p k → wY_oneLine_284 post (nI p) (nI l) (la_l0 a p k) (nI (la_fr a y_view rw p (k + 1))) z0 (nI l) y_doc y_tracking y_view y_done y_steps (nI l) y_columns y_rounds y_known y_many y_styleOf y_markOf y_words y_width y_note y_status y_styles y_pages y_stepKind y_stepA y_stepB y_stepC y_stepOn (upd y_ofParagraph l (nI p)) (upd y_firstWord l (nI (la_f a y_view rw p k))) (upd y_wordsOf l (nI (la_t a y_view rw p k))) y_slack y_begin y_needs (upd y_notes l (la_no a y_view rw p k)) y_columnOf y_topOf y_firstLine y_label y_labelWide y_counter y_refWide y_nextWide y_columnLine y_columnLines y_filled y_foot := fun z0 e => by
      subst e
      exact ⟨jl, nm_r (by rw [cl]) ⟨jl, nm_r (by rw [cl]) (yr_tr hv Z rfl hp (t := 5) rfl (by omega) ⟨jl, jl, nm_r (e' := upd y_needs l (la_nd a y_view rw p k)) (by rw [cl, pk_us]; rfl) (nm_r (nI_1 l) h)⟩)⟩⟩
    refine br_c (fun q => f284 _ ?_) (fun q => f284 _ ?_)
    · unfold la_sl; rw [if_pos q]
    · unfold la_sl; rw [if_neg q]
  have f67 : ∀ rm : Int32, rm = la_rm a p k → wY_oneLine_67 post (nI p) (nI l) (la_l0 a p k) rm 0 (nI (la_fr a y_view rw p k)) y_doc y_tracking y_view y_done y_steps (nI l) y_columns y_rounds y_known y_many y_styleOf y_markOf y_words y_width y_note y_status y_styles y_pages y_stepKind y_stepA y_stepB y_stepC y_stepOn y_ofParagraph y_firstWord y_wordsOf y_slack y_begin y_needs y_notes y_columnOf y_topOf y_firstLine y_label y_labelWide y_counter y_refWide y_nextWide y_columnLine y_columnLines y_filled y_foot := fun rm e => by
    subst e
    refine ⟨jl, nm_r (by rw [cl]) ⟨vp_in_nI (by omega) (by omega), jl, nm_r (e' := upd y_firstWord l (nI (dc_w a p))) (by rw [cl, nI_clamp (by omega), Z.2.2.2.2.2.1 p hp, ew]) ⟨jl, nm_r (e' := upd y_wordsOf l (nI 0)) (by rw [cl]; rfl) ⟨jl, nm_r (by rw [cl]) ⟨dc_w a p - la_fr a y_view rw p k + 2, ?_⟩⟩⟩⟩⟩
    exact yt_L (t := 0) hv Z hr hp hl2 (dc_w a p - la_fr a y_view rw p k) (la_fr a y_view rw p k) (dc_w a p) 0 0 (by omega) (by omega) f262
  have f33 : ∀ z0 z1 : Int32, z1 + z0 = la_l0 a p k → wY_oneLine_33 post (nI p) (nI (la_fr a y_view rw p k)) (nI l) z0 z1 y_doc y_tracking y_view y_done y_steps (nI l) y_columns y_rounds y_known y_many y_styleOf y_markOf y_words y_width y_note y_status y_styles y_pages y_stepKind y_stepA y_stepB y_stepC y_stepOn y_ofParagraph y_firstWord y_wordsOf y_slack y_begin y_needs y_notes y_columnOf y_topOf y_firstLine y_label y_labelWide y_counter y_refWide y_nextWide y_columnLine y_columnLines y_filled y_foot := fun z0 z1 e => by
    refine nm_r e (yr_cw Z (yr_tr hv Z rfl hp (t := 1) rfl (by omega) (nm_e (br_c (fun q => f67 _ ?_) (fun q => f67 _ ?_)))))
    · unfold la_rm; rw [if_pos q]
    · unfold la_rm; rw [if_neg q]
  unfold wpY_oneLine
  refine yr_tr hv Z rfl hp (t := 0) rfl (by omega) ?_
  by_cases hk : k = 0
  · rw [if_pos hk] at hz
    subst hz
    refine br_f (by decide) (yr_tr hv Z rfl hp (t := 2) rfl (by omega) ⟨vp_in_nI hp (by omega), f33 _ _ ?_⟩)
    rw [nI_clamp (by omega), hlb]; unfold la_l0; rw [if_pos hk]
  · rw [if_neg hk] at hz
    subst hz
    refine br_t rfl (f33 _ _ ?_)
    unfold la_l0; rw [if_neg hk, Int32.add_zero]
theorem yr_hs {post : Int32 → Prop} {x y : Int32} {p w : Nat} (hv : dc_V a) (Z : yz_Z a y_many y_pages y_styles y_styleOf y_markOf y_words y_width y_note y_status) (hx : x = nI p) (hp : p < 24) (hy : y = nI w) (hw : w ≤ dc_w a p) (hs : w < dc_w a p → la_sh a y_view p w = true) (h1 : w < dc_w a p → post 1) (h0 : w = dc_w a p → post 0) : wpY_hasShown post (y_doc, y_tracking, y_view, y_done, y_steps, y_lines, y_columns, y_rounds, y_known, y_many, y_styleOf, y_markOf, y_words, y_width, y_note, y_status, y_styles, y_pages, y_stepKind, y_stepA, y_stepB, y_stepC, y_stepOn, y_ofParagraph, y_firstWord, y_wordsOf, y_slack, y_begin, y_needs, y_notes, y_columnOf, y_topOf, y_firstLine, y_label, y_labelWide, y_counter, y_refWide, y_nextWide, y_columnLine, y_columnLines, y_filled, y_foot) x y := by
  subst hx hy
  obtain ⟨ew, h16⟩ := dc_Vw hv hp
  refine ⟨1, vp_in_nI (by omega) (by omega), ?_⟩
  rw [nI_clamp (by omega), Z.2.2.2.2.2.1 p hp, ew]
  refine pk_le (dc_w a p) w (fun z => h0 (by omega)) (fun z => yr_sh Z (ad_yl p w) hp (by omega) (fun _ => br_f (by decide) (h1 z)) (fun q => absurd (hs z) q))
/-- lines before a paragraph's -/
def la_Fs (a : Nat → Int32) (vw : Int32) (rw : Nat → Int32) : Nat → Nat
  | 0 => 0
  | p + 1 => la_Fs a vw rw p + la_nl a vw rw p
theorem la_FsB {a rw : Nat → Int32} {vw : Int32} (hv : dc_V a) : ∀ {p : Nat}, p ≤ 24 → la_Fs a vw rw p ≤ 16 * p
  | 0, _ => Nat.le_refl _
  | p + 1, hp => by
    have h1 := la_FsB (rw := rw) (vw := vw) hv (p := p) (by omega)
    have h2 := (la_nlP (a := a) (rw := rw) (vw := vw) (dc_Vw hv (p := p) (by omega)).2).2.1
    show la_Fs a vw rw p + la_nl a vw rw p ≤ _
    omega
theorem la_FsM {a rw : Nat → Int32} {vw : Int32} {q : Nat} : ∀ {p : Nat}, q < p → la_Fs a vw rw q + la_nl a vw rw q ≤ la_Fs a vw rw p
  | 0, h => absurd h (Nat.not_lt_zero _)
  | p + 1, h => by
    show _ ≤ la_Fs a vw rw p + la_nl a vw rw p
    by_cases e : q = p
    · subst e; exact Nat.le_refl _
    · have := la_FsM (a := a) (rw := rw) (vw := vw) (q := q) (p := p) (by omega); omega
def yb_B (a : Nat → Int32) (vw : Int32) (rw : Nat → Int32) (p k : Nat) (y_ofParagraph y_firstWord y_wordsOf y_slack y_begin y_needs y_notes : Nat → Int32) : Prop := ∀ q j, ((q < p ∧ j < la_nl a vw rw q) ∨ (q = p ∧ j < k)) →
  y_ofParagraph (la_Fs a vw rw q + j) = nI q ∧ y_firstWord (la_Fs a vw rw q + j) = nI (la_f a vw rw q j) ∧ y_wordsOf (la_Fs a vw rw q + j) = nI (la_t a vw rw q j) ∧ y_slack (la_Fs a vw rw q + j) = la_sl a vw rw q j ∧ y_begin (la_Fs a vw rw q + j) = la_l0 a q j ∧ y_needs (la_Fs a vw rw q + j) = la_nd a vw rw q j ∧ y_notes (la_Fs a vw rw q + j) = la_no a vw rw q j
theorem yb_L {post : SY → Prop} {p : Nat} {rw : Nat → Int32} (hv : dc_V a) (Z : yz_Z a y_many y_pages y_styles y_styleOf y_markOf y_words y_width y_note y_status) (hr : ∀ m, m < 8 → y_refWide m = rw m) (hlb : y_labelWide p = la_lw a p) (hp : p < 24)
    (h : ∀ y_ofParagraph y_firstWord y_wordsOf y_slack y_begin y_needs y_notes, yb_B a y_view rw (p + 1) 0 y_ofParagraph y_firstWord y_wordsOf y_slack y_begin y_needs y_notes → post (y_doc, y_tracking, y_view, y_done, y_steps, (nI (la_Fs a y_view rw (p + 1))), y_columns, y_rounds, y_known, y_many, y_styleOf, y_markOf, y_words, y_width, y_note, y_status, y_styles, y_pages, y_stepKind, y_stepA, y_stepB, y_stepC, y_stepOn, y_ofParagraph, y_firstWord, y_wordsOf, y_slack, y_begin, y_needs, y_notes, y_columnOf, y_topOf, y_firstLine, y_label, y_labelWide, y_counter, y_refWide, y_nextWide, y_columnLine, y_columnLines, y_filled, y_foot)) : ∀ (d k : Nat) (x3 : Int32) (y_ofParagraph y_firstWord y_wordsOf y_slack y_begin y_needs y_notes : Nat → Int32), k + d = la_nl a y_view rw p → k < la_nl a y_view rw p → x3 = (if k = 0 then 1 else 0) → yb_B a y_view rw p k y_ofParagraph y_firstWord y_wordsOf y_slack y_begin y_needs y_notes →
    wY_breakLines_17 post (nI p) (d + 1) (nI (la_fr a y_view rw p k)) x3 1 y_doc y_tracking y_view y_done y_steps (nI (la_Fs a y_view rw p + k)) y_columns y_rounds y_known y_many y_styleOf y_markOf y_words y_width y_note y_status y_styles y_pages y_stepKind y_stepA y_stepB y_stepC y_stepOn y_ofParagraph y_firstWord y_wordsOf y_slack y_begin y_needs y_notes y_columnOf y_topOf y_firstLine y_label y_labelWide y_counter y_refWide y_nextWide y_columnLine y_columnLines y_filled y_foot
  | 0, k, x3, y_ofParagraph, y_firstWord, y_wordsOf, y_slack, y_begin, y_needs, y_notes, hk, hk2, h3, H => absurd hk2 (by omega)
  | d + 1, k, x3, y_ofParagraph, y_firstWord, y_wordsOf, y_slack, y_begin, y_needs, y_notes, hk, hk2, h3, H => by
    have hn := la_nlP (a := a) (rw := rw) (vw := y_view) (dc_Vw hv hp).2
    have hF := la_FsB (rw := rw) (vw := y_view) hv (p := p) (by omega)
    have hw1 := la_frW (a := a) (rw := rw) (vw := y_view) (p := p) (k + 1)
    have H2 : yb_B a y_view rw p (k + 1) (upd y_ofParagraph (la_Fs a y_view rw p + k) (nI p)) (upd y_firstWord (la_Fs a y_view rw p + k) (nI (la_f a y_view rw p k))) (upd y_wordsOf (la_Fs a y_view rw p + k) (nI (la_t a y_view rw p k))) (upd y_slack (la_Fs a y_view rw p + k) (la_sl a y_view rw p k)) (upd y_begin (la_Fs a y_view rw p + k) (la_l0 a p k)) (upd y_needs (la_Fs a y_view rw p + k) (la_nd a y_view rw p k)) (upd y_notes (la_Fs a y_view rw p + k) (la_no a y_view rw p k)) := fun q j hq => by
      by_cases e : q = p ∧ j = k
      · obtain ⟨rfl, rfl⟩ := e
        rw [pk_us, pk_us, pk_us, pk_us, pk_us, pk_us, pk_us]; exact ⟨rfl, rfl, rfl, rfl, rfl, rfl, rfl⟩
      · have hq2 : (q < p ∧ j < la_nl a y_view rw q) ∨ (q = p ∧ j < k) := by
          rcases hq with z | ⟨z1, z2⟩
          · exact Or.inl z
          · exact Or.inr ⟨z1, by omega⟩
        have ne : la_Fs a y_view rw q + j ≠ la_Fs a y_view rw p + k := by
          rcases hq2 with ⟨z1, z2⟩ | ⟨z1, z2⟩
          · have := la_FsM (a := a) (rw := rw) (vw := y_view) z1; omega
          · subst z1; omega
        rw [pk_un ne, pk_un ne, pk_un ne, pk_un ne, pk_un ne, pk_un ne, pk_un ne]
        exact H q j hq2
    refine br_f (by decide) (yt_line hv Z hr hlb rfl hp rfl h3 rfl (by omega) (yr_hs hv Z rfl hp rfl hw1 (fun z => la_frH z) (fun z => ?_) (fun z => ?_)))
    · have hlt : k + 1 < la_nl a y_view rw p := by
        rcases Nat.lt_or_ge (k + 1) (la_nl a y_view rw p) with q | q
        · exact q
        · have e : la_nl a y_view rw p = k + 1 := by omega
          have := hn.2.2.2; rw [e] at this; omega
      exact yb_L hv Z hr hlb hp h d (k + 1) 0 _ _ _ _ _ _ _ (by omega) hlt (if_neg (by omega)).symm H2
    · have en : la_nl a y_view rw p = k + 1 := la_nlE (dc_Vw hv hp).2 (by omega) (fun j q1 q2 => hn.2.2.1 j q1 (by omega)) z
      have eF : la_Fs a y_view rw (p + 1) = la_Fs a y_view rw p + k + 1 := by show la_Fs a y_view rw p + la_nl a y_view rw p = _; omega
      rw [eF] at h
      refine br_t rfl (h _ _ _ _ _ _ _ fun q j hq => H2 q j ?_)
      rcases hq with ⟨z1, z2⟩ | ⟨z1, z2⟩
      · by_cases e : q = p
        · subst e; exact Or.inr ⟨rfl, by omega⟩
        · exact Or.inl ⟨by omega, z2⟩
      · exact absurd z2 (by omega)
theorem ys_break {post : SY → Prop} {x : Int32} {p : Nat} {rw : Nat → Int32} (hv : dc_V a) (Z : yz_Z a y_many y_pages y_styles y_styleOf y_markOf y_words y_width y_note y_status) (hr : ∀ m, m < 8 → y_refWide m = rw m) (hlb : y_labelWide p = la_lw a p) (hx : x = nI p) (hp : p < 24) (hl : y_lines = nI (la_Fs a y_view rw p)) (H : yb_B a y_view rw p 0 y_ofParagraph y_firstWord y_wordsOf y_slack y_begin y_needs y_notes)
    (h : ∀ y_ofParagraph y_firstWord y_wordsOf y_slack y_begin y_needs y_notes, yb_B a y_view rw (p + 1) 0 y_ofParagraph y_firstWord y_wordsOf y_slack y_begin y_needs y_notes → post (y_doc, y_tracking, y_view, y_done, y_steps, (nI (la_Fs a y_view rw (p + 1))), y_columns, y_rounds, y_known, y_many, y_styleOf, y_markOf, y_words, y_width, y_note, y_status, y_styles, y_pages, y_stepKind, y_stepA, y_stepB, y_stepC, y_stepOn, y_ofParagraph, y_firstWord, y_wordsOf, y_slack, y_begin, y_needs, y_notes, y_columnOf, y_topOf, (upd y_firstLine p (nI (la_Fs a y_view rw p))), y_label, y_labelWide, y_counter, y_refWide, y_nextWide, y_columnLine, y_columnLines, y_filled, y_foot)) : wpY_breakLines post (y_doc, y_tracking, y_view, y_done, y_steps, y_lines, y_columns, y_rounds, y_known, y_many, y_styleOf, y_markOf, y_words, y_width, y_note, y_status, y_styles, y_pages, y_stepKind, y_stepA, y_stepB, y_stepC, y_stepOn, y_ofParagraph, y_firstWord, y_wordsOf, y_slack, y_begin, y_needs, y_notes, y_columnOf, y_topOf, y_firstLine, y_label, y_labelWide, y_counter, y_refWide, y_nextWide, y_columnLine, y_columnLines, y_filled, y_foot) x := by
  subst hx hl
  have hn := la_nlP (a := a) (rw := rw) (vw := y_view) (dc_Vw hv hp).2
  refine ⟨vp_in_nI (by omega) (by omega), nm_r (by rw [nI_clamp (by omega)]) ⟨la_nl a y_view rw p + 1, ?_⟩⟩
  exact yb_L (k := 0) hv Z hr hlb hp h (la_nl a y_view rw p) 1 _ _ _ _ _ _ _ (by omega) (by omega) rfl H
end
section
variable {y_doc y_tracking y_view y_done y_steps y_lines y_columns y_rounds y_known : Int32} {y_many y_styleOf y_markOf y_words y_width y_note y_status y_styles y_pages y_stepKind y_stepA y_stepB y_stepC y_stepOn y_ofParagraph y_firstWord y_wordsOf y_slack y_begin y_needs y_notes y_columnOf y_topOf y_firstLine y_label y_labelWide y_counter y_refWide y_nextWide y_columnLine y_columnLines y_filled y_foot : Nat → Int32} {a rw : Nat → Int32}
theorem yr_lo' {post : Int32 → Prop} {x : Int32} {p : Nat} (hv : dc_V a) (HF : ∀ q, q ≤ dc_n a → y_firstLine q = nI (la_Fs a y_view rw q)) (hx : x = nI p) (hp : p < dc_n a) (h : post (nI (la_nl a y_view rw p))) : wpY_linesOf post (y_doc, y_tracking, y_view, y_done, y_steps, y_lines, y_columns, y_rounds, y_known, y_many, y_styleOf, y_markOf, y_words, y_width, y_note, y_status, y_styles, y_pages, y_stepKind, y_stepA, y_stepB, y_stepC, y_stepOn, y_ofParagraph, y_firstWord, y_wordsOf, y_slack, y_begin, y_needs, y_notes, y_columnOf, y_topOf, y_firstLine, y_label, y_labelWide, y_counter, y_refWide, y_nextWide, y_columnLine, y_columnLines, y_filled, y_foot) x := by
  subst hx
  have h24 := (dc_Vn hv).2
  have e : nI (la_Fs a y_view rw (p + 1)) - nI (la_Fs a y_view rw p) = nI (la_nl a y_view rw p) := by
    rw [show la_Fs a y_view rw (p + 1) = la_Fs a y_view rw p + la_nl a y_view rw p from rfl, pk_sub (by omega)]; exact congrArg nI (by omega)
  refine ⟨ix_in (nI_1 p) (by omega) (by omega), vp_in_nI (by omega) (by omega), ?_⟩
  rw [ix_c (nI_1 p) (by omega), nI_clamp (by omega), HF (p + 1) (by omega), HF p (by omega), e]; exact h
theorem yr_sf {post : Int32 → Prop} {x : Int32} {p : Nat} (hv : dc_V a) (Z : yz_Z a y_many y_pages y_styles y_styleOf y_markOf y_words y_width y_note y_status) (HF : ∀ q, q ≤ dc_n a → y_firstLine q = nI (la_Fs a y_view rw q)) (hx : x = nI p) (hp : p < dc_n a) (h1 : la_sf a y_view rw p = true → post 1) (h0 : ¬ la_sf a y_view rw p = true → post 0) : wpY_isStiff post (y_doc, y_tracking, y_view, y_done, y_steps, y_lines, y_columns, y_rounds, y_known, y_many, y_styleOf, y_markOf, y_words, y_width, y_note, y_status, y_styles, y_pages, y_stepKind, y_stepA, y_stepB, y_stepC, y_stepOn, y_ofParagraph, y_firstWord, y_wordsOf, y_slack, y_begin, y_needs, y_notes, y_columnOf, y_topOf, y_firstLine, y_label, y_labelWide, y_counter, y_refWide, y_nextWide, y_columnLine, y_columnLines, y_filled, y_foot) x := by
  subst hx
  have h24 := (dc_Vn hv).2
  have hn := (la_nlP (a := a) (rw := rw) (vw := y_view) (dc_Vw hv (p := p) (by omega)).2).2.1
  unfold la_sf at h1 h0
  unfold wpY_isStiff
  refine yr_lo' hv HF rfl hp ?_
  refine yr_tr hv Z rfl (by omega) (t := 8) rfl (by omega) (br_c (fun z => ?_) (fun z => yr_tr hv Z rfl (by omega) (t := 11) rfl (by omega) (br_c (fun y => ?_) (fun y => ?_))))
  · rw [if_pos z] at h1; exact h1 rfl
  · rw [if_neg z, if_pos y] at h1 h0
    refine pk_le 4 (la_nl a y_view rw p) (fun q => h0 ?_) (fun q => h1 (decide_eq_true q))
    rw [decide_eq_false (by omega)]; decide
  · rw [if_neg z, if_neg y] at h0; exact h0 (by decide)
theorem yr_hd {post : Int32 → Prop} {x : Int32} {p : Nat} (hv : dc_V a) (Z : yz_Z a y_many y_pages y_styles y_styleOf y_markOf y_words y_width y_note y_status) (HF : ∀ q, q ≤ dc_n a → y_firstLine q = nI (la_Fs a y_view rw q)) (hx : x = nI p) (hp : p < dc_n a) (h : post (nI (la_hd a y_view rw p))) : wpY_headOf post (y_doc, y_tracking, y_view, y_done, y_steps, y_lines, y_columns, y_rounds, y_known, y_many, y_styleOf, y_markOf, y_words, y_width, y_note, y_status, y_styles, y_pages, y_stepKind, y_stepA, y_stepB, y_stepC, y_stepOn, y_ofParagraph, y_firstWord, y_wordsOf, y_slack, y_begin, y_needs, y_notes, y_columnOf, y_topOf, y_firstLine, y_label, y_labelWide, y_counter, y_refWide, y_nextWide, y_columnLine, y_columnLines, y_filled, y_foot) x := by
  subst hx
  have h24 := (dc_Vn hv).2
  unfold la_hd at h
  unfold wpY_headOf
  refine yr_sf hv Z HF rfl hp (fun z => br_f (by decide) (yr_lo' hv HF rfl hp ?_)) (fun z => br_t rfl (yr_tr hv Z rfl (by omega) (t := 11) rfl (by omega) (br_c (fun y => ?_) (fun y => ?_))))
  · rw [if_pos z] at h; exact h
  · rw [if_neg z, if_pos y] at h; exact h
  · rw [if_neg z, if_neg y] at h; exact h
theorem yr_gap {post : Int32 → Prop} {x : Int32} {p : Nat} (hv : dc_V a) (Z : yz_Z a y_many y_pages y_styles y_styleOf y_markOf y_words y_width y_note y_status) (hx : x = nI p) (hp : p + 1 < 24) (h : post (la_gb a (p + 1))) : wpY_gap post (y_doc, y_tracking, y_view, y_done, y_steps, y_lines, y_columns, y_rounds, y_known, y_many, y_styleOf, y_markOf, y_words, y_width, y_note, y_status, y_styles, y_pages, y_stepKind, y_stepA, y_stepB, y_stepC, y_stepOn, y_ofParagraph, y_firstWord, y_wordsOf, y_slack, y_begin, y_needs, y_notes, y_columnOf, y_topOf, y_firstLine, y_label, y_labelWide, y_counter, y_refWide, y_nextWide, y_columnLine, y_columnLines, y_filled, y_foot) x := by
  subst hx
  unfold la_gb at h
  rw [if_neg (by omega), show p + 1 - 1 = p from by omega] at h
  unfold wpY_gap
  refine yr_tr hv Z rfl (by omega) (t := 4) rfl (by omega) ?_
  refine yr_tr hv Z (nI_1 p) hp (t := 3) rfl (by omega) (br_c (fun z => ?_) (fun z => ?_))
  · rw [if_pos z] at h; exact h
  · rw [if_neg z] at h; exact h
theorem yr_htL {post : Int32 → Prop} {F p n : Nat} (hF : F + n ≤ 384) (hne : ∀ j, j < n → y_needs (F + j) = la_nd a y_view rw p j) (h : post (la_hs a y_view rw p n)) : ∀ d i, i + d = n →
    wY_height_5 post (nI F) (nI n) y_doc y_tracking y_view y_done y_steps y_lines y_columns y_rounds y_known y_many y_styleOf y_markOf y_words y_width y_note y_status y_styles y_pages y_stepKind y_stepA y_stepB y_stepC y_stepOn y_ofParagraph y_firstWord y_wordsOf y_slack y_begin y_needs y_notes y_columnOf y_topOf y_firstLine y_label y_labelWide y_counter y_refWide y_nextWide y_columnLine y_columnLines y_filled y_foot (d + 1) (la_hs a y_view rw p i) (nI (F + i))
  | 0, i, hi => by
    obtain rfl : i = n := by omega
    refine br_t ?_ h
    rw [nI_add]; exact nI_le (by omega) (by omega)
  | d + 1, i, hi => by
    refine br_f ?_ ⟨vp_in_nI (by omega) (by omega), nm_r (e' := la_hs a y_view rw p (i + 1)) ?_ (nm_r (nI_1 _) (yr_htL hF hne h d (i + 1) (by omega)))⟩
    · rw [nI_add]; exact nI_ge (by omega) (by omega)
    · rw [nI_clamp (by omega), hne i (by omega)]; rfl
theorem yr_ht {post : Int32 → Prop} {x y : Int32} {p n : Nat} (hv : dc_V a) (HB : yb_B a y_view rw (dc_n a) 0 y_ofParagraph y_firstWord y_wordsOf y_slack y_begin y_needs y_notes) (hx : x = nI (la_Fs a y_view rw p)) (hy : y = nI n) (hp : p < dc_n a) (hn : n ≤ la_nl a y_view rw p) (h : post (la_hs a y_view rw p n)) : wpY_height post (y_doc, y_tracking, y_view, y_done, y_steps, y_lines, y_columns, y_rounds, y_known, y_many, y_styleOf, y_markOf, y_words, y_width, y_note, y_status, y_styles, y_pages, y_stepKind, y_stepA, y_stepB, y_stepC, y_stepOn, y_ofParagraph, y_firstWord, y_wordsOf, y_slack, y_begin, y_needs, y_notes, y_columnOf, y_topOf, y_firstLine, y_label, y_labelWide, y_counter, y_refWide, y_nextWide, y_columnLine, y_columnLines, y_filled, y_foot) x y := by
  subst hx hy
  have h24 := (dc_Vn hv).2
  have h1 := la_FsB (rw := rw) (vw := y_view) hv (p := p) (by omega)
  have h2 := (la_nlP (a := a) (rw := rw) (vw := y_view) (dc_Vw hv (p := p) (by omega)).2).2.1
  exact ⟨_, yr_htL (by omega) (fun j hj => (HB p j (Or.inl ⟨hp, by omega⟩)).2.2.2.2.2.1) h n 0 (by omega)⟩
theorem yr_tgL {post : Int32 → Prop} (hv : dc_V a) (Z : yz_Z a y_many y_pages y_styles y_styleOf y_markOf y_words y_width y_note y_status) (HB : yb_B a y_view rw (dc_n a) 0 y_ofParagraph y_firstWord y_wordsOf y_slack y_begin y_needs y_notes) (HF : ∀ q, q ≤ dc_n a → y_firstLine q = nI (la_Fs a y_view rw q)) : ∀ (d p : Nat) (s : Int32), p + d + 1 = dc_n a → post (s + la_gr a y_view rw d p) → wY_together_4 post y_doc y_tracking y_view y_done y_steps y_lines y_columns y_rounds y_known y_many y_styleOf y_markOf y_words y_width y_note y_status y_styles y_pages y_stepKind y_stepA y_stepB y_stepC y_stepOn y_ofParagraph y_firstWord y_wordsOf y_slack y_begin y_needs y_notes y_columnOf y_topOf y_firstLine y_label y_labelWide y_counter y_refWide y_nextWide y_columnLine y_columnLines y_filled y_foot (d + 1) s (nI p)
  | d, p, s, hp, h => by
    obtain ⟨e0, h24⟩ := dc_Vn hv
    have h16 := (dc_Vw hv (p := p) (by omega)).2
    have hh := la_hdB (a := a) (rw := rw) (vw := y_view) h16
    have elast : y_many 0 - 1 = nI (dc_n a - 1) := by rw [Z.1, e0]; exact pk_sub (b := 1) (by omega)
    have jp := vp_in_nI (n := p) (N := 25) (by omega) (by omega)
    have cp := nI_clamp (n := p) (by omega)
    have f63 : post (s + la_hs a y_view rw p (la_hd a y_view rw p)) → wY_together_63 post s (nI p) y_doc y_tracking y_view y_done y_steps y_lines y_columns y_rounds y_known y_many y_styleOf y_markOf y_words y_width y_note y_status y_styles y_pages y_stepKind y_stepA y_stepB y_stepC y_stepOn y_ofParagraph y_firstWord y_wordsOf y_slack y_begin y_needs y_notes y_columnOf y_topOf y_firstLine y_label y_labelWide y_counter y_refWide y_nextWide y_columnLine y_columnLines y_filled y_foot := fun h => by
      unfold wY_together_63
      refine yr_hd hv Z HF rfl (by omega) ⟨jp, ?_⟩
      rw [cp, HF p (by omega)]
      exact yr_ht hv HB rfl rfl (by omega) hh (nm_e h)
    unfold wY_together_4
    refine yr_tr hv Z rfl (by omega) (t := 9) rfl (by omega) (br_c (fun z => ?_) (fun z => f63 ?_))
    · rw [elast]
      match d with
      | 0 => exact br_t (nI_le (by omega) (by omega)) (f63 h)
      | d + 1 =>
        refine br_f (nI_ge (by omega) (by omega)) (yr_lo' hv HF rfl (by omega) ⟨jp, ?_⟩)
        rw [cp, HF p (by omega)]
        refine yr_ht hv HB rfl rfl (by omega) (Nat.le_refl _) (nm_e (yr_gap hv Z rfl (by omega) (nm_e (nm_r (nI_1 p) (yr_tgL hv Z HB HF d (p + 1) _ (by omega) ?_)))))
        have e : la_gr a y_view rw (d + 1) p = _ := if_pos z
        rw [e] at h
        rw [Int32.add_assoc, Int32.add_assoc, ← Int32.add_assoc (la_hs a y_view rw p (la_nl a y_view rw p))]
        exact h
    · match d with
      | 0 => exact h
      | d + 1 =>
        have e : la_gr a y_view rw (d + 1) p = _ := if_neg z
        rw [e] at h; exact h
  termination_by d => d
theorem yr_tg {post : Int32 → Prop} {x : Int32} {p : Nat} (hv : dc_V a) (Z : yz_Z a y_many y_pages y_styles y_styleOf y_markOf y_words y_width y_note y_status) (HB : yb_B a y_view rw (dc_n a) 0 y_ofParagraph y_firstWord y_wordsOf y_slack y_begin y_needs y_notes) (HF : ∀ q, q ≤ dc_n a → y_firstLine q = nI (la_Fs a y_view rw q)) (hx : x = nI p) (hp : p < dc_n a) (h : post (la_gr a y_view rw (dc_n a - 1 - p) p)) : wpY_together post (y_doc, y_tracking, y_view, y_done, y_steps, y_lines, y_columns, y_rounds, y_known, y_many, y_styleOf, y_markOf, y_words, y_width, y_note, y_status, y_styles, y_pages, y_stepKind, y_stepA, y_stepB, y_stepC, y_stepOn, y_ofParagraph, y_firstWord, y_wordsOf, y_slack, y_begin, y_needs, y_notes, y_columnOf, y_topOf, y_firstLine, y_label, y_labelWide, y_counter, y_refWide, y_nextWide, y_columnLine, y_columnLines, y_filled, y_foot) x := by
  subst hx
  exact ⟨_, yr_tgL hv Z HB HF (dc_n a - 1 - p) p 0 (by omega) (by rw [Int32.zero_add]; exact h)⟩
/-- Y's columns -/
def yf_C (a : Nat → Int32) (vw : Int32) (rw : Nat → Int32) (S : la_F) (p k : Nat) (y_columns : Int32) (y_columnOf y_topOf y_columnLine y_columnLines y_filled y_foot : Nat → Int32) : Prop := y_columns = nI S.1
  ∧ (∀ i, i < S.1 → y_columnLines i = S.2.2.2.1 i ∧ y_foot i = S.2.2.2.2.1 i ∧ y_filled i = S.2.2.2.2.2.1 i ∧ ∃ q j, q < dc_n a ∧ j < la_nl a vw rw q ∧ S.2.1 i = nI q ∧ S.2.2.1 i = nI j ∧ y_columnLine i = nI (la_Fs a vw rw q + j))
  ∧ (∀ q j, ((q < p ∧ j < la_nl a vw rw q) ∨ (q = p ∧ j < k)) → y_columnOf (la_Fs a vw rw q + j) = S.2.2.2.2.2.2.1 (16 * q + j) ∧ y_topOf (la_Fs a vw rw q + j) = S.2.2.2.2.2.2.2 (16 * q + j))
theorem yf_free {post : Int32 → Prop} {p k : Nat} {S : la_F} (Z : yz_Z a y_many y_pages y_styles y_styleOf y_markOf y_words y_width y_note y_status) (h1 : 1 ≤ S.1) (hc : S.1 ≤ 384) (H : yf_C a y_view rw S p k y_columns y_columnOf y_topOf y_columnLine y_columnLines y_filled y_foot) (h : post (la_fh a S)) : wpY_free post (y_doc, y_tracking, y_view, y_done, y_steps, y_lines, y_columns, y_rounds, y_known, y_many, y_styleOf, y_markOf, y_words, y_width, y_note, y_status, y_styles, y_pages, y_stepKind, y_stepA, y_stepB, y_stepC, y_stepOn, y_ofParagraph, y_firstWord, y_wordsOf, y_slack, y_begin, y_needs, y_notes, y_columnOf, y_topOf, y_firstLine, y_label, y_labelWide, y_counter, y_refWide, y_nextWide, y_columnLine, y_columnLines, y_filled, y_foot) := by
  obtain ⟨H1, H2, H3⟩ := H
  have ec : y_columns - 1 = nI (S.1 - 1) := by rw [H1]; exact pk_sub (b := 1) h1
  have jc := ix_in (N := 384) ec (by omega) (by omega)
  have cc := ix_c ec (by omega)
  obtain ⟨g1, g2, g3, _⟩ := H2 (S.1 - 1) (by omega)
  have ep : y_pages 1 = a 2 := Z.2.1 1 (by omega)
  refine ⟨jc, jc, ?_⟩
  rw [cc, g2, g3, ep]; exact h
theorem yf_new {post : SY → Prop} {x : Int32} {p k : Nat} {S : la_F} (hx : x = nI (la_Fs a y_view rw p + k)) (hp : p < dc_n a) (hk : k < la_nl a y_view rw p) (hc : S.1 < 384) (H : yf_C a y_view rw S p k y_columns y_columnOf y_topOf y_columnLine y_columnLines y_filled y_foot)
    (h : ∀ y_columns y_columnOf y_topOf y_columnLine y_columnLines y_filled y_foot, yf_C a y_view rw (la_new S p k) p k y_columns y_columnOf y_topOf y_columnLine y_columnLines y_filled y_foot → post (y_doc, y_tracking, y_view, y_done, y_steps, y_lines, y_columns, y_rounds, y_known, y_many, y_styleOf, y_markOf, y_words, y_width, y_note, y_status, y_styles, y_pages, y_stepKind, y_stepA, y_stepB, y_stepC, y_stepOn, y_ofParagraph, y_firstWord, y_wordsOf, y_slack, y_begin, y_needs, y_notes, y_columnOf, y_topOf, y_firstLine, y_label, y_labelWide, y_counter, y_refWide, y_nextWide, y_columnLine, y_columnLines, y_filled, y_foot)) : wpY_newColumn post (y_doc, y_tracking, y_view, y_done, y_steps, y_lines, y_columns, y_rounds, y_known, y_many, y_styleOf, y_markOf, y_words, y_width, y_note, y_status, y_styles, y_pages, y_stepKind, y_stepA, y_stepB, y_stepC, y_stepOn, y_ofParagraph, y_firstWord, y_wordsOf, y_slack, y_begin, y_needs, y_notes, y_columnOf, y_topOf, y_firstLine, y_label, y_labelWide, y_counter, y_refWide, y_nextWide, y_columnLine, y_columnLines, y_filled, y_foot) x := by
  obtain ⟨H1, H2, H3⟩ := H
  have j := ix_in (N := 384) H1 hc (by omega)
  have c := ix_c H1 (by omega)
  refine ⟨j, nm_r (by rw [c]) ⟨j, nm_r (by rw [c]) ⟨j, nm_r (by rw [c]) ⟨j, nm_r (by rw [c]) (nm_r (e' := nI (S.1 + 1)) (by rw [H1, nI_1]) (h _ _ _ _ _ _ _ ⟨rfl, fun i hi => ?_, H3⟩))⟩⟩⟩⟩
  by_cases e : i = S.1
  · subst e
    exact ⟨pk_us.trans pk_us.symm, pk_us.trans pk_us.symm, pk_us.trans pk_us.symm, p, k, hp, hk, pk_us, pk_us, pk_us.trans hx⟩
  · have hi' : i < S.1 + 1 := hi
    obtain ⟨g1, g2, g3, q, j, g4, g5, g6, g7, g8⟩ := H2 i (by omega)
    exact ⟨(pk_un e).trans (g1.trans (pk_un e).symm), (pk_un e).trans (g2.trans (pk_un e).symm), (pk_un e).trans (g3.trans (pk_un e).symm), q, j, g4, g5, (pk_un e).trans g6, (pk_un e).trans g7, (pk_un e).trans g8⟩
theorem yf_put {post : SY → Prop} {x z : Int32} {p k : Nat} {S : la_F} (hv : dc_V a) (HB : yb_B a y_view rw (dc_n a) 0 y_ofParagraph y_firstWord y_wordsOf y_slack y_begin y_needs y_notes) (hx : x = nI (la_Fs a y_view rw p + k)) (hp : p < dc_n a) (hk : k < la_nl a y_view rw p) (hz : z = la_ga a S p k) (h1 : 1 ≤ S.1) (hc : S.1 ≤ 384) (H : yf_C a y_view rw S p k y_columns y_columnOf y_topOf y_columnLine y_columnLines y_filled y_foot)
    (h : ∀ y_columnOf y_topOf y_columnLine y_columnLines y_filled y_foot, yf_C a y_view rw (la_put a y_view rw S p k) p (k + 1) y_columns y_columnOf y_topOf y_columnLine y_columnLines y_filled y_foot → post (y_doc, y_tracking, y_view, y_done, y_steps, y_lines, y_columns, y_rounds, y_known, y_many, y_styleOf, y_markOf, y_words, y_width, y_note, y_status, y_styles, y_pages, y_stepKind, y_stepA, y_stepB, y_stepC, y_stepOn, y_ofParagraph, y_firstWord, y_wordsOf, y_slack, y_begin, y_needs, y_notes, y_columnOf, y_topOf, y_firstLine, y_label, y_labelWide, y_counter, y_refWide, y_nextWide, y_columnLine, y_columnLines, y_filled, y_foot)) : wpY_putLine post (y_doc, y_tracking, y_view, y_done, y_steps, y_lines, y_columns, y_rounds, y_known, y_many, y_styleOf, y_markOf, y_words, y_width, y_note, y_status, y_styles, y_pages, y_stepKind, y_stepA, y_stepB, y_stepC, y_stepOn, y_ofParagraph, y_firstWord, y_wordsOf, y_slack, y_begin, y_needs, y_notes, y_columnOf, y_topOf, y_firstLine, y_label, y_labelWide, y_counter, y_refWide, y_nextWide, y_columnLine, y_columnLines, y_filled, y_foot) x z := by
  subst hz
  have h24 := (dc_Vn hv).2
  have hF := la_FsB (rw := rw) (vw := y_view) hv (p := p) (by omega)
  have hn := (la_nlP (a := a) (rw := rw) (vw := y_view) (dc_Vw hv (p := p) (by omega)).2).2.1
  obtain ⟨H1, H2, H3⟩ := H
  have ec : y_columns - 1 = nI (S.1 - 1) := by rw [H1]; exact pk_sub (b := 1) h1
  have jc := vp_in_nI (n := S.1 - 1) (N := 384) (by omega) (by omega)
  have cc := nI_clamp (n := S.1 - 1) (by omega)
  have jl := ix_in (N := 384) hx (by omega) (by omega)
  have cl := ix_c hx (by omega)
  obtain ⟨g1, g2, g3, _⟩ := H2 (S.1 - 1) (by omega)
  obtain ⟨_, _, _, _, _, b6, b7⟩ := HB p k (Or.inl ⟨hp, hk⟩)
  have ring : S.2.2.2.2.2.1 (S.1 - 1) + ((la_ga a S p k + la_nd a y_view rw p k) - la_no a y_view rw p k) = S.2.2.2.2.2.1 (S.1 - 1) + la_ga a S p k + dc_v a p 5 := by
    unfold la_nd
    rw [← Int32.add_assoc (la_ga a S p k), Int32.add_sub_cancel, Int32.add_assoc]
  refine nm_r ec ⟨jl, nm_r (by rw [cl]) ⟨jc, jl, nm_r (by rw [cl, cc, g3]) ⟨jc, jl, jl, jc, nm_r (e' := upd y_filled (S.1 - 1) (S.2.2.2.2.2.1 (S.1 - 1) + la_ga a S p k + dc_v a p 5)) (by rw [cl, cc, g3, b6, b7, ring]) ⟨jc, jl, jc, nm_r (by rw [cl, cc, g2, b7]) ⟨jc, jc, nm_r (by rw [cc, g1]) (h _ _ _ _ _ _ ⟨H1, fun i hi => ?_, fun q j hq => ?_⟩)⟩⟩⟩⟩⟩
  · obtain ⟨w1, w2, w3, w4⟩ := H2 i hi
    by_cases e : i = S.1 - 1
    · subst e; exact ⟨pk_us.trans pk_us.symm, pk_us.trans pk_us.symm, pk_us.trans pk_us.symm, w4⟩
    · exact ⟨(pk_un e).trans (w1.trans (pk_un e).symm), (pk_un e).trans (w2.trans (pk_un e).symm), (pk_un e).trans (w3.trans (pk_un e).symm), w4⟩
  · by_cases e : q = p ∧ j = k
    · obtain ⟨rfl, rfl⟩ := e; exact ⟨pk_us.trans pk_us.symm, pk_us.trans pk_us.symm⟩
    · have hq2 : (q < p ∧ j < la_nl a y_view rw q) ∨ (q = p ∧ j < k) := by
        rcases hq with z | ⟨z1, z2⟩
        · exact Or.inl z
        · exact Or.inr ⟨z1, by omega⟩
      have ne : la_Fs a y_view rw q + j ≠ la_Fs a y_view rw p + k ∧ 16 * q + j ≠ 16 * p + k := by
        rcases hq2 with ⟨z1, z2⟩ | ⟨z1, z2⟩
        · have := la_FsM (a := a) (rw := rw) (vw := y_view) z1
          have := (la_nlP (a := a) (rw := rw) (vw := y_view) (dc_Vw hv (p := q) (by omega)).2).2.1
          omega
        · subst z1; omega
      obtain ⟨w1, w2⟩ := H3 q j hq2
      exact ⟨(pk_un ne.1).trans (w1.trans (pk_un ne.2).symm), (pk_un ne.1).trans (w2.trans (pk_un ne.2).symm)⟩
/-- comparing heights -/
theorem la_cm1 {x : Int32} {b c : Nat} (h1 : -1000000 ≤ x.toInt) (h2 : x.toInt ≤ 1000000) (hb : b ≤ 1000) (hc : c ≤ 1000) : x < nI b + nI c ↔ ¬ 0 ≤ x - nI b - nI c := by
  rw [Int32.lt_iff_toInt_lt, Int32.le_iff_toInt_le, nI_add, nI_toInt (by omega), Int32.toInt_sub, Int32.toInt_sub, nI_toInt (by omega), nI_toInt (by omega), show (0 : Int32).toInt = 0 from by decide, Int.bmod_eq_of_le (n := x.toInt - b) (by omega) (by omega), Int.bmod_eq_of_le (by omega) (by omega)]
  omega
theorem la_cm2 {x : Int32} {b c d : Nat} (h1 : -1000000 ≤ x.toInt) (h2 : x.toInt ≤ 1000000) (hb : b ≤ 1000) (hc : c ≤ 1000) (hd : d ≤ 1000) : nI b + nI c + (nI b + nI d) ≤ x ↔ nI b + nI d ≤ x - nI b - nI c := by
  rw [Int32.le_iff_toInt_le, Int32.le_iff_toInt_le, nI_add, nI_add, nI_add, nI_toInt (by omega), nI_toInt (by omega), Int32.toInt_sub, Int32.toInt_sub, nI_toInt (by omega), nI_toInt (by omega), Int.bmod_eq_of_le (n := x.toInt - b) (by omega) (by omega), Int.bmod_eq_of_le (by omega) (by omega)]
  omega
theorem la_fhB {S : la_F} {c L : Nat} (hv : dc_V a) (h : la_J S c L) (h1 : 1 ≤ S.1) (hL : L ≤ 384) : -1000000 ≤ (la_fh a S).toInt ∧ (la_fh a S).toInt ≤ 1000000 := by
  obtain ⟨m, f, g, _, _, e2, b2, e3, b3⟩ := h.2 (S.1 - 1) (by omega)
  obtain ⟨n, hn, en⟩ := yl_N' hv.2.1
  unfold la_fh
  rw [e2, e3, en, Int32.toInt_sub, Int32.toInt_sub, nI_toInt (by omega), nI_toInt (by omega), nI_toInt (by omega), Int.bmod_eq_of_le (n := (n : Int) - f) (by omega) (by omega), Int.bmod_eq_of_le (by omega) (by omega)]
  omega
end
section
theorem la_tuE {a rw : Nat → Int32} {vw : Int32} {S : la_F} {p k : Nat} : la_tu a vw rw S p k = if 0 ≤ la_fh a S - dc_v a p 5 - la_no a vw rw p k then
    (if k + 2 = la_nl a vw rw p then (if dc_v a p 11 = 0 then false else if la_sf a vw rw p = true then false else !decide (dc_v a p 5 + la_no a vw rw p (k + 1) ≤ la_fh a S - dc_v a p 5 - la_no a vw rw p k)) else false)
  else true := rfl
theorem la_opE {a rw : Nat → Int32} {vw : Int32} {S : la_F} {p : Nat} : la_op a vw rw S p = if p = 0 then true else if dc_v a p 10 = 1 then true else
  !decide ((if a 2 < la_gr a vw rw (dc_n a - 1 - p) p then la_hs a vw rw p (la_hd a vw rw p) else la_gr a vw rw (dc_n a - 1 - p) p) ≤ la_fh a S - la_gb a p) := rfl
variable {y_doc y_tracking y_view y_done y_steps y_lines y_columns y_rounds y_known : Int32} {y_many y_styleOf y_markOf y_words y_width y_note y_status y_styles y_pages y_stepKind y_stepA y_stepB y_stepC y_stepOn y_ofParagraph y_firstWord y_wordsOf y_slack y_begin y_needs y_notes y_columnOf y_topOf y_firstLine y_label y_labelWide y_counter y_refWide y_nextWide y_columnLine y_columnLines y_filled y_foot : Nat → Int32} {a rw : Nat → Int32}
theorem yp_L {post : SY → Prop} {p : Nat} {lo : Int32} (hv : dc_V a) (Z : yz_Z a y_many y_pages y_styles y_styleOf y_markOf y_words y_width y_note y_status) (HB : yb_B a y_view rw (dc_n a) 0 y_ofParagraph y_firstWord y_wordsOf y_slack y_begin y_needs y_notes) (hp : p < dc_n a) (hlo : (lo = 1 ∧ dc_v a p 11 = 1 ∧ ¬ la_sf a y_view rw p = true) ∨ (lo = 0 ∧ ¬ (dc_v a p 11 = 1 ∧ ¬ la_sf a y_view rw p = true)))
    (h : ∀ y_columns y_columnOf y_topOf y_columnLine y_columnLines y_filled y_foot, yf_C a y_view rw (la_fl a y_view rw (p + 1)) (p + 1) 0 y_columns y_columnOf y_topOf y_columnLine y_columnLines y_filled y_foot → post (y_doc, y_tracking, y_view, y_done, y_steps, y_lines, y_columns, y_rounds, y_known, y_many, y_styleOf, y_markOf, y_words, y_width, y_note, y_status, y_styles, y_pages, y_stepKind, y_stepA, y_stepB, y_stepC, y_stepOn, y_ofParagraph, y_firstWord, y_wordsOf, y_slack, y_begin, y_needs, y_notes, y_columnOf, y_topOf, y_firstLine, y_label, y_labelWide, y_counter, y_refWide, y_nextWide, y_columnLine, y_columnLines, y_filled, y_foot)) : ∀ (d k : Nat) (y_columns : Int32) (y_columnOf y_topOf y_columnLine y_columnLines y_filled y_foot : Nat → Int32), k + d = la_nl a y_view rw p → 1 ≤ k → yf_C a y_view rw (la_fp a y_view rw (la_fl a y_view rw p) p k) p k y_columns y_columnOf y_topOf y_columnLine y_columnLines y_filled y_foot →
    wY_place_202 post (nI (la_Fs a y_view rw p)) (nI (la_nl a y_view rw p)) lo (d + 1) (nI k) y_doc y_tracking y_view y_done y_steps y_lines y_columns y_rounds y_known y_many y_styleOf y_markOf y_words y_width y_note y_status y_styles y_pages y_stepKind y_stepA y_stepB y_stepC y_stepOn y_ofParagraph y_firstWord y_wordsOf y_slack y_begin y_needs y_notes y_columnOf y_topOf y_firstLine y_label y_labelWide y_counter y_refWide y_nextWide y_columnLine y_columnLines y_filled y_foot
  | 0, k, y_columns, y_columnOf, y_topOf, y_columnLine, y_columnLines, y_filled, y_foot, hk, hk1, H => by
    have h24 := (dc_Vn hv).2
    have hn := (la_nlP (a := a) (rw := rw) (vw := y_view) (dc_Vw hv (p := p) (by omega)).2).2.1
    obtain rfl : k = la_nl a y_view rw p := by omega
    refine br_t (nI_le (by omega) (by omega)) (h _ _ _ _ _ _ _ ⟨H.1, H.2.1, fun q j hq => H.2.2 q j ?_⟩)
    rcases hq with ⟨q1, q2⟩ | ⟨q1, q2⟩
    · by_cases e : q = p
      · subst e; exact Or.inr ⟨rfl, q2⟩
      · exact Or.inl ⟨by omega, q2⟩
    · exact absurd q2 (by omega)
  | d + 1, k, y_columns, y_columnOf, y_topOf, y_columnLine, y_columnLines, y_filled, y_foot, hk, hk1, H => by
    have h24 := (dc_Vn hv).2
    have hp24 : p < 24 := by omega
    have hn := (la_nlP (a := a) (rw := rw) (vw := y_view) (dc_Vw hv hp24).2).2.1
    have hF := la_FsB (rw := rw) (vw := y_view) hv (p := p) (by omega)
    obtain ⟨g1, g2⟩ := la_flI (rw := rw) (vw := y_view) hv p (by omega)
    obtain ⟨q1, q2, q3⟩ := la_fpI (rw := rw) (vw := y_view) hv hp24 g1 g2 k
    have qb := q1.1
    have q2' := q2 hk1
    have q4 := (la_adI (rw := rw) (vw := y_view) hv hp24 q1 q3).2.2
    obtain ⟨f1, f2⟩ := la_fhB hv q1 q2' (by omega)
    have ei : la_is a y_view rw (la_fp a y_view rw (la_fl a y_view rw p) p k) p k = la_tu a y_view rw (la_fp a y_view rw (la_fl a y_view rw p) p k) p k := if_neg (by omega)
    have ih := yp_L hv Z HB hp hlo h d (k + 1)
    have estep : la_fp a y_view rw (la_fl a y_view rw p) p (k + 1) = la_put a y_view rw (if la_is a y_view rw (la_fp a y_view rw (la_fl a y_view rw p) p k) p k = true then la_new (la_fp a y_view rw (la_fl a y_view rw p) p k) p k else la_fp a y_view rw (la_fl a y_view rw p) p k) p k := rfl
    rw [estep] at ih
    have ex : nI (la_Fs a y_view rw p) + nI k = nI (la_Fs a y_view rw p + k) := nI_add _ _
    have f275 : ∀ (S : la_F) (y_columns : Int32) (y_columnOf y_topOf y_columnLine y_columnLines y_filled y_foot : Nat → Int32), S = (if la_is a y_view rw (la_fp a y_view rw (la_fl a y_view rw p) p k) p k = true then la_new (la_fp a y_view rw (la_fl a y_view rw p) p k) p k else la_fp a y_view rw (la_fl a y_view rw p) p k) → S.1 ≤ 384 → yf_C a y_view rw S p k y_columns y_columnOf y_topOf y_columnLine y_columnLines y_filled y_foot →
        wY_place_275 post (wY_place_202 post (nI (la_Fs a y_view rw p)) (nI (la_nl a y_view rw p)) lo (d + 1)) (nI (la_Fs a y_view rw p)) (nI (la_nl a y_view rw p)) lo (nI k) y_doc y_tracking y_view y_done y_steps y_lines y_columns y_rounds y_known y_many y_styleOf y_markOf y_words y_width y_note y_status y_styles y_pages y_stepKind y_stepA y_stepB y_stepC y_stepOn y_ofParagraph y_firstWord y_wordsOf y_slack y_begin y_needs y_notes y_columnOf y_topOf y_firstLine y_label y_labelWide y_counter y_refWide y_nextWide y_columnLine y_columnLines y_filled y_foot := fun S cc y_columnOf1 y_topOf1 y_columnLine1 y_columnLines1 y_filled1 y_foot1 eS hS H' => by
      rw [← eS] at ih q4
      unfold wY_place_275
      refine yf_put hv HB ex hp (by omega) (by unfold la_ga; rw [if_neg (by omega)]) q4 hS H' ?_
      intro y_columnOf y_topOf y_columnLine y_columnLines y_filled y_foot H2
      exact nm_r (nI_1 k) (ih _ _ _ _ _ _ _ (by omega) (by omega) H2)
    have f267 : la_tu a y_view rw (la_fp a y_view rw (la_fl a y_view rw p) p k) p k = true → wY_place_267 post (wY_place_202 post (nI (la_Fs a y_view rw p)) (nI (la_nl a y_view rw p)) lo (d + 1)) (nI (la_Fs a y_view rw p)) (nI (la_nl a y_view rw p)) lo (nI k) y_doc y_tracking y_view y_done y_steps y_lines y_columns y_rounds y_known y_many y_styleOf y_markOf y_words y_width y_note y_status y_styles y_pages y_stepKind y_stepA y_stepB y_stepC y_stepOn y_ofParagraph y_firstWord y_wordsOf y_slack y_begin y_needs y_notes y_columnOf y_topOf y_firstLine y_label y_labelWide y_counter y_refWide y_nextWide y_columnLine y_columnLines y_filled y_foot := fun z => by
      unfold wY_place_267
      refine yf_new ex hp (by omega) (by omega) H ?_
      intro y_columns y_columnOf y_topOf y_columnLine y_columnLines y_filled y_foot H2
      exact f275 _ _ _ _ _ _ _ _ (if_pos (ei.trans z)).symm (by show _ + 1 ≤ 384; omega) H2
    have f275n : ¬ la_tu a y_view rw (la_fp a y_view rw (la_fl a y_view rw p) p k) p k = true → wY_place_275 post (wY_place_202 post (nI (la_Fs a y_view rw p)) (nI (la_nl a y_view rw p)) lo (d + 1)) (nI (la_Fs a y_view rw p)) (nI (la_nl a y_view rw p)) lo (nI k) y_doc y_tracking y_view y_done y_steps y_lines y_columns y_rounds y_known y_many y_styleOf y_markOf y_words y_width y_note y_status y_styles y_pages y_stepKind y_stepA y_stepB y_stepC y_stepOn y_ofParagraph y_firstWord y_wordsOf y_slack y_begin y_needs y_notes y_columnOf y_topOf y_firstLine y_label y_labelWide y_counter y_refWide y_nextWide y_columnLine y_columnLines y_filled y_foot := fun z =>
      f275 _ _ _ _ _ _ _ _ (if_neg (fun q => z (ei.symm.trans q))).symm (by omega) H
    have jx := ix_in (N := 384) ex (by omega) (by omega)
    have cx := ix_c ex (by omega)
    have bn := (HB p k (Or.inl ⟨hp, by omega⟩)).2.2.2.2.2.1
    obtain ⟨b, eb, hb⟩ := la_hB hv hp24
    obtain ⟨c, ec, hc⟩ := la_noB (rw := rw) (vw := y_view) hv hp24 (k := k)
    have cm1 := la_cm1 (b := b) (c := c) f1 f2 (by omega) (by omega)
    rw [← eb, ← ec] at cm1
    refine br_f (nI_ge (by omega) (by omega)) (yf_free Z q2' (by omega) H ⟨jx, ?_⟩)
    rw [cx, bn]
    have tu := la_tuE (a := a) (vw := y_view) (rw := rw) (S := la_fp a y_view rw (la_fl a y_view rw p) p k) (p := p) (k := k)
    refine br_c (fun z => f267 ?_) (fun z => ?_)
    · rw [tu, if_neg (cm1.mp z)]
    · have z0 : 0 ≤ la_fh a (la_fp a y_view rw (la_fl a y_view rw p) p k) - dc_v a p 5 - la_no a y_view rw p k := by
        by_cases q : 0 ≤ la_fh a (la_fp a y_view rw (la_fl a y_view rw p) p k) - dc_v a p 5 - la_no a y_view rw p k
        · exact q
        · exact absurd (cm1.mpr q) z
      rw [if_pos z0] at tu
      have p11 : dc_v a p 11 = 0 ∨ dc_v a p 11 = 1 := by
        obtain ⟨m, hm, em⟩ := yl_N' ((dc_Vt hv hp24 (t := 11) (by omega)).2.2.2 rfl)
        have : m = 0 ∨ m = 1 := by omega
        rcases this with rfl | rfl
        · exact Or.inl em
        · exact Or.inr em
      rcases hlo with ⟨l1, l2, l3⟩ | ⟨l1, l2⟩
      · subst l1
        have n0 : ¬ dc_v a p 11 = 0 := fun q => by rw [l2] at q; exact absurd q (by decide)
        have ek : nI k = nI (la_nl a y_view rw p) - 2 ↔ k + 2 = la_nl a y_view rw p := by
          have e2 : nI (la_nl a y_view rw p) - 2 = nI (la_nl a y_view rw p - 2) := pk_sub (b := 2) (by omega)
          rw [e2, nI_eq (by omega) (by omega)]; omega
        refine br_f (by decide) (br_c (fun y => ⟨jx, ix_in ((congrArg (· + 1) ex).trans (nI_1 _)) (by have := ek.mp y; omega) (by omega), ?_⟩) (fun y => f275n ?_))
        · have y' := ek.mp y
          rw [if_pos y', if_neg n0, if_neg l3] at tu
          obtain ⟨c', ec', hc'⟩ := la_noB (rw := rw) (vw := y_view) hv hp24 (k := k + 1)
          have cm2 := la_cm2 (b := b) (c := c) (d := c') f1 f2 (by omega) (by omega) (by omega)
          rw [← eb, ← ec, ← ec'] at cm2
          have bn1 := (HB p (k + 1) (Or.inl ⟨hp, by omega⟩)).2.2.2.2.2.1
          rw [ix_c ((congrArg (· + 1) ex).trans (nI_1 _)) (by omega), show la_Fs a y_view rw p + k + 1 = la_Fs a y_view rw p + (k + 1) from by omega, bn1]
          refine br_c (fun w => f275n ?_) (fun w => f267 ?_)
          · rw [tu, decide_eq_true (cm2.mp w)]; decide
          · rw [tu, decide_eq_false (fun q => w (cm2.mpr q))]; rfl
        · rw [tu, if_neg (fun q => y (ek.mpr q))]; decide
      · subst l1
        refine br_t rfl (f275n ?_)
        rw [tu]
        by_cases y : k + 2 = la_nl a y_view rw p
        · rw [if_pos y]
          by_cases n0 : dc_v a p 11 = 0
          · rw [if_pos n0]; decide
          · rw [if_neg n0]
            have s : la_sf a y_view rw p = true := by
              by_cases s : la_sf a y_view rw p = true
              · exact s
              · exact absurd ⟨p11.resolve_left n0, s⟩ l2
            rw [if_pos s]; decide
        · rw [if_neg y]; decide
theorem ys_place {post : SY → Prop} {x : Int32} {p : Nat} (hv : dc_V a) (Z : yz_Z a y_many y_pages y_styles y_styleOf y_markOf y_words y_width y_note y_status) (HB : yb_B a y_view rw (dc_n a) 0 y_ofParagraph y_firstWord y_wordsOf y_slack y_begin y_needs y_notes) (HF : ∀ q, q ≤ dc_n a → y_firstLine q = nI (la_Fs a y_view rw q)) (hx : x = nI p) (hp : p < dc_n a) (H : yf_C a y_view rw (la_fl a y_view rw p) p 0 y_columns y_columnOf y_topOf y_columnLine y_columnLines y_filled y_foot)
    (h : ∀ y_columns y_columnOf y_topOf y_columnLine y_columnLines y_filled y_foot, yf_C a y_view rw (la_fl a y_view rw (p + 1)) (p + 1) 0 y_columns y_columnOf y_topOf y_columnLine y_columnLines y_filled y_foot → post (y_doc, y_tracking, y_view, y_done, y_steps, y_lines, y_columns, y_rounds, y_known, y_many, y_styleOf, y_markOf, y_words, y_width, y_note, y_status, y_styles, y_pages, y_stepKind, y_stepA, y_stepB, y_stepC, y_stepOn, y_ofParagraph, y_firstWord, y_wordsOf, y_slack, y_begin, y_needs, y_notes, y_columnOf, y_topOf, y_firstLine, y_label, y_labelWide, y_counter, y_refWide, y_nextWide, y_columnLine, y_columnLines, y_filled, y_foot)) : wpY_place post (y_doc, y_tracking, y_view, y_done, y_steps, y_lines, y_columns, y_rounds, y_known, y_many, y_styleOf, y_markOf, y_words, y_width, y_note, y_status, y_styles, y_pages, y_stepKind, y_stepA, y_stepB, y_stepC, y_stepOn, y_ofParagraph, y_firstWord, y_wordsOf, y_slack, y_begin, y_needs, y_notes, y_columnOf, y_topOf, y_firstLine, y_label, y_labelWide, y_counter, y_refWide, y_nextWide, y_columnLine, y_columnLines, y_filled, y_foot) x := by
  subst hx
  have h24 := (dc_Vn hv).2
  have hp24 : p < 24 := by omega
  have hn := la_nlP (a := a) (rw := rw) (vw := y_view) (dc_Vw hv hp24).2
  have hh := la_hdB (a := a) (rw := rw) (vw := y_view) (dc_Vw hv hp24).2
  have hF := la_FsB (rw := rw) (vw := y_view) hv (p := p) (by omega)
  obtain ⟨g1, g2⟩ := la_flI (rw := rw) (vw := y_view) hv p (by omega)
  have g3 : (la_fl a y_view rw p).1 = 0 → la_is a y_view rw (la_fl a y_view rw p) p 0 = true := fun z => by
    show la_op a y_view rw (la_fl a y_view rw p) p = true
    unfold la_op; rw [if_pos (g2 z)]
  have gb := g1.1
  have q4 := (la_adI (rw := rw) (vw := y_view) hv hp24 g1 g3).2.2
  have ei : la_is a y_view rw (la_fl a y_view rw p) p 0 = la_op a y_view rw (la_fl a y_view rw p) p := rfl
  have f127 : ∀ (S : la_F) (y_columns : Int32) (y_columnOf y_topOf y_columnLine y_columnLines y_filled y_foot : Nat → Int32), S = (if la_is a y_view rw (la_fl a y_view rw p) p 0 = true then la_new (la_fl a y_view rw p) p 0 else la_fl a y_view rw p) → S.1 ≤ 384 → la_J S 384 384 → (p = 0 → S.2.2.2.1 (S.1 - 1) = 0) → yf_C a y_view rw S p 0 y_columns y_columnOf y_topOf y_columnLine y_columnLines y_filled y_foot →
      wY_place_127 post (nI p) (nI (la_Fs a y_view rw p)) (nI (la_nl a y_view rw p)) y_doc y_tracking y_view y_done y_steps y_lines y_columns y_rounds y_known y_many y_styleOf y_markOf y_words y_width y_note y_status y_styles y_pages y_stepKind y_stepA y_stepB y_stepC y_stepOn y_ofParagraph y_firstWord y_wordsOf y_slack y_begin y_needs y_notes y_columnOf y_topOf y_firstLine y_label y_labelWide y_counter y_refWide y_nextWide y_columnLine y_columnLines y_filled y_foot := fun S y_columns y_columnOf y_topOf y_columnLine y_columnLines y_filled y_foot eS hS hJ h0 H' => by
    have q4' : 1 ≤ S.1 := by rw [eS]; exact q4
    have ec : y_columns - 1 = nI (S.1 - 1) := by rw [H'.1]; exact pk_sub (b := 1) q4'
    obtain ⟨w1, _⟩ := H'.2.1 (S.1 - 1) (by omega)
    obtain ⟨m, _, _, em, hm, _⟩ := hJ.2 (S.1 - 1) (by omega)
    have f190 : ∀ lo z0 : Int32, ((lo = 1 ∧ dc_v a p 11 = 1 ∧ ¬ la_sf a y_view rw p = true) ∨ (lo = 0 ∧ ¬ (dc_v a p 11 = 1 ∧ ¬ la_sf a y_view rw p = true))) → z0 = la_ga a S p 0 → wY_place_190 post (nI (la_Fs a y_view rw p)) (nI (la_nl a y_view rw p)) lo z0 y_doc y_tracking y_view y_done y_steps y_lines y_columns y_rounds y_known y_many y_styleOf y_markOf y_words y_width y_note y_status y_styles y_pages y_stepKind y_stepA y_stepB y_stepC y_stepOn y_ofParagraph y_firstWord y_wordsOf y_slack y_begin y_needs y_notes y_columnOf y_topOf y_firstLine y_label y_labelWide y_counter y_refWide y_nextWide y_columnLine y_columnLines y_filled y_foot := fun lo z0 hlo hz => by
      unfold wY_place_190
      refine yf_put (k := 0) hv HB rfl hp (by omega) hz q4' hS H' ?_
      intro y_columnOf y_topOf y_columnLine y_columnLines y_filled y_foot H2
      refine ⟨la_nl a y_view rw p - 1 + 1, yp_L hv Z HB hp hlo h (la_nl a y_view rw p - 1) 1 _ _ _ _ _ _ _ (by omega) (by omega) ?_⟩
      have estep : la_fp a y_view rw (la_fl a y_view rw p) p 1 = la_put a y_view rw (if la_is a y_view rw (la_fl a y_view rw p) p 0 = true then la_new (la_fl a y_view rw p) p 0 else la_fl a y_view rw p) p 0 := rfl
      rw [estep, ← eS]; exact H2
    have f172 : ∀ lo em : Int32, ((lo = 1 ∧ dc_v a p 11 = 1 ∧ ¬ la_sf a y_view rw p = true) ∨ (lo = 0 ∧ ¬ (dc_v a p 11 = 1 ∧ ¬ la_sf a y_view rw p = true))) → ((em = 1 ∧ S.2.2.2.1 (S.1 - 1) = 0) ∨ (em = 0 ∧ ¬ S.2.2.2.1 (S.1 - 1) = 0)) → wY_place_172 post (nI p) (nI (la_Fs a y_view rw p)) (nI (la_nl a y_view rw p)) em lo y_doc y_tracking y_view y_done y_steps y_lines y_columns y_rounds y_known y_many y_styleOf y_markOf y_words y_width y_note y_status y_styles y_pages y_stepKind y_stepA y_stepB y_stepC y_stepOn y_ofParagraph y_firstWord y_wordsOf y_slack y_begin y_needs y_notes y_columnOf y_topOf y_firstLine y_label y_labelWide y_counter y_refWide y_nextWide y_columnLine y_columnLines y_filled y_foot := fun lo em' hlo hem => by
      rcases hem with ⟨rfl, z⟩ | ⟨rfl, z⟩
      · refine br_f (by decide) (f190 lo 0 hlo ?_)
        unfold la_ga; rw [if_pos rfl, z, if_pos (by decide)]
      · have hp0 : p ≠ 0 := fun q => z (h0 q)
        refine br_t rfl (yr_gap (p := p - 1) hv Z (pk_sub (b := 1) (by omega)) (by omega) (f190 lo _ hlo ?_))
        rw [show p - 1 + 1 = p from by omega]
        unfold la_ga
        rw [if_pos rfl, if_neg ?_]
        rw [em] at z ⊢
        have hm0 : 0 < m := Nat.pos_of_ne_zero fun q => z (by rw [q]; rfl)
        exact nI_nle hm0 (by omega)
    have f146 : ∀ em : Int32, ((em = 1 ∧ S.2.2.2.1 (S.1 - 1) = 0) ∨ (em = 0 ∧ ¬ S.2.2.2.1 (S.1 - 1) = 0)) → wY_place_146 post (nI p) (nI (la_Fs a y_view rw p)) (nI (la_nl a y_view rw p)) em y_doc y_tracking y_view y_done y_steps y_lines y_columns y_rounds y_known y_many y_styleOf y_markOf y_words y_width y_note y_status y_styles y_pages y_stepKind y_stepA y_stepB y_stepC y_stepOn y_ofParagraph y_firstWord y_wordsOf y_slack y_begin y_needs y_notes y_columnOf y_topOf y_firstLine y_label y_labelWide y_counter y_refWide y_nextWide y_columnLine y_columnLines y_filled y_foot := fun em' hem => by
      unfold wY_place_146
      exact yr_tr hv Z rfl hp24 (t := 11) rfl (by omega) (br_c (fun z => yr_sf hv Z HF rfl hp (fun s => br_f (by decide) (f172 0 em' (Or.inr ⟨rfl, fun q => q.2 s⟩) hem)) (fun s => br_t rfl (f172 1 em' (Or.inl ⟨rfl, z, s⟩) hem))) (fun z => f172 0 em' (Or.inr ⟨rfl, fun q => z q.1⟩) hem))
    refine ⟨ix_in ec (by omega) (by omega), ?_⟩
    rw [ix_c ec (by omega), w1]
    exact br_c (fun z => f146 1 (Or.inl ⟨rfl, z⟩)) (fun z => f146 0 (Or.inr ⟨rfl, z⟩))
  have fnew : la_op a y_view rw (la_fl a y_view rw p) p = true → wpY_newColumn (fun u => match u with | (y_doc7, y_tracking7, y_view7, y_done7, y_steps7, y_lines7, y_columns7, y_rounds7, y_known7, y_many7, y_styleOf7, y_markOf7, y_words7, y_width7, y_note7, y_status7, y_styles7, y_pages7, y_stepKind7, y_stepA7, y_stepB7, y_stepC7, y_stepOn7, y_ofParagraph7, y_firstWord7, y_wordsOf7, y_slack7, y_begin7, y_needs7, y_notes7, y_columnOf7, y_topOf7, y_firstLine7, y_label7, y_labelWide7, y_counter7, y_refWide7, y_nextWide7, y_columnLine7, y_columnLines7, y_filled7, y_foot7) => wY_place_127 post (nI p) (nI (la_Fs a y_view rw p)) (nI (la_nl a y_view rw p)) y_doc7 y_tracking7 y_view7 y_done7 y_steps7 y_lines7 y_columns7 y_rounds7 y_known7 y_many7 y_styleOf7 y_markOf7 y_words7 y_width7 y_note7 y_status7 y_styles7 y_pages7 y_stepKind7 y_stepA7 y_stepB7 y_stepC7 y_stepOn7 y_ofParagraph7 y_firstWord7 y_wordsOf7 y_slack7 y_begin7 y_needs7 y_notes7 y_columnOf7 y_topOf7 y_firstLine7 y_label7 y_labelWide7 y_counter7 y_refWide7 y_nextWide7 y_columnLine7 y_columnLines7 y_filled7 y_foot7) (y_doc, y_tracking, y_view, y_done, y_steps, y_lines, y_columns, y_rounds, y_known, y_many, y_styleOf, y_markOf, y_words, y_width, y_note, y_status, y_styles, y_pages, y_stepKind, y_stepA, y_stepB, y_stepC, y_stepOn, y_ofParagraph, y_firstWord, y_wordsOf, y_slack, y_begin, y_needs, y_notes, y_columnOf, y_topOf, y_firstLine, y_label, y_labelWide, y_counter, y_refWide, y_nextWide, y_columnLine, y_columnLines, y_filled, y_foot) (nI (la_Fs a y_view rw p)) := fun z => by
    refine yf_new (k := 0) rfl hp (by omega) (by omega) H ?_
    intro y_columns y_columnOf y_topOf y_columnLine y_columnLines y_filled y_foot H2
    exact f127 _ _ _ _ _ _ _ _ (if_pos (ei.trans z)).symm (by show _ + 1 ≤ 384; omega) (la_Jm (la_Jnew g1) (by omega) (by omega)) (fun _ => pk_us) H2
  have fold : ¬ la_op a y_view rw (la_fl a y_view rw p) p = true → wY_place_127 post (nI p) (nI (la_Fs a y_view rw p)) (nI (la_nl a y_view rw p)) y_doc y_tracking y_view y_done y_steps y_lines y_columns y_rounds y_known y_many y_styleOf y_markOf y_words y_width y_note y_status y_styles y_pages y_stepKind y_stepA y_stepB y_stepC y_stepOn y_ofParagraph y_firstWord y_wordsOf y_slack y_begin y_needs y_notes y_columnOf y_topOf y_firstLine y_label y_labelWide y_counter y_refWide y_nextWide y_columnLine y_columnLines y_filled y_foot := fun z =>
    f127 _ _ _ _ _ _ _ _ (if_neg z).symm (by omega) (la_Jm g1 (by omega) (by omega)) (fun q => absurd (by unfold la_op; rw [if_pos q]) z) H
  refine ⟨vp_in_nI (by omega) (by omega), nm_r (e' := nI (la_Fs a y_view rw p)) (by rw [nI_clamp (by omega), HF p (by omega)]) (yr_lo' hv HF rfl hp ?_)⟩
  rw [H.1]
  have op := la_opE (a := a) (vw := y_view) (rw := rw) (S := la_fl a y_view rw p) (p := p)
  refine pk_eq (la_fl a y_view rw p).1 0 (fun z => ?_) (fun z => ?_)
  · rw [← H.1]
    exact fnew (by unfold la_op; rw [if_pos (g2 z)])
  · have hp0 : p ≠ 0 := fun q => z (by rw [q]; rfl)
    rw [← H.1]
    rw [if_neg hp0] at op
    have ep : y_pages 1 = a 2 := Z.2.1 1 (by omega)
    refine yr_gap (p := p - 1) hv Z (pk_sub (b := 1) (by omega)) (by omega) ?_
    rw [show p - 1 + 1 = p from by omega]
    refine yr_tg hv Z HB HF rfl hp (yr_hd hv Z HF rfl hp (yr_ht hv HB rfl rfl hp hh (yf_free Z (by omega) (by omega) H (nm_e ?_))))
    rw [ep]
    have f110 : ∀ z0 : Int32, ¬ dc_v a p 10 = 1 → (z0 = 0 ∧ a 2 < la_gr a y_view rw (dc_n a - 1 - p) p) ∨ (¬ z0 = 0 ∧ ¬ a 2 < la_gr a y_view rw (dc_n a - 1 - p) p ∧ ¬ la_fh a (la_fl a y_view rw p) - la_gb a p < la_gr a y_view rw (dc_n a - 1 - p) p) →
        wY_place_110 post (nI p) (nI (la_Fs a y_view rw p)) (nI (la_nl a y_view rw p)) (la_hs a y_view rw p (la_hd a y_view rw p)) (la_fh a (la_fl a y_view rw p) - la_gb a p) z0 y_doc y_tracking y_view y_done y_steps y_lines y_columns y_rounds y_known y_many y_styleOf y_markOf y_words y_width y_note y_status y_styles y_pages y_stepKind y_stepA y_stepB y_stepC y_stepOn y_ofParagraph y_firstWord y_wordsOf y_slack y_begin y_needs y_notes y_columnOf y_topOf y_firstLine y_label y_labelWide y_counter y_refWide y_nextWide y_columnLine y_columnLines y_filled y_foot := fun z0 hbr hz => by
      rw [if_neg hbr] at op
      rcases hz with ⟨w1, w2⟩ | ⟨w1, w2, w3⟩
      · rw [if_pos w2] at op
        refine br_t w1 (br_c (fun y => fold ?_) (fun y => ?_))
        · rw [op, decide_eq_true y]; decide
        · unfold wY_place_122
          exact fnew (by rw [op, decide_eq_false y]; rfl)
      · rw [if_neg w2] at op
        refine br_f w1 (fold ?_)
        rw [op, decide_eq_true (Int32.not_lt.mp w3)]; decide
    refine br_c (fun y => ?_) (fun y => ?_)
    · unfold wY_place_85
      refine yr_tr hv Z rfl hp24 (t := 10) rfl (by omega) (br_c (fun w => ?_) (fun w => br_t rfl (f110 0 w (Or.inl ⟨rfl, y⟩))))
      unfold wY_place_122
      exact fnew (by rw [op, if_pos w])
    · unfold wY_place_85
      refine yr_tr hv Z rfl hp24 (t := 10) rfl (by omega) (br_c (fun w => ?_) (fun w => br_f (by decide) (br_c (fun v => ?_) (fun v => f110 1 w (Or.inr ⟨by decide, y, v⟩)))))
      · unfold wY_place_122
        exact fnew (by rw [op, if_pos w])
      · unfold wY_place_122
        exact fnew (by rw [op, if_neg w, if_neg y, decide_eq_false (Int32.not_le.mpr v)]; rfl)
end
section
variable {y_doc y_tracking y_view y_done y_steps y_lines y_columns y_rounds y_known : Int32} {y_many y_styleOf y_markOf y_words y_width y_note y_status y_styles y_pages y_stepKind y_stepA y_stepB y_stepC y_stepOn y_ofParagraph y_firstWord y_wordsOf y_slack y_begin y_needs y_notes y_columnOf y_topOf y_firstLine y_label y_labelWide y_counter y_refWide y_nextWide y_columnLine y_columnLines y_filled y_foot : Nat → Int32} {a rw : Nat → Int32}
theorem yw_50 {post : SY → Prop} (hv : dc_V a) (Z : yz_Z a y_many y_pages y_styles y_styleOf y_markOf y_words y_width y_note y_status) (HB : yb_B a y_view rw (dc_n a) 0 y_ofParagraph y_firstWord y_wordsOf y_slack y_begin y_needs y_notes) (HF : ∀ q, q ≤ dc_n a → y_firstLine q = nI (la_Fs a y_view rw q))
    (h : ∀ y_columns y_columnOf y_topOf y_columnLine y_columnLines y_filled y_foot, yf_C a y_view rw (la_fl a y_view rw (dc_n a)) (dc_n a) 0 y_columns y_columnOf y_topOf y_columnLine y_columnLines y_filled y_foot → post (y_doc, y_tracking, y_view, y_done, y_steps, y_lines, y_columns, y_rounds, y_known, y_many, y_styleOf, y_markOf, y_words, y_width, y_note, y_status, y_styles, y_pages, y_stepKind, y_stepA, y_stepB, y_stepC, y_stepOn, y_ofParagraph, y_firstWord, y_wordsOf, y_slack, y_begin, y_needs, y_notes, y_columnOf, y_topOf, y_firstLine, y_label, y_labelWide, y_counter, y_refWide, y_nextWide, y_columnLine, y_columnLines, y_filled, y_foot)) : ∀ (d p : Nat) (y_columns : Int32) (y_columnOf y_topOf y_columnLine y_columnLines y_filled y_foot : Nat → Int32), p + d = dc_n a → yf_C a y_view rw (la_fl a y_view rw p) p 0 y_columns y_columnOf y_topOf y_columnLine y_columnLines y_filled y_foot → wY_layOut_50 post (d + 1) (nI p) y_doc y_tracking y_view y_done y_steps y_lines y_columns y_rounds y_known y_many y_styleOf y_markOf y_words y_width y_note y_status y_styles y_pages y_stepKind y_stepA y_stepB y_stepC y_stepOn y_ofParagraph y_firstWord y_wordsOf y_slack y_begin y_needs y_notes y_columnOf y_topOf y_firstLine y_label y_labelWide y_counter y_refWide y_nextWide y_columnLine y_columnLines y_filled y_foot
  | 0, p, y_columns, y_columnOf, y_topOf, y_columnLine, y_columnLines, y_filled, y_foot, hp, H => by
    obtain ⟨e0, h24⟩ := dc_Vn hv
    obtain rfl : p = dc_n a := by omega
    exact br_t (by rw [Z.1, e0]; exact nI_le (by omega) (by omega)) (h _ _ _ _ _ _ _ H)
  | d + 1, p, y_columns, y_columnOf, y_topOf, y_columnLine, y_columnLines, y_filled, y_foot, hp, H => by
    obtain ⟨e0, h24⟩ := dc_Vn hv
    refine br_f (by rw [Z.1, e0]; exact nI_ge (by omega) (by omega)) (ys_place hv Z HB HF rfl (by omega) H ?_)
    intro y_columns y_columnOf y_topOf y_columnLine y_columnLines y_filled y_foot H2
    exact nm_r (nI_1 p) (yw_50 hv Z HB HF h d (p + 1) _ _ _ _ _ _ _ (by omega) H2)
theorem yw_12 {post : SY → Prop} (hv : dc_V a) (Z : yz_Z a y_many y_pages y_styles y_styleOf y_markOf y_words y_width y_note y_status) (hr : ∀ m, m < 8 → y_refWide m = rw m) (hlb : ∀ q, q < dc_n a → y_labelWide q = la_lw a q) (hc : y_columns = 0)
    (h : ∀ y_lines y_columns y_firstLine y_ofParagraph y_firstWord y_wordsOf y_slack y_begin y_needs y_notes y_columnOf y_topOf y_columnLine y_columnLines y_filled y_foot, yb_B a y_view rw (dc_n a) 0 y_ofParagraph y_firstWord y_wordsOf y_slack y_begin y_needs y_notes → (∀ q, q ≤ dc_n a → y_firstLine q = nI (la_Fs a y_view rw q)) → yf_C a y_view rw (la_fl a y_view rw (dc_n a)) (dc_n a) 0 y_columns y_columnOf y_topOf y_columnLine y_columnLines y_filled y_foot → post (y_doc, y_tracking, y_view, y_done, y_steps, y_lines, y_columns, y_rounds, y_known, y_many, y_styleOf, y_markOf, y_words, y_width, y_note, y_status, y_styles, y_pages, y_stepKind, y_stepA, y_stepB, y_stepC, y_stepOn, y_ofParagraph, y_firstWord, y_wordsOf, y_slack, y_begin, y_needs, y_notes, y_columnOf, y_topOf, y_firstLine, y_label, y_labelWide, y_counter, y_refWide, y_nextWide, y_columnLine, y_columnLines, y_filled, y_foot)) : ∀ (d p : Nat) (y_lines : Int32) (y_firstLine y_ofParagraph y_firstWord y_wordsOf y_slack y_begin y_needs y_notes : Nat → Int32), p + d = dc_n a → y_lines = nI (la_Fs a y_view rw p) → (∀ q, q < p → y_firstLine q = nI (la_Fs a y_view rw q)) → yb_B a y_view rw p 0 y_ofParagraph y_firstWord y_wordsOf y_slack y_begin y_needs y_notes →
    wY_layOut_12 post (d + 1) (nI p) y_doc y_tracking y_view y_done y_steps y_lines y_columns y_rounds y_known y_many y_styleOf y_markOf y_words y_width y_note y_status y_styles y_pages y_stepKind y_stepA y_stepB y_stepC y_stepOn y_ofParagraph y_firstWord y_wordsOf y_slack y_begin y_needs y_notes y_columnOf y_topOf y_firstLine y_label y_labelWide y_counter y_refWide y_nextWide y_columnLine y_columnLines y_filled y_foot
  | 0, p, y_lines, y_firstLine, y_ofParagraph, y_firstWord, y_wordsOf, y_slack, y_begin, y_needs, y_notes, hp, hl, HF, HB => by
    obtain ⟨e0, h24⟩ := dc_Vn hv
    obtain rfl : p = dc_n a := by omega
    have em : y_many 0 = nI (dc_n a) := by rw [Z.1, e0]
    refine br_t (by rw [em]; exact nI_le (by omega) (by omega)) ⟨ix_in em (by omega) (by omega), nm_r (e' := upd y_firstLine (dc_n a) (nI (la_Fs a y_view rw (dc_n a)))) (by rw [ix_c em (by omega), hl]) ⟨dc_n a + 1, ?_⟩⟩
    have HF2 : ∀ q, q ≤ dc_n a → upd y_firstLine (dc_n a) (nI (la_Fs a y_view rw (dc_n a))) q = nI (la_Fs a y_view rw q) := fun q hq => by
      by_cases e : q = dc_n a
      · rw [e, pk_us]
      · rw [pk_un e]; exact HF q (by omega)
    exact yw_50 (p := 0) hv Z HB HF2 (fun _ _ _ _ _ _ _ H => h _ _ _ _ _ _ _ _ _ _ _ _ _ _ _ _ HB HF2 H) (dc_n a) _ _ _ _ _ _ _ (by omega) ⟨hc, fun i hi => absurd hi (Nat.not_lt_zero _), fun q j hq => absurd hq (by omega)⟩
  | d + 1, p, y_lines, y_firstLine, y_ofParagraph, y_firstWord, y_wordsOf, y_slack, y_begin, y_needs, y_notes, hp, hl, HF, HB => by
    obtain ⟨e0, h24⟩ := dc_Vn hv
    refine br_f (by rw [Z.1, e0]; exact nI_ge (by omega) (by omega)) (ys_break hv Z hr (hlb p (by omega)) rfl (by omega) hl HB ?_)
    intro y_ofParagraph y_firstWord y_wordsOf y_slack y_begin y_needs y_notes H2
    refine nm_r (nI_1 p) (yw_12 hv Z hr hlb hc h d (p + 1) _ _ _ _ _ _ _ _ _ (by omega) rfl (fun q hq => ?_) H2)
    by_cases e : q = p
    · subst e; exact pk_us
    · rw [pk_un e]; exact HF q (by omega)
theorem ys_lay {post : SY → Prop} (hv : dc_V a) (Z : yz_Z a y_many y_pages y_styles y_styleOf y_markOf y_words y_width y_note y_status) (hr : ∀ m, m < 8 → y_refWide m = rw m) (hlb : ∀ q, q < dc_n a → y_labelWide q = la_lw a q)
    (h : ∀ y_lines y_columns y_firstLine y_ofParagraph y_firstWord y_wordsOf y_slack y_begin y_needs y_notes y_columnOf y_topOf y_columnLine y_columnLines y_filled y_foot, yb_B a y_view rw (dc_n a) 0 y_ofParagraph y_firstWord y_wordsOf y_slack y_begin y_needs y_notes → (∀ q, q ≤ dc_n a → y_firstLine q = nI (la_Fs a y_view rw q)) → yf_C a y_view rw (la_fl a y_view rw (dc_n a)) (dc_n a) 0 y_columns y_columnOf y_topOf y_columnLine y_columnLines y_filled y_foot → post (y_doc, y_tracking, y_view, y_done, y_steps, y_lines, y_columns, y_rounds, y_known, y_many, y_styleOf, y_markOf, y_words, y_width, y_note, y_status, y_styles, y_pages, y_stepKind, y_stepA, y_stepB, y_stepC, y_stepOn, y_ofParagraph, y_firstWord, y_wordsOf, y_slack, y_begin, y_needs, y_notes, y_columnOf, y_topOf, y_firstLine, y_label, y_labelWide, y_counter, y_refWide, y_nextWide, y_columnLine, y_columnLines, y_filled, y_foot)) : wpY_layOut post (y_doc, y_tracking, y_view, y_done, y_steps, y_lines, y_columns, y_rounds, y_known, y_many, y_styleOf, y_markOf, y_words, y_width, y_note, y_status, y_styles, y_pages, y_stepKind, y_stepA, y_stepB, y_stepC, y_stepOn, y_ofParagraph, y_firstWord, y_wordsOf, y_slack, y_begin, y_needs, y_notes, y_columnOf, y_topOf, y_firstLine, y_label, y_labelWide, y_counter, y_refWide, y_nextWide, y_columnLine, y_columnLines, y_filled, y_foot) :=
  ⟨dc_n a + 1, yw_12 (p := 0) hv Z hr hlb rfl h (dc_n a) _ _ _ _ _ _ _ _ _ (by omega) rfl (fun q hq => absurd hq (by omega)) (fun q j hq => absurd hq (by omega))⟩
/-- widths -/
theorem la_div1 (x : Int32) : x / 1 = x := by
  apply Int32.toInt_inj.mp
  rw [Int32.toInt_div, show (1 : Int32).toInt = 1 from by decide, Int.tdiv_one]
  exact Int32.toInt_bmod x
theorem yw_m {post : Int32 → SY → Prop} {m n : Nat} {x1 : Int32} (hv : dc_V a) (Z : yz_Z a y_many y_pages y_styles y_styleOf y_markOf y_words y_width y_note y_status) (hm : m < 8) (HF : ∀ q, q ≤ dc_n a → y_firstLine q = nI (la_Fs a y_view rw q)) (HC : yf_C a y_view rw (la_fl a y_view rw (dc_n a)) (dc_n a) 0 y_columns y_columnOf y_topOf y_columnLine y_columnLines y_filled y_foot) : ∀ (d p : Nat), p + d = dc_n a →
    wY_widths_4 post x1 y_doc y_tracking y_view y_done y_steps y_lines y_columns y_rounds y_known n (nI (m + 1)) y_many y_styleOf y_markOf y_words y_width y_note y_status y_styles y_pages y_stepKind y_stepA y_stepB y_stepC y_stepOn y_ofParagraph y_firstWord y_wordsOf y_slack y_begin y_needs y_notes y_columnOf y_topOf y_firstLine y_label y_labelWide y_counter y_refWide (upd y_nextWide m (la_pg a (la_fl a y_view rw (dc_n a)).2.2.2.2.2.2.1 m d p)) y_columnLine y_columnLines y_filled y_foot → wY_widths_12 post (wY_widths_4 post x1 y_doc y_tracking y_view y_done y_steps y_lines y_columns y_rounds y_known n) x1 (nI m) y_doc y_tracking y_view y_done y_steps y_lines y_columns y_rounds y_known y_many y_styleOf y_markOf y_words y_width y_note y_status y_styles y_pages y_stepKind y_stepA y_stepB y_stepC y_stepOn y_ofParagraph y_firstWord y_wordsOf y_slack y_begin y_needs y_notes y_columnOf y_topOf y_firstLine y_label y_labelWide y_counter y_refWide y_nextWide y_columnLine y_columnLines y_filled y_foot (d + 1) (nI p)
  | d, p, hp, h => by
    obtain ⟨e0, h24⟩ := dc_Vn hv
    have em : y_many 0 = nI (dc_n a) := by rw [Z.1, e0]
    have jm := vp_in_nI (n := m) (N := 8) hm (by omega)
    have cm := nI_clamp (n := m) (by omega)
    have f72 : ∀ z0 : Int32, la_dg z0 = la_pg a (la_fl a y_view rw (dc_n a)).2.2.2.2.2.2.1 m d p → wY_widths_72 post (wY_widths_4 post x1 y_doc y_tracking y_view y_done y_steps y_lines y_columns y_rounds y_known n) x1 (nI m) z0 y_doc y_tracking y_view y_done y_steps y_lines y_columns y_rounds y_known y_many y_styleOf y_markOf y_words y_width y_note y_status y_styles y_pages y_stepKind y_stepA y_stepB y_stepC y_stepOn y_ofParagraph y_firstWord y_wordsOf y_slack y_begin y_needs y_notes y_columnOf y_topOf y_firstLine y_label y_labelWide y_counter y_refWide y_nextWide y_columnLine y_columnLines y_filled y_foot := fun z0 ez => by
      unfold wY_widths_72
      exact yr_dg ⟨jm, nm_r (by rw [cm, ez]) (nm_r (nI_1 m) h)⟩
    match d with
    | 0 =>
      refine br_t (by rw [em]; exact nI_le (by omega) (by omega)) (br_t (by rw [em]; exact congrArg nI (by omega)) (f72 1 ?_))
      show la_dg 1 = 1
      decide
    | d + 1 =>
      have hF := la_FsB (rw := rw) (vw := y_view) hv (p := p) (by omega)
      have hn := la_nlP (a := a) (rw := rw) (vw := y_view) (dc_Vw hv (p := p) (by omega)).2
      refine br_f (by rw [em]; exact nI_ge (by omega) (by omega)) ⟨vp_in_nI (by omega) (by omega), ?_⟩
      rw [nI_clamp (by omega), Z.2.2.2.2.1 p (by omega)]
      refine br_c (fun z => ?_) (fun z => nm_r (nI_1 p) (yw_m hv Z hm HF HC d (p + 1) (by omega) ?_))
      · have e2 : y_pages 2 = a 3 := Z.2.1 2 (by omega)
        have el : y_firstLine (nI p).toNatClampNeg = nI (la_Fs a y_view rw p) := by rw [nI_clamp (by omega), HF p (by omega)]
        have ecol := (HC.2.2 p 0 (Or.inl ⟨by omega, by omega⟩)).1
        rw [Nat.add_zero, Nat.add_zero] at ecol
        have epg : la_pg a (la_fl a y_view rw (dc_n a)).2.2.2.2.2.2.1 m (d + 1) p = _ := if_pos z
        unfold wY_widths_38
        refine br_f ?_ ⟨vp_in_nI (by omega) (by omega), ?_⟩
        · rw [em]; exact fun q => absurd ((nI_eq (by omega) (by omega)).mp q) (by omega)
        · rw [el]
          refine ⟨vp_in_nI (by omega) (by omega), ?_, ?_⟩
          · rw [e2]; rcases hv.2.2.1 with q | q <;> (rw [q]; decide)
          · rw [nI_clamp (by omega), ecol, e2]
            refine f72 _ ?_
            rw [epg]
            rcases hv.2.2.1 with q | q
            · rw [q, if_neg (by decide), la_div1]
            · rw [q, if_pos rfl]
      · have epg : la_pg a (la_fl a y_view rw (dc_n a)).2.2.2.2.2.2.1 m (d + 1) p = _ := if_neg z
        rw [epg] at h; exact h
  termination_by d => d
theorem yw_193 {post : Int32 → SY → Prop} (h : ∀ y_refWide, (∀ m, m < 8 → y_refWide m = y_nextWide m) → post 1 (y_doc, y_tracking, y_view, y_done, y_steps, y_lines, y_columns, y_rounds, y_known, y_many, y_styleOf, y_markOf, y_words, y_width, y_note, y_status, y_styles, y_pages, y_stepKind, y_stepA, y_stepB, y_stepC, y_stepOn, y_ofParagraph, y_firstWord, y_wordsOf, y_slack, y_begin, y_needs, y_notes, y_columnOf, y_topOf, y_firstLine, y_label, y_labelWide, y_counter, y_refWide, y_nextWide, y_columnLine, y_columnLines, y_filled, y_foot)) : ∀ (d m : Nat) (y_refWide : Nat → Int32), m + d = 8 → (∀ i, i < m → y_refWide i = y_nextWide i) → wY_widths_193 post y_doc y_tracking y_view y_done y_steps y_lines y_columns y_rounds y_known (d + 1) (nI m) y_many y_styleOf y_markOf y_words y_width y_note y_status y_styles y_pages y_stepKind y_stepA y_stepB y_stepC y_stepOn y_ofParagraph y_firstWord y_wordsOf y_slack y_begin y_needs y_notes y_columnOf y_topOf y_firstLine y_label y_labelWide y_counter y_refWide y_nextWide y_columnLine y_columnLines y_filled y_foot
  | 0, m, y_refWide, hm, H => by
    obtain rfl : m = 8 := by omega
    exact br_t (nI_le (a := 8) (b := 8) (by omega) (by omega)) (h _ H)
  | d + 1, m, y_refWide, hm, H => by
    have jm := vp_in_nI (n := m) (N := 8) (by omega) (by omega)
    refine br_f (nI_ge (b := 8) (by omega) (by omega)) ⟨jm, jm, nm_r (by rw [nI_clamp (by omega)]) (nm_r (nI_1 m) (yw_193 h d (m + 1) _ (by omega) fun i hi => ?_))⟩
    by_cases e : i = m
    · subst e; exact pk_us
    · rw [pk_un e]; exact H i (by omega)
theorem la_inv {x : Int32} {m : Nat} (hm : m < 8) : (-1) - x = nI m ↔ x = -1 - nI m := by
  constructor
  · intro e; rw [← e]; grind
  · intro e; rw [e]; grind
theorem la_invN {m : Nat} (hm : m < 8) : ¬ (0 : Int32) ≤ -1 - nI m := by
  rw [Int32.le_iff_toInt_le, Int32.toInt_sub, nI_toInt (by omega), show (-1 : Int32).toInt = -1 from by decide, show (0 : Int32).toInt = 0 from by decide, Int.bmod_eq_of_le (by omega) (by omega)]
  omega
theorem yw_93 {post : Int32 → SY → Prop} (hv : dc_V a) (Z : yz_Z a y_many y_pages y_styles y_styleOf y_markOf y_words y_width y_note y_status) (hr : ∀ m, m < 8 → y_refWide m = rw m) (hnx : ∀ m, m < 8 → y_nextWide m = la_nx a y_view rw m)
    (h1 : la_ch a y_view rw → ∃ n, wY_widths_193 post y_doc y_tracking y_view y_done y_steps y_lines y_columns y_rounds y_known n 0 y_many y_styleOf y_markOf y_words y_width y_note y_status y_styles y_pages y_stepKind y_stepA y_stepB y_stepC y_stepOn y_ofParagraph y_firstWord y_wordsOf y_slack y_begin y_needs y_notes y_columnOf y_topOf y_firstLine y_label y_labelWide y_counter y_refWide y_nextWide y_columnLine y_columnLines y_filled y_foot) (h0 : ¬ la_ch a y_view rw → post 0 (y_doc, y_tracking, y_view, y_done, y_steps, y_lines, y_columns, y_rounds, y_known, y_many, y_styleOf, y_markOf, y_words, y_width, y_note, y_status, y_styles, y_pages, y_stepKind, y_stepA, y_stepB, y_stepC, y_stepOn, y_ofParagraph, y_firstWord, y_wordsOf, y_slack, y_begin, y_needs, y_notes, y_columnOf, y_topOf, y_firstLine, y_label, y_labelWide, y_counter, y_refWide, y_nextWide, y_columnLine, y_columnLines, y_filled, y_foot)) : ∀ (d k : Nat) (x1 : Int32), k + d = 384 →
    ((x1 = 1 ∧ la_ch a y_view rw) ∨ (x1 = 0 ∧ ∀ q v m, 16 * q + v < k → q < dc_n a → v < dc_w a q → m < 8 → a (79 + 51 * q + 3 * v) = -1 - nI m → la_nx a y_view rw m = rw m)) → wY_widths_93 post y_doc y_tracking y_view y_done y_steps y_lines y_columns y_rounds y_known y_many y_styleOf y_markOf y_words y_width y_note y_status y_styles y_pages y_stepKind y_stepA y_stepB y_stepC y_stepOn y_ofParagraph y_firstWord y_wordsOf y_slack y_begin y_needs y_notes y_columnOf y_topOf y_firstLine y_label y_labelWide y_counter y_refWide y_nextWide y_columnLine y_columnLines y_filled y_foot (d + 1) x1 (nI k)
  | 0, k, x1, hk, H => by
    obtain rfl : k = 384 := by omega
    refine br_t (nI_le (a := 384) (b := 384) (by omega) (by omega)) ?_
    rcases H with ⟨rfl, c⟩ | ⟨rfl, c⟩
    · exact br_f (by decide) (h1 c)
    · refine br_t rfl (h0 ?_)
      rintro ⟨m, m1, m2, q, v, m3, m4, m5⟩
      have h24 := (dc_Vn hv).2
      have h16 := (dc_Vw hv (p := q) (by omega)).2
      exact m2 (c q v m (by omega) m3 m4 m1 m5)
  | d + 1, k, x1, hk, H => by
    obtain ⟨e0, h24⟩ := dc_Vn hv
    have em : y_many 0 = nI (dc_n a) := by rw [Z.1, e0]
    have ed : nI k / 16 = nI (k / 16) := pk_div (d := 16) (by omega) (by omega) (by omega)
    have er : nI k - nI (k / 16) * 16 = nI (k % 16) := by rw [← ed]; exact pk_rem (d := 16) (by omega) (by omega) (by omega)
    have ek : k = 16 * (k / 16) + k % 16 := by omega
    have jk := vp_in_nI (n := k) (N := 768) (by omega) (by omega)
    have ck := nI_clamp (n := k) (by omega)
    have skip : ¬ (k / 16 < dc_n a ∧ k % 16 < dc_w a (k / 16) ∧ ∃ m, m < 8 ∧ a (79 + 51 * (k / 16) + 3 * (k % 16)) = -1 - nI m ∧ ¬ la_nx a y_view rw m = rw m) → ((x1 = 1 ∧ la_ch a y_view rw) ∨ (x1 = 0 ∧ ∀ q v m, 16 * q + v < k + 1 → q < dc_n a → v < dc_w a q → m < 8 → a (79 + 51 * q + 3 * v) = -1 - nI m → la_nx a y_view rw m = rw m)) := fun z => by
      rcases H with c | ⟨c1, c2⟩
      · exact Or.inl c
      · refine Or.inr ⟨c1, fun q v m g1 g2 g3 g4 g5 => ?_⟩
        by_cases e : 16 * q + v < k
        · exact c2 q v m e g2 g3 g4 g5
        · have h16 := (dc_Vw hv (p := q) (by omega)).2
          have eq1 : k / 16 = q := by omega
          have eq2 : k % 16 = v := by omega
          rw [eq1, eq2] at z
          by_cases y : la_nx a y_view rw m = rw m
          · exact y
          · exact absurd ⟨g2, g3, m, g4, g5, y⟩ z
    have next := fun y1 H' => yw_93 hv Z hr hnx h1 h0 d (k + 1) y1 (by omega) H'
    have f142 : ¬ (k / 16 < dc_n a ∧ k % 16 < dc_w a (k / 16) ∧ ∃ m, m < 8 ∧ a (79 + 51 * (k / 16) + 3 * (k % 16)) = -1 - nI m ∧ ¬ la_nx a y_view rw m = rw m) → wY_widths_142 post (wY_widths_93 post y_doc y_tracking y_view y_done y_steps y_lines y_columns y_rounds y_known y_many y_styleOf y_markOf y_words y_width y_note y_status y_styles y_pages y_stepKind y_stepA y_stepB y_stepC y_stepOn y_ofParagraph y_firstWord y_wordsOf y_slack y_begin y_needs y_notes y_columnOf y_topOf y_firstLine y_label y_labelWide y_counter y_refWide y_nextWide y_columnLine y_columnLines y_filled y_foot (d + 1)) x1 (nI k) y_doc y_tracking y_view y_done y_steps y_lines y_columns y_rounds y_known y_many y_styleOf y_markOf y_words y_width y_note y_status y_styles y_pages y_stepKind y_stepA y_stepB y_stepC y_stepOn y_ofParagraph y_firstWord y_wordsOf y_slack y_begin y_needs y_notes y_columnOf y_topOf y_firstLine y_label y_labelWide y_counter y_refWide y_nextWide y_columnLine y_columnLines y_filled y_foot := fun z =>
      br_t rfl (nm_r (nI_1 k) (next x1 (skip z)))
    refine br_f (nI_ge (b := 384) (by omega) (by omega)) ⟨by decide, ?_⟩
    rw [ed, em]
    refine pk_le (dc_n a) (k / 16) (fun z => f142 fun q => absurd q.1 (by omega)) (fun z => ⟨by decide, by decide, vp_in_nI (by omega) (by omega), ?_⟩)
    obtain ⟨ew, h16⟩ := dc_Vw hv (p := k / 16) (by omega)
    rw [er, nI_clamp (by omega), Z.2.2.2.2.2.1 (k / 16) (by omega), ew]
    refine pk_le (dc_w a (k / 16)) (k % 16) (fun y => f142 fun q => absurd q.2.1 (by omega)) (fun y => ⟨jk, ?_⟩)
    have ewi : y_width (nI k).toNatClampNeg = a (79 + 51 * (k / 16) + 3 * (k % 16)) := by
      rw [ck, ← Z.2.2.2.2.2.2.1 (k / 16) (k % 16) (by omega) (by omega)]; exact congrArg y_width ek
    rw [ewi]
    refine br_c (fun w => f142 fun q => ?_) (fun w => br_f (by decide) ⟨jk, ?_⟩)
    · obtain ⟨_, _, m, m1, m2, _⟩ := q
      rw [m2] at w; exact la_invN m1 w
    · obtain ⟨m, hm, e⟩ := la_neg (dc_Vo hv (p := k / 16) (by omega) y).1.1 w
      have e' := (la_inv hm).mp e
      have jm := vp_in_nI (n := m) (N := 8) hm (by omega)
      rw [ewi, e]
      refine ⟨jm, jk, jm, ?_⟩
      rw [nI_clamp (by omega), hnx m hm, hr m hm]
      refine br_c (fun v => nm_r (nI_1 k) (next x1 (skip fun q => ?_))) (fun v => nm_r (nI_1 k) (next 1 (Or.inl ⟨rfl, m, hm, v, k / 16, k % 16, z, y, e'⟩)))
      obtain ⟨_, _, m', m1, m2, m3⟩ := q
      have e2 := (la_inv m1).mpr m2
      rw [e] at e2
      have := (nI_eq (by omega) (by omega)).mp e2
      subst this
      exact m3 v
theorem yw_4 {post : Int32 → SY → Prop} (hv : dc_V a) (Z : yz_Z a y_many y_pages y_styles y_styleOf y_markOf y_words y_width y_note y_status) (hr : ∀ m, m < 8 → y_refWide m = rw m) (HF : ∀ q, q ≤ dc_n a → y_firstLine q = nI (la_Fs a y_view rw q)) (HC : yf_C a y_view rw (la_fl a y_view rw (dc_n a)) (dc_n a) 0 y_columns y_columnOf y_topOf y_columnLine y_columnLines y_filled y_foot)
    (h1 : la_ch a y_view rw → ∀ y_refWide y_nextWide, (∀ m, m < 8 → y_refWide m = la_nx a y_view rw m) → post 1 (y_doc, y_tracking, y_view, y_done, y_steps, y_lines, y_columns, y_rounds, y_known, y_many, y_styleOf, y_markOf, y_words, y_width, y_note, y_status, y_styles, y_pages, y_stepKind, y_stepA, y_stepB, y_stepC, y_stepOn, y_ofParagraph, y_firstWord, y_wordsOf, y_slack, y_begin, y_needs, y_notes, y_columnOf, y_topOf, y_firstLine, y_label, y_labelWide, y_counter, y_refWide, y_nextWide, y_columnLine, y_columnLines, y_filled, y_foot)) (h0 : ¬ la_ch a y_view rw → ∀ y_nextWide, post 0 (y_doc, y_tracking, y_view, y_done, y_steps, y_lines, y_columns, y_rounds, y_known, y_many, y_styleOf, y_markOf, y_words, y_width, y_note, y_status, y_styles, y_pages, y_stepKind, y_stepA, y_stepB, y_stepC, y_stepOn, y_ofParagraph, y_firstWord, y_wordsOf, y_slack, y_begin, y_needs, y_notes, y_columnOf, y_topOf, y_firstLine, y_label, y_labelWide, y_counter, y_refWide, y_nextWide, y_columnLine, y_columnLines, y_filled, y_foot)) : ∀ (d m : Nat) (y_nextWide : Nat → Int32), m + d = 8 → (∀ i, i < m → y_nextWide i = la_nx a y_view rw i) → wY_widths_4 post 0 y_doc y_tracking y_view y_done y_steps y_lines y_columns y_rounds y_known (d + 1) (nI m) y_many y_styleOf y_markOf y_words y_width y_note y_status y_styles y_pages y_stepKind y_stepA y_stepB y_stepC y_stepOn y_ofParagraph y_firstWord y_wordsOf y_slack y_begin y_needs y_notes y_columnOf y_topOf y_firstLine y_label y_labelWide y_counter y_refWide y_nextWide y_columnLine y_columnLines y_filled y_foot
  | 0, m, y_nextWide, hm, H => by
    obtain rfl : m = 8 := by omega
    refine br_t (nI_le (a := 8) (b := 8) (by omega) (by omega)) ⟨385, ?_⟩
    refine yw_93 (k := 0) hv Z hr H (fun c => ⟨9, ?_⟩) (fun c => h0 c _) 384 0 (by omega) (Or.inr ⟨rfl, fun q v m g => absurd g (by omega)⟩)
    exact yw_193 (m := 0) (fun y_refWide G => h1 c _ _ fun m hm => (G m hm).trans (H m hm)) 8 _ (by omega) (fun i hi => absurd hi (by omega))
  | d + 1, m, y_nextWide, hm, H => by
    refine br_f (nI_ge (b := 8) (by omega) (by omega)) ⟨dc_n a + 1, ?_⟩
    refine yw_m (p := 0) hv Z (by omega) HF HC (dc_n a) (by omega) (yw_4 hv Z hr HF HC h1 h0 d (m + 1) _ (by omega) fun i hi => ?_)
    by_cases e : i = m
    · subst e; exact pk_us
    · rw [pk_un e]; exact H i (by omega)
theorem ys_wid {post : Int32 → SY → Prop} (hv : dc_V a) (Z : yz_Z a y_many y_pages y_styles y_styleOf y_markOf y_words y_width y_note y_status) (hr : ∀ m, m < 8 → y_refWide m = rw m) (HF : ∀ q, q ≤ dc_n a → y_firstLine q = nI (la_Fs a y_view rw q)) (HC : yf_C a y_view rw (la_fl a y_view rw (dc_n a)) (dc_n a) 0 y_columns y_columnOf y_topOf y_columnLine y_columnLines y_filled y_foot)
    (h1 : la_ch a y_view rw → ∀ y_refWide y_nextWide, (∀ m, m < 8 → y_refWide m = la_nx a y_view rw m) → post 1 (y_doc, y_tracking, y_view, y_done, y_steps, y_lines, y_columns, y_rounds, y_known, y_many, y_styleOf, y_markOf, y_words, y_width, y_note, y_status, y_styles, y_pages, y_stepKind, y_stepA, y_stepB, y_stepC, y_stepOn, y_ofParagraph, y_firstWord, y_wordsOf, y_slack, y_begin, y_needs, y_notes, y_columnOf, y_topOf, y_firstLine, y_label, y_labelWide, y_counter, y_refWide, y_nextWide, y_columnLine, y_columnLines, y_filled, y_foot)) (h0 : ¬ la_ch a y_view rw → ∀ y_nextWide, post 0 (y_doc, y_tracking, y_view, y_done, y_steps, y_lines, y_columns, y_rounds, y_known, y_many, y_styleOf, y_markOf, y_words, y_width, y_note, y_status, y_styles, y_pages, y_stepKind, y_stepA, y_stepB, y_stepC, y_stepOn, y_ofParagraph, y_firstWord, y_wordsOf, y_slack, y_begin, y_needs, y_notes, y_columnOf, y_topOf, y_firstLine, y_label, y_labelWide, y_counter, y_refWide, y_nextWide, y_columnLine, y_columnLines, y_filled, y_foot)) : wpY_widths post (y_doc, y_tracking, y_view, y_done, y_steps, y_lines, y_columns, y_rounds, y_known, y_many, y_styleOf, y_markOf, y_words, y_width, y_note, y_status, y_styles, y_pages, y_stepKind, y_stepA, y_stepB, y_stepC, y_stepOn, y_ofParagraph, y_firstWord, y_wordsOf, y_slack, y_begin, y_needs, y_notes, y_columnOf, y_topOf, y_firstLine, y_label, y_labelWide, y_counter, y_refWide, y_nextWide, y_columnLine, y_columnLines, y_filled, y_foot) :=
  ⟨9, yw_4 (m := 0) hv Z hr HF HC h1 h0 8 _ (by omega) (fun i hi => absurd hi (by omega))⟩
end
section
/-- what Y knows -/
def ly_OK (a : Nat → Int32) (vw y_rounds y_columns : Int32) (y_label y_refWide y_firstLine y_ofParagraph y_firstWord y_wordsOf y_slack y_begin y_needs y_notes y_columnOf y_topOf y_columnLine y_columnLines y_filled y_foot : Nat → Int32) : Prop := ∃ r, la_fin a vw r ∧ y_rounds = nI r ∧ (∀ q, q < dc_n a → y_label q = la_lb a q) ∧ (∀ m, m < 8 → y_refWide m = la_rk a vw (r - 1) m)
  ∧ yb_B a vw (la_rk a vw (r - 1)) (dc_n a) 0 y_ofParagraph y_firstWord y_wordsOf y_slack y_begin y_needs y_notes ∧ (∀ q, q ≤ dc_n a → y_firstLine q = nI (la_Fs a vw (la_rk a vw (r - 1)) q)) ∧ yf_C a vw (la_rk a vw (r - 1)) (la_fl a vw (la_rk a vw (r - 1)) (dc_n a)) (dc_n a) 0 y_columns y_columnOf y_topOf y_columnLine y_columnLines y_filled y_foot
variable {y_doc y_tracking y_view y_done y_steps y_lines y_columns y_rounds y_known : Int32} {y_many y_styleOf y_markOf y_words y_width y_note y_status y_styles y_pages y_stepKind y_stepA y_stepB y_stepC y_stepOn y_ofParagraph y_firstWord y_wordsOf y_slack y_begin y_needs y_notes y_columnOf y_topOf y_firstLine y_label y_labelWide y_counter y_refWide y_nextWide y_columnLine y_columnLines y_filled y_foot : Nat → Int32} {a : Nat → Int32}
theorem yw_45 {post : SY → Prop} (hv : dc_V a) (Z : yz_Z a y_many y_pages y_styles y_styleOf y_markOf y_words y_width y_note y_status) (HN : yl_N a y_label y_labelWide (dc_n a))
    (h : ∀ y_lines y_columns y_rounds y_refWide y_nextWide y_firstLine y_ofParagraph y_firstWord y_wordsOf y_slack y_begin y_needs y_notes y_columnOf y_topOf y_columnLine y_columnLines y_filled y_foot, ly_OK a y_view y_rounds y_columns y_label y_refWide y_firstLine y_ofParagraph y_firstWord y_wordsOf y_slack y_begin y_needs y_notes y_columnOf y_topOf y_columnLine y_columnLines y_filled y_foot → post (y_doc, y_tracking, y_view, y_done, y_steps, y_lines, y_columns, y_rounds, y_known, y_many, y_styleOf, y_markOf, y_words, y_width, y_note, y_status, y_styles, y_pages, y_stepKind, y_stepA, y_stepB, y_stepC, y_stepOn, y_ofParagraph, y_firstWord, y_wordsOf, y_slack, y_begin, y_needs, y_notes, y_columnOf, y_topOf, y_firstLine, y_label, y_labelWide, y_counter, y_refWide, y_nextWide, y_columnLine, y_columnLines, y_filled, y_foot)) : ∀ (d r : Nat) (y_lines y_columns y_rounds : Int32) (y_refWide y_nextWide y_firstLine y_ofParagraph y_firstWord y_wordsOf y_slack y_begin y_needs y_notes y_columnOf y_topOf y_columnLine y_columnLines y_filled y_foot : Nat → Int32), r + d = 4 → 1 ≤ r → y_rounds = nI (r - 1) →
    (∀ i, i + 1 < r → la_ch a y_view (la_rk a y_view i)) → (∀ m, m < 8 → y_refWide m = la_rk a y_view (r - 1) m) → wY_know_45 post (d + 2) 1 y_doc y_tracking y_view y_done y_steps y_lines y_columns y_rounds y_known y_many y_styleOf y_markOf y_words y_width y_note y_status y_styles y_pages y_stepKind y_stepA y_stepB y_stepC y_stepOn y_ofParagraph y_firstWord y_wordsOf y_slack y_begin y_needs y_notes y_columnOf y_topOf y_firstLine y_label y_labelWide y_counter y_refWide y_nextWide y_columnLine y_columnLines y_filled y_foot
  | d, r, y_lines, y_columns, y_rounds, y_refWide, y_nextWide, y_firstLine, y_ofParagraph, y_firstWord, y_wordsOf, y_slack, y_begin, y_needs, y_notes, y_columnOf, y_topOf, y_columnLine, y_columnLines, y_filled, y_foot, hr4, hr1, hro, hc, hr => by
    have done : (r = 4 ∨ ¬ la_ch a y_view (la_rk a y_view (r - 1))) → la_fin a y_view r := fun z => ⟨hr1, by omega, hc, z⟩
    refine br_f (by decide) (nm_r (e' := nI r) (by rw [hro, nI_1]; exact congrArg nI (by omega)) (ys_lay (rw := la_rk a y_view (r - 1)) hv Z hr (fun q hq => (HN q hq).2) ?_))
    intro y_lines y_columns y_firstLine y_ofParagraph y_firstWord y_wordsOf y_slack y_begin y_needs y_notes y_columnOf y_topOf y_columnLine y_columnLines y_filled y_foot HB HF HC
    have fin : ∀ y_refWide y_nextWide, (∀ m, m < 8 → y_refWide m = la_rk a y_view (r - 1) m) → (r = 4 ∨ ¬ la_ch a y_view (la_rk a y_view (r - 1))) → post (y_doc, y_tracking, y_view, y_done, y_steps, y_lines, y_columns, (nI r), y_known, y_many, y_styleOf, y_markOf, y_words, y_width, y_note, y_status, y_styles, y_pages, y_stepKind, y_stepA, y_stepB, y_stepC, y_stepOn, y_ofParagraph, y_firstWord, y_wordsOf, y_slack, y_begin, y_needs, y_notes, y_columnOf, y_topOf, y_firstLine, y_label, y_labelWide, y_counter, y_refWide, y_nextWide, y_columnLine, y_columnLines, y_filled, y_foot) := fun y_refWide y_nextWide hr z =>
      h _ _ _ _ _ _ _ _ _ _ _ _ _ _ _ _ _ _ _ ⟨r, done z, rfl, fun q hq => (HN q hq).1, hr, HB, HF, HC⟩
    refine pk_le 4 r (fun z => br_t rfl (fin _ _ hr (Or.inl (by omega)))) (fun z => ys_wid hv Z hr HF HC (fun c y_refWide y_nextWide g => br_f (by decide) ?_) (fun c y_nextWide => br_t rfl (br_t rfl (fin _ _ hr (Or.inr c)))))
    match d, hr4 with
    | 0, hr4 => exact absurd z (by omega)
    | d + 1, hr4 =>
      refine yw_45 hv Z HN h d (r + 1) _ _ _ _ _ _ _ _ _ _ _ _ _ _ _ _ _ _ _ (by omega) (by omega) (congrArg nI (by omega)) (fun i hi => ?_) (fun m hm => ?_)
      · by_cases e : i = r - 1
        · subst e; exact c
        · exact hc i (by omega)
      · rw [g m hm, show r + 1 - 1 = r - 1 + 1 from by omega]; rfl
  termination_by d => d
theorem yw_19 {post : SY → Prop} (h : ∀ y_refWide, (∀ m, m < 8 → y_refWide m = 1) → ∃ n, wY_know_45 post n 1 y_doc y_tracking y_view y_done y_steps y_lines y_columns 0 y_known y_many y_styleOf y_markOf y_words y_width y_note y_status y_styles y_pages y_stepKind y_stepA y_stepB y_stepC y_stepOn y_ofParagraph y_firstWord y_wordsOf y_slack y_begin y_needs y_notes y_columnOf y_topOf y_firstLine y_label y_labelWide y_counter y_refWide y_nextWide y_columnLine y_columnLines y_filled y_foot) : ∀ (d m : Nat) (y_refWide : Nat → Int32), m + d = 8 → (∀ i, i < m → y_refWide i = 1) → wY_know_19 post y_doc y_tracking y_view y_done y_steps y_lines y_columns y_rounds y_known (d + 1) (nI m) y_many y_styleOf y_markOf y_words y_width y_note y_status y_styles y_pages y_stepKind y_stepA y_stepB y_stepC y_stepOn y_ofParagraph y_firstWord y_wordsOf y_slack y_begin y_needs y_notes y_columnOf y_topOf y_firstLine y_label y_labelWide y_counter y_refWide y_nextWide y_columnLine y_columnLines y_filled y_foot
  | 0, m, y_refWide, hm, H => by
    obtain rfl : m = 8 := by omega
    exact br_t (nI_le (a := 8) (b := 8) (by omega) (by omega)) (h _ H)
  | d + 1, m, y_refWide, hm, H => by
    refine br_f (nI_ge (b := 8) (by omega) (by omega)) ⟨vp_in_nI (by omega) (by omega), nm_r (by rw [nI_clamp (by omega)]) (nm_r (nI_1 m) (yw_19 h d (m + 1) _ (by omega) fun i hi => ?_))⟩
    by_cases e : i = m
    · subst e; exact pk_us
    · rw [pk_un e]; exact H i (by omega)
theorem ys_know {post : SY → Prop} (hv : dc_V a) (Z : yz_Z a y_many y_pages y_styles y_styleOf y_markOf y_words y_width y_note y_status) (hk : y_known = 0 ∨ y_known = 1) (hok : y_known = 1 → ly_OK a y_view y_rounds y_columns y_label y_refWide y_firstLine y_ofParagraph y_firstWord y_wordsOf y_slack y_begin y_needs y_notes y_columnOf y_topOf y_columnLine y_columnLines y_filled y_foot)
    (h : ∀ y_lines y_columns y_rounds y_label y_labelWide y_counter y_refWide y_nextWide y_firstLine y_ofParagraph y_firstWord y_wordsOf y_slack y_begin y_needs y_notes y_columnOf y_topOf y_columnLine y_columnLines y_filled y_foot, ly_OK a y_view y_rounds y_columns y_label y_refWide y_firstLine y_ofParagraph y_firstWord y_wordsOf y_slack y_begin y_needs y_notes y_columnOf y_topOf y_columnLine y_columnLines y_filled y_foot → post (y_doc, y_tracking, y_view, y_done, y_steps, y_lines, y_columns, y_rounds, 1, y_many, y_styleOf, y_markOf, y_words, y_width, y_note, y_status, y_styles, y_pages, y_stepKind, y_stepA, y_stepB, y_stepC, y_stepOn, y_ofParagraph, y_firstWord, y_wordsOf, y_slack, y_begin, y_needs, y_notes, y_columnOf, y_topOf, y_firstLine, y_label, y_labelWide, y_counter, y_refWide, y_nextWide, y_columnLine, y_columnLines, y_filled, y_foot)) : wpY_know post (y_doc, y_tracking, y_view, y_done, y_steps, y_lines, y_columns, y_rounds, y_known, y_many, y_styleOf, y_markOf, y_words, y_width, y_note, y_status, y_styles, y_pages, y_stepKind, y_stepA, y_stepB, y_stepC, y_stepOn, y_ofParagraph, y_firstWord, y_wordsOf, y_slack, y_begin, y_needs, y_notes, y_columnOf, y_topOf, y_firstLine, y_label, y_labelWide, y_counter, y_refWide, y_nextWide, y_columnLine, y_columnLines, y_filled, y_foot) := by
  refine br_c (fun z => ?_) (fun z => ?_)
  · refine ys_lab hv Z ?_
    intro y_label y_labelWide y_counter HN
    refine ⟨9, yw_19 (m := 0) (fun y_refWide hr => ⟨5, ?_⟩) 8 _ (by omega) (fun i hi => absurd hi (by omega))⟩
    exact yw_45 (d := 3) (r := 1) hv Z HN (fun _ _ _ _ _ _ _ _ _ _ _ _ _ _ _ _ _ _ _ G => h _ _ _ _ _ _ _ _ _ _ _ _ _ _ _ _ _ _ _ _ _ _ G) _ _ _ _ _ _ _ _ _ _ _ _ _ _ _ _ _ _ _ (by omega) (by omega) rfl (fun i hi => absurd hi (by omega)) hr
  · obtain rfl := hk.resolve_left z
    exact h _ _ _ _ y_labelWide y_counter _ y_nextWide _ _ _ _ _ _ _ _ _ _ _ _ _ _ (hok rfl)
end
section
def re_A (a b : Nat → Int32) : Nat → Nat → Int32 := fun d => if d = 0 then a else b
theorem re_As {a b c : Nat → Int32} : ya_s (re_A a b) 0 c = re_A c b := by
  funext d
  by_cases e : d = 0
  · subst e; exact ya_ss.trans rfl
  · rw [ya_sn e]; unfold re_A; rw [if_neg e, if_neg e]
theorem re_As1 {A : Nat → Nat → Int32} {a b c : Nat → Int32} (h : ∀ d, d < 2 → A d = re_A a b d) : ∀ d, d < 2 → ya_s A 1 c d = re_A a c d := fun d hd => by
  by_cases e : d = 1
  · subst e; exact ya_ss.trans rfl
  · obtain rfl : d = 0 := by omega
    rw [ya_sn e, h 0 hd]; rfl
theorem re_Ac {A B : Nat → Nat → Int32} {y_many y_pages y_styles y_styleOf y_markOf y_words y_width y_note y_status : Nat → Int32} (h : ∀ d, d < 2 → A d = B d) (H : ya_A A y_many y_pages y_styles y_styleOf y_markOf y_words y_width y_note y_status) : ya_A B y_many y_pages y_styles y_styleOf y_markOf y_words y_width y_note y_status := by
  obtain ⟨h1, h2, h3, h4, h5, h6, h7, h8, h9⟩ := H
  exact ⟨fun d hd => by rw [← h d hd]; exact h1 d hd, fun d j hd => by rw [← h d hd]; exact h2 d j hd, fun d j hd => by rw [← h d hd]; exact h3 d j hd, fun d j hd => by rw [← h d hd]; exact h4 d j hd, fun d j hd => by rw [← h d hd]; exact h5 d j hd, fun d j hd => by rw [← h d hd]; exact h6 d j hd, fun d j w hd => by rw [← h d hd]; exact h7 d j w hd, fun d j w hd => by rw [← h d hd]; exact h8 d j w hd, fun d j w hd => by rw [← h d hd]; exact h9 d j w hd⟩
/-- steps: X keeps the documents, Y how they came about -/
def re_S (b g s : Nat) (D : Nat → Nat → Int32) (x_slotNow x_stepsBack x_stepsAgain y_done y_steps : Int32) (x_doc x_kept y_many y_pages y_styles y_styleOf y_markOf y_words y_width y_note y_status y_stepKind y_stepA y_stepB y_stepC y_stepOn : Nat → Int32) : Prop :=
  (x_slotNow = nI s ∧ s < 21) ∧ (x_stepsBack = nI b ∧ x_stepsAgain = nI g ∧ y_done = nI b ∧ y_steps = nI (b + g) ∧ b + g ≤ 20)
  ∧ (∀ j, j < b + g → D (j + 1) = (op_go (y_stepKind j) (y_stepA j) (y_stepB j) (y_stepC j) (y_stepOn j) (D j)).2) ∧ (∀ j, j ≤ b + g → dc_V (D j))
  ∧ x_doc = D b ∧ (∀ j i, j ≤ b + g → i < 1300 → x_kept (1300 * ((s + 21 + j - b) % 21) + i) = D j i) ∧ ya_A (re_A (D b) (D 0)) y_many y_pages y_styles y_styleOf y_markOf y_words y_width y_note y_status ∧ (∀ j, j < 20 → y_stepOn j = 0 ∨ y_stepOn j = 1)
/-- what both are knowing of the layout -/
def re_L (x_view y_view x_stale y_known x_rounds x_columnCount y_rounds y_columns : Int32) (x_doc x_labelValue x_lineCount x_wordLine x_wordLeft x_lineFirst x_lineWords x_lineLeft x_lineSlack x_lineNotes x_lineColumn x_lineTop x_columnParagraph x_columnFirst x_columnLines x_columnNotes x_columnFilled y_label y_refWide y_firstLine y_ofParagraph y_firstWord y_wordsOf y_slack y_begin y_needs y_notes y_columnOf y_topOf y_columnLine y_columnLines y_filled y_foot : Nat → Int32) : Prop :=
  x_view = y_view ∧ (x_stale = 0 ∨ x_stale = 1) ∧ (y_known = 0 ∨ y_known = 1) ∧ (x_stale = 0 → lx_OK x_doc x_view x_rounds x_columnCount x_labelValue x_lineCount x_wordLine x_wordLeft x_lineFirst x_lineWords x_lineLeft x_lineSlack x_lineNotes x_lineColumn x_lineTop x_columnParagraph x_columnFirst x_columnLines x_columnNotes x_columnFilled) ∧ (y_known = 1 → ly_OK x_doc y_view y_rounds y_columns y_label y_refWide y_firstLine y_ofParagraph y_firstWord y_wordsOf y_slack y_begin y_needs y_notes y_columnOf y_topOf y_columnLine y_columnLines y_filled y_foot)
def i_Rel (k : Nat) (u : SX) (v : SY) : Prop := match u with
  | (x_tracking, x_view, x_slotNow, x_stepsBack, x_stepsAgain, x_stale, x_rounds, x_columnCount, x_doc, x_kept, x_referenceWidth, x_labelValue, x_labelWidth, x_lineCount, x_gapBefore, x_headNeeds, x_groupNeeds, x_wordLine, x_wordLeft, x_lineFirst, x_lineWords, x_lineLeft, x_lineSlack, x_lineNotes, x_lineColumn, x_lineTop, x_columnParagraph, x_columnFirst, x_columnLines, x_columnNotes, x_columnFilled) => match v with
    | (y_doc, y_tracking, y_view, y_done, y_steps, y_lines, y_columns, y_rounds, y_known, y_many, y_styleOf, y_markOf, y_words, y_width, y_note, y_status, y_styles, y_pages, y_stepKind, y_stepA, y_stepB, y_stepC, y_stepOn, y_ofParagraph, y_firstWord, y_wordsOf, y_slack, y_begin, y_needs, y_notes, y_columnOf, y_topOf, y_firstLine, y_label, y_labelWide, y_counter, y_refWide, y_nextWide, y_columnLine, y_columnLines, y_filled, y_foot) => (x_tracking = y_tracking ∧ (y_tracking = 0 ∨ y_tracking = 1) ∧ y_doc = 0)
      ∧ (∃ b g s D, re_S b g s D x_slotNow x_stepsBack x_stepsAgain y_done y_steps x_doc x_kept y_many y_pages y_styles y_styleOf y_markOf y_words y_width y_note y_status y_stepKind y_stepA y_stepB y_stepC y_stepOn)
      ∧ re_L x_view y_view x_stale y_known x_rounds x_columnCount y_rounds y_columns x_doc x_labelValue x_lineCount x_wordLine x_wordLeft x_lineFirst x_lineWords x_lineLeft x_lineSlack x_lineNotes x_lineColumn x_lineTop x_columnParagraph x_columnFirst x_columnLines x_columnNotes x_columnFilled y_label y_refWide y_firstLine y_ofParagraph y_firstWord y_wordsOf y_slack y_begin y_needs y_notes y_columnOf y_topOf y_columnLine y_columnLines y_filled y_foot
theorem i_up {k : Nat} {u : SX} {v : SY} (h : i_Rel k u v) : i_Rel (k + 4) u v := h
variable {x_tracking x_view x_slotNow x_stepsBack x_stepsAgain x_stale x_rounds x_columnCount : Int32} {x_doc x_kept x_referenceWidth x_labelValue x_labelWidth x_lineCount x_gapBefore x_headNeeds x_groupNeeds x_wordLine x_wordLeft x_lineFirst x_lineWords x_lineLeft x_lineSlack x_lineNotes x_lineColumn x_lineTop x_columnParagraph x_columnFirst x_columnLines x_columnNotes x_columnFilled : Nat → Int32} {y_doc y_tracking y_view y_done y_steps y_lines y_columns y_rounds y_known : Int32} {y_many y_styleOf y_markOf y_words y_width y_note y_status y_styles y_pages y_stepKind y_stepA y_stepB y_stepC y_stepOn y_ofParagraph y_firstWord y_wordsOf y_slack y_begin y_needs y_notes y_columnOf y_topOf y_firstLine y_label y_labelWide y_counter y_refWide y_nextWide y_columnLine y_columnLines y_filled y_foot : Nat → Int32}
/-- a call that is not kept -/
theorem re_no {k : Nat} {Q : Int32 → SY → Prop} {w p b c r : Int32} {a : Nat → Int32} (I : i_Rel k (x_tracking, x_view, x_slotNow, x_stepsBack, x_stepsAgain, x_stale, x_rounds, x_columnCount, x_doc, x_kept, x_referenceWidth, x_labelValue, x_labelWidth, x_lineCount, x_gapBefore, x_headNeeds, x_groupNeeds, x_wordLine, x_wordLeft, x_lineFirst, x_lineWords, x_lineLeft, x_lineSlack, x_lineNotes, x_lineColumn, x_lineTop, x_columnParagraph, x_columnFirst, x_columnLines, x_columnNotes, x_columnFilled) (y_doc, y_tracking, y_view, y_done, y_steps, y_lines, y_columns, y_rounds, y_known, y_many, y_styleOf, y_markOf, y_words, y_width, y_note, y_status, y_styles, y_pages, y_stepKind, y_stepA, y_stepB, y_stepC, y_stepOn, y_ofParagraph, y_firstWord, y_wordsOf, y_slack, y_begin, y_needs, y_notes, y_columnOf, y_topOf, y_firstLine, y_label, y_labelWide, y_counter, y_refWide, y_nextWide, y_columnLine, y_columnLines, y_filled, y_foot)) (e : op_go w p b c x_tracking x_doc = (r, a)) (hr : r < 0 ∨ (w = 8 ∧ r = 0)) (ha : a = x_doc)
    (h : ∀ y_many y_pages y_styles y_styleOf y_markOf y_words y_width y_note y_status, i_Rel (k + 4) (x_tracking, x_view, x_slotNow, x_stepsBack, x_stepsAgain, x_stale, x_rounds, x_columnCount, x_doc, x_kept, x_referenceWidth, x_labelValue, x_labelWidth, x_lineCount, x_gapBefore, x_headNeeds, x_groupNeeds, x_wordLine, x_wordLeft, x_lineFirst, x_lineWords, x_lineLeft, x_lineSlack, x_lineNotes, x_lineColumn, x_lineTop, x_columnParagraph, x_columnFirst, x_columnLines, x_columnNotes, x_columnFilled) (y_doc, y_tracking, y_view, y_done, y_steps, y_lines, y_columns, y_rounds, y_known, y_many, y_styleOf, y_markOf, y_words, y_width, y_note, y_status, y_styles, y_pages, y_stepKind, y_stepA, y_stepB, y_stepC, y_stepOn, y_ofParagraph, y_firstWord, y_wordsOf, y_slack, y_begin, y_needs, y_notes, y_columnOf, y_topOf, y_firstLine, y_label, y_labelWide, y_counter, y_refWide, y_nextWide, y_columnLine, y_columnLines, y_filled, y_foot) → Q r (y_doc, y_tracking, y_view, y_done, y_steps, y_lines, y_columns, y_rounds, y_known, y_many, y_styleOf, y_markOf, y_words, y_width, y_note, y_status, y_styles, y_pages, y_stepKind, y_stepA, y_stepB, y_stepC, y_stepOn, y_ofParagraph, y_firstWord, y_wordsOf, y_slack, y_begin, y_needs, y_notes, y_columnOf, y_topOf, y_firstLine, y_label, y_labelWide, y_counter, y_refWide, y_nextWide, y_columnLine, y_columnLines, y_filled, y_foot)) : wpY_go Q (y_doc, y_tracking, y_view, y_done, y_steps, y_lines, y_columns, y_rounds, y_known, y_many, y_styleOf, y_markOf, y_words, y_width, y_note, y_status, y_styles, y_pages, y_stepKind, y_stepA, y_stepB, y_stepC, y_stepOn, y_ofParagraph, y_firstWord, y_wordsOf, y_slack, y_begin, y_needs, y_notes, y_columnOf, y_topOf, y_firstLine, y_label, y_labelWide, y_counter, y_refWide, y_nextWide, y_columnLine, y_columnLines, y_filled, y_foot) w p b c := by
  obtain ⟨⟨i1, i2, i3⟩, ⟨b', g, s, D, S1, S2, S3, S4, S5, S6, S7, S8⟩, IL⟩ := I
  have eA : re_A (D b') (D 0) 0 = x_doc := S5.symm
  refine ys_no (A := re_A (D b') (D 0)) i3 S7 (by rw [eA, S5]; exact S4 b' (by omega)) (a := a) (by rw [eA, ← i1]; exact e) hr (by rw [eA]; exact ha) ?_
  intro y_many y_pages y_styles y_styleOf y_markOf y_words y_width y_note y_status H
  exact h _ _ _ _ _ _ _ _ _ ⟨⟨i1, i2, i3⟩, ⟨b', g, s, D, S1, S2, S3, S4, S5, S6, H, S8⟩, IL⟩
/-- a call that is kept -/
theorem re_ok {k : Nat} {Q : Int32 → SY → Prop} {w p b c r : Int32} {a : Nat → Int32} {s n : Nat} (hs : x_slotNow = nI s) (h21 : s < 21) (hn : x_stepsBack = nI n) (h20 : n ≤ 20) (I : i_Rel k (x_tracking, x_view, x_slotNow, x_stepsBack, x_stepsAgain, x_stale, x_rounds, x_columnCount, x_doc, x_kept, x_referenceWidth, x_labelValue, x_labelWidth, x_lineCount, x_gapBefore, x_headNeeds, x_groupNeeds, x_wordLine, x_wordLeft, x_lineFirst, x_lineWords, x_lineLeft, x_lineSlack, x_lineNotes, x_lineColumn, x_lineTop, x_columnParagraph, x_columnFirst, x_columnLines, x_columnNotes, x_columnFilled) (y_doc, y_tracking, y_view, y_done, y_steps, y_lines, y_columns, y_rounds, y_known, y_many, y_styleOf, y_markOf, y_words, y_width, y_note, y_status, y_styles, y_pages, y_stepKind, y_stepA, y_stepB, y_stepC, y_stepOn, y_ofParagraph, y_firstWord, y_wordsOf, y_slack, y_begin, y_needs, y_notes, y_columnOf, y_topOf, y_firstLine, y_label, y_labelWide, y_counter, y_refWide, y_nextWide, y_columnLine, y_columnLines, y_filled, y_foot)) (e : op_go w p b c x_tracking x_doc = (r, a)) (hr : ¬ (r < 0 ∨ (w = 8 ∧ r = 0)))
    (h : ∀ y_doc y_done y_steps y_known y_many y_pages y_styles y_styleOf y_markOf y_words y_width y_note y_status y_stepKind y_stepA y_stepB y_stepC y_stepOn, i_Rel (k + 4) (x_tracking, x_view, (nI ((s + 1) % 21)), (nI (if n < 20 then n + 1 else n)), 0, 1, x_rounds, x_columnCount, a, (st_b x_kept (1300 * ((s + 1) % 21)) 1300 a), x_referenceWidth, x_labelValue, x_labelWidth, x_lineCount, x_gapBefore, x_headNeeds, x_groupNeeds, x_wordLine, x_wordLeft, x_lineFirst, x_lineWords, x_lineLeft, x_lineSlack, x_lineNotes, x_lineColumn, x_lineTop, x_columnParagraph, x_columnFirst, x_columnLines, x_columnNotes, x_columnFilled) (y_doc, y_tracking, y_view, y_done, y_steps, y_lines, y_columns, y_rounds, y_known, y_many, y_styleOf, y_markOf, y_words, y_width, y_note, y_status, y_styles, y_pages, y_stepKind, y_stepA, y_stepB, y_stepC, y_stepOn, y_ofParagraph, y_firstWord, y_wordsOf, y_slack, y_begin, y_needs, y_notes, y_columnOf, y_topOf, y_firstLine, y_label, y_labelWide, y_counter, y_refWide, y_nextWide, y_columnLine, y_columnLines, y_filled, y_foot) → Q r (y_doc, y_tracking, y_view, y_done, y_steps, y_lines, y_columns, y_rounds, y_known, y_many, y_styleOf, y_markOf, y_words, y_width, y_note, y_status, y_styles, y_pages, y_stepKind, y_stepA, y_stepB, y_stepC, y_stepOn, y_ofParagraph, y_firstWord, y_wordsOf, y_slack, y_begin, y_needs, y_notes, y_columnOf, y_topOf, y_firstLine, y_label, y_labelWide, y_counter, y_refWide, y_nextWide, y_columnLine, y_columnLines, y_filled, y_foot)) : wpY_go Q (y_doc, y_tracking, y_view, y_done, y_steps, y_lines, y_columns, y_rounds, y_known, y_many, y_styleOf, y_markOf, y_words, y_width, y_note, y_status, y_styles, y_pages, y_stepKind, y_stepA, y_stepB, y_stepC, y_stepOn, y_ofParagraph, y_firstWord, y_wordsOf, y_slack, y_begin, y_needs, y_notes, y_columnOf, y_topOf, y_firstLine, y_label, y_labelWide, y_counter, y_refWide, y_nextWide, y_columnLine, y_columnLines, y_filled, y_foot) w p b c := by
  obtain ⟨⟨i1, i2, i3⟩, ⟨b', g, s', D, S1, S2, S3, S4, S5, S6, S7, S8⟩, IL1, IL2, IL3, IL4, IL5⟩ := I
  obtain ⟨T1, T2, T3, T4, T5⟩ := S2
  obtain rfl : s = s' := (nI_eq (by omega) (by omega)).mp (hs.symm.trans S1.1)
  obtain rfl : n = b' := (nI_eq (by omega) (by omega)).mp (hn.symm.trans T1)
  have eA : re_A (D n) (D 0) 0 = x_doc := S5.symm
  have hv : dc_V (re_A (D n) (D 0) 0) := by rw [eA, S5]; exact S4 n (by omega)
  have hva : dc_V a := by have := op_goV (w := w) (p := p) (b := b) (c := c) (on := x_tracking) (a := x_doc) (by rw [S5]; exact S4 n (by omega)); rw [e] at this; exact this
  have e' : op_go w p b c y_tracking (re_A (D n) (D 0) 0) = (r, a) := by rw [eA, ← i1]; exact e
  have e2 : a = (op_go w p b c y_tracking (D n)).2 := by rw [← S5, ← i1, e]
  have fresh : re_L x_view y_view 1 0 x_rounds x_columnCount y_rounds y_columns a x_labelValue x_lineCount x_wordLine x_wordLeft x_lineFirst x_lineWords x_lineLeft x_lineSlack x_lineNotes x_lineColumn x_lineTop x_columnParagraph x_columnFirst x_columnLines x_columnNotes x_columnFilled y_label y_refWide y_firstLine y_ofParagraph y_firstWord y_wordsOf y_slack y_begin y_needs y_notes y_columnOf y_topOf y_columnLine y_columnLines y_filled y_foot :=
    ⟨IL1, Or.inr rfl, Or.inl rfl, fun z => absurd z (by decide), fun z => absurd z (by decide)⟩
  by_cases hlt : n < 20
  · refine ys_go1 (A := re_A (D n) (D 0)) (m := n) i3 S7 hv e' hr i2 T3 hlt ?_
    intro y_many y_pages y_styles y_styleOf y_markOf y_words y_width y_note y_status H
    rw [re_As] at H
    refine h _ _ _ _ _ _ _ _ _ _ _ _ _ _ _ _ _ _ ⟨⟨i1, i2, i3⟩, ⟨n + 1, 0, (s + 1) % 21, fun j => if j ≤ n then D j else a, ⟨rfl, by omega⟩, ⟨by rw [if_pos hlt], rfl, rfl, rfl, by omega⟩, fun j hj => ?_, fun j hj => ?_, ?_, fun j i hj hi => ?_, ?_, fun j hj => ?_⟩, fresh⟩
    · by_cases q : j = n
      · subst q
        rw [pk_us, pk_us, pk_us, pk_us, pk_us]
        show (if j + 1 ≤ j then D (j + 1) else a) = (op_go w p b c y_tracking (if j ≤ j then D j else a)).2
        rw [if_neg (by omega), if_pos (Nat.le_refl _)]; exact e2
      · rw [pk_un q, pk_un q, pk_un q, pk_un q, pk_un q]
        show (if j + 1 ≤ n then D (j + 1) else a) = (op_go _ _ _ _ _ (if j ≤ n then D j else a)).2
        rw [if_pos (by omega), if_pos (by omega)]; exact S3 j (by omega)
    · show dc_V (if j ≤ n then D j else a)
      split
      · exact S4 j (by omega)
      · exact hva
    · show a = if n + 1 ≤ n then D (n + 1) else a
      rw [if_neg (by omega)]
    · show _ = (if j ≤ n then D j else a) i
      by_cases q : j ≤ n
      · rw [if_pos q, st_out (by omega), show ((s + 1) % 21 + 21 + j - (n + 1)) % 21 = (s + 21 + j - n) % 21 from by omega]
        exact S6 j i (by omega) hi
      · obtain rfl : j = n + 1 := by omega
        rw [if_neg q, show ((s + 1) % 21 + 21 + (n + 1) - (n + 1)) % 21 = (s + 1) % 21 from by omega, st_in (by omega) (by omega)]
        exact congrArg a (by omega)
    · show ya_A (re_A (if n + 1 ≤ n then D (n + 1) else a) (if 0 ≤ n then D 0 else a)) y_many y_pages y_styles y_styleOf y_markOf y_words y_width y_note y_status
      rw [if_neg (by omega), if_pos (by omega)]; exact H
    · by_cases q : j = n
      · subst q; rw [pk_us]; exact i2
      · rw [pk_un q]; exact S8 j hj
  · obtain rfl : n = 20 := by omega
    obtain rfl : g = 0 := by omega
    refine ys_go2 (A := re_A (D 20) (D 0)) i3 S7 hv (S4 0 (by omega)) e' hr i2 T3 S8 ?_
    intro y_many y_pages y_styles y_styleOf y_markOf y_words y_width y_note y_status H
    have H2 : ya_A (re_A a (D 1)) y_many y_pages y_styles y_styleOf y_markOf y_words y_width y_note y_status := by
      rw [re_As] at H
      refine re_Ac ?_ H
      have q := re_As1 (A := re_A a (D 0)) (a := a) (b := D 0) (c := (op_go (y_stepKind 0) (y_stepA 0) (y_stepB 0) (y_stepC 0) (y_stepOn 0) (D 0)).2) (fun d hd => rfl)
      rw [← S3 0 (by omega)] at q
      have e1 : re_A (D 20) (D 0) 1 = D 0 := rfl
      rw [e1, ← S3 0 (by omega)]
      exact q
    have cpv : ∀ (f : Nat → Int32) (v : Int32) (j : Nat), j < 19 → upd (cp_b f 1 0 19) 19 v j = f (j + 1) := fun f v j hj => by
      rw [pk_un (by omega), cp_in (by omega) (by omega)]; exact congrArg f (by omega)
    refine h _ _ _ _ _ _ _ _ _ _ _ _ _ _ _ _ _ _ ⟨⟨i1, i2, rfl⟩, ⟨20, 0, (s + 1) % 21, fun j => if j ≤ 19 then D (j + 1) else a, ⟨rfl, by omega⟩, ⟨rfl, rfl, rfl, rfl, by omega⟩, fun j hj => ?_, fun j hj => ?_, rfl, fun j i hj hi => ?_, H2, fun j hj => ?_⟩, fresh⟩
    · by_cases q : j = 19
      · subst q
        rw [pk_us, pk_us, pk_us, pk_us, pk_us]
        show a = (op_go w p b c y_tracking (D 20)).2
        exact e2
      · rw [cpv _ _ j (by omega), cpv _ _ j (by omega), cpv _ _ j (by omega), cpv _ _ j (by omega), cpv _ _ j (by omega)]
        show (if j + 1 ≤ 19 then D (j + 1 + 1) else a) = (op_go _ _ _ _ _ (if j ≤ 19 then D (j + 1) else a)).2
        rw [if_pos (by omega), if_pos (by omega)]; exact S3 (j + 1) (by omega)
    · show dc_V (if j ≤ 19 then D (j + 1) else a)
      split
      · exact S4 (j + 1) (by omega)
      · exact hva
    · show _ = (if j ≤ 19 then D (j + 1) else a) i
      by_cases q : j ≤ 19
      · rw [if_pos q, st_out (by omega), show ((s + 1) % 21 + 21 + j - 20) % 21 = (s + 21 + (j + 1) - 20) % 21 from by omega]
        exact S6 (j + 1) i (by omega) hi
      · obtain rfl : j = 20 := by omega
        rw [if_neg q, show ((s + 1) % 21 + 21 + 20 - 20) % 21 = (s + 1) % 21 from by omega, st_in (by omega) (by omega)]
        exact congrArg a (by omega)
    · by_cases q : j = 19
      · subst q; rw [pk_us]; exact i2
      · rw [cpv _ _ j (by omega)]; exact S8 (j + 1) (by omega)
end
section
theorem op_g0 {p b c on : Int32} {a : Nat → Int32} : op_go 0 p b c on a = op_ins a p b := if_pos rfl
theorem op_g1 {p b c on : Int32} {a : Nat → Int32} : op_go 1 p b c on a = op_rem a p := (if_neg (by decide)).trans (if_pos rfl)
theorem op_g2 {p b c on : Int32} {a : Nat → Int32} : op_go 2 p b c on a = op_sty a p b := (if_neg (by decide)).trans ((if_neg (by decide)).trans (if_pos rfl))
theorem op_g3 {p b c on : Int32} {a : Nat → Int32} : op_go 3 p b c on a = op_mrk a p b := (if_neg (by decide)).trans ((if_neg (by decide)).trans ((if_neg (by decide)).trans (if_pos rfl)))
theorem op_g4 {p b c on : Int32} {a : Nat → Int32} : op_go 4 p b c on a = op_add a p b c on := (if_neg (by decide)).trans ((if_neg (by decide)).trans ((if_neg (by decide)).trans ((if_neg (by decide)).trans (if_pos rfl))))
theorem op_g5 {p b c on : Int32} {a : Nat → Int32} : op_go 5 p b c on a = op_drp a p on := (if_neg (by decide)).trans ((if_neg (by decide)).trans ((if_neg (by decide)).trans ((if_neg (by decide)).trans ((if_neg (by decide)).trans (if_pos rfl)))))
theorem op_g6 {p b c on : Int32} {a : Nat → Int32} : op_go 6 p b c on a = op_stl a p b c := (if_neg (by decide)).trans ((if_neg (by decide)).trans ((if_neg (by decide)).trans ((if_neg (by decide)).trans ((if_neg (by decide)).trans ((if_neg (by decide)).trans (if_pos rfl))))))
theorem op_g7 {p b c on : Int32} {a : Nat → Int32} : op_go 7 p b c on a = op_pag a p b c := (if_neg (by decide)).trans ((if_neg (by decide)).trans ((if_neg (by decide)).trans ((if_neg (by decide)).trans ((if_neg (by decide)).trans ((if_neg (by decide)).trans ((if_neg (by decide)).trans (if_pos rfl)))))))
theorem op_g8 {p b c on : Int32} {a : Nat → Int32} : op_go 8 p b c on a = op_res a p (if b = 1 then 1 else 0) := (if_neg (by decide)).trans ((if_neg (by decide)).trans ((if_neg (by decide)).trans ((if_neg (by decide)).trans ((if_neg (by decide)).trans ((if_neg (by decide)).trans ((if_neg (by decide)).trans (if_neg (by decide))))))))
theorem dc_rs0 {p : Nat} {un : Int32} (hu : ¬ (0 : Int32) = un) : ∀ {w : Nat} {a : Nat → Int32}, dc_cg a p w = 0 → dc_rs p un w a = a
  | 0, _, _ => rfl
  | w + 1, a, h => by
    have h' : dc_cg a p w + (if a (81 + 51 * p + 3 * w) = 0 then 0 else 1) = 0 := h
    have z : a (81 + 51 * p + 3 * w) = 0 := by
      by_cases q : a (81 + 51 * p + 3 * w) = 0
      · exact q
      · rw [if_neg q] at h'; omega
    show dc_rs p un w (if a (81 + 51 * p + 3 * w) = un then dc_tk a p w else upd a (81 + 51 * p + 3 * w) 0) = a
    rw [if_neg (by rw [z]; exact hu), op_upd2 z]
    exact dc_rs0 hu (by omega)
theorem dc_cgL {a : Nat → Int32} {p : Nat} : ∀ {w : Nat}, dc_cg a p w ≤ w
  | 0 => Nat.le_refl _
  | w + 1 => by have := dc_cgL (a := a) (p := p) (w := w); unfold dc_cg; split <;> omega
theorem op_res0 {a : Nat → Int32} {p ac r : Int32} {e : Nat → Int32} (hv : dc_V a) (h : op_res a p ac = (r, e)) (hr : r < 0 ∨ r = 0) : e = a := by
  unfold op_res at h
  obtain ⟨e0, h24⟩ := dc_Vn hv
  split at h
  · rename_i c
    obtain ⟨j, hj, rfl⟩ := op_ix c.1 (e0 ▸ c.2) (by omega)
    rw [nI_clamp (by omega)] at h
    have h16 := (dc_Vw hv (p := j) (by omega)).2
    have hc := dc_cgL (a := a) (p := j) (w := dc_w a j)
    have h1 := congrArg Prod.fst h
    have h2 := congrArg Prod.snd h
    have h1' : nI (dc_cg a j (dc_w a j)) = r := h1
    have z : dc_cg a j (dc_w a j) = 0 := by
      rw [← h1'] at hr
      rcases hr with q | q
      · exact absurd q (nI_pos (by omega))
      · exact (nI_eq (b := 0) (by omega) (by omega)).mp q
    have h2' : dc_rs j (if ac = 0 then 1 else 2) (dc_w a j) a = e := h2
    rw [← h2']
    exact dc_rs0 (by split <;> decide) z
  · exact (congrArg Prod.snd h).symm
variable {x_tracking x_view x_slotNow x_stepsBack x_stepsAgain x_stale x_rounds x_columnCount : Int32} {x_doc x_kept x_referenceWidth x_labelValue x_labelWidth x_lineCount x_gapBefore x_headNeeds x_groupNeeds x_wordLine x_wordLeft x_lineFirst x_lineWords x_lineLeft x_lineSlack x_lineNotes x_lineColumn x_lineTop x_columnParagraph x_columnFirst x_columnLines x_columnNotes x_columnFilled : Nat → Int32} {y_doc y_tracking y_view y_done y_steps y_lines y_columns y_rounds y_known : Int32} {y_many y_styleOf y_markOf y_words y_width y_note y_status y_styles y_pages y_stepKind y_stepA y_stepB y_stepC y_stepOn y_ofParagraph y_firstWord y_wordsOf y_slack y_begin y_needs y_notes y_columnOf y_topOf y_firstLine y_label y_labelWide y_counter y_refWide y_nextWide y_columnLine y_columnLines y_filled y_foot : Nat → Int32}
theorem re_f {k : Nat} (I : i_Rel k (x_tracking, x_view, x_slotNow, x_stepsBack, x_stepsAgain, x_stale, x_rounds, x_columnCount, x_doc, x_kept, x_referenceWidth, x_labelValue, x_labelWidth, x_lineCount, x_gapBefore, x_headNeeds, x_groupNeeds, x_wordLine, x_wordLeft, x_lineFirst, x_lineWords, x_lineLeft, x_lineSlack, x_lineNotes, x_lineColumn, x_lineTop, x_columnParagraph, x_columnFirst, x_columnLines, x_columnNotes, x_columnFilled) (y_doc, y_tracking, y_view, y_done, y_steps, y_lines, y_columns, y_rounds, y_known, y_many, y_styleOf, y_markOf, y_words, y_width, y_note, y_status, y_styles, y_pages, y_stepKind, y_stepA, y_stepB, y_stepC, y_stepOn, y_ofParagraph, y_firstWord, y_wordsOf, y_slack, y_begin, y_needs, y_notes, y_columnOf, y_topOf, y_firstLine, y_label, y_labelWide, y_counter, y_refWide, y_nextWide, y_columnLine, y_columnLines, y_filled, y_foot)) : ∃ s n, x_slotNow = nI s ∧ s < 21 ∧ x_stepsBack = nI n ∧ n ≤ 20 ∧ dc_V x_doc := by
  obtain ⟨_, ⟨b, g, s, D, S1, S2, S3, S4, S5, _⟩, _⟩ := I
  exact ⟨s, b, S1.1, S1.2, S2.1, by omega, by rw [S5]; exact S4 b (by omega)⟩
theorem i_vc_insert {k : Nat} {u : SX} {v : SY} (I : i_Rel k u v) (hk : k + 4 ≤ 2048) (v1 : Int32) (v2 : Int32) : wpX_insert (fun r u' => wpY_insert (fun r' v' => r' = r ∧ i_Rel (k + 4) u' v') v v1 v2) u v1 v2 := by
  obtain ⟨x_tracking, x_view, x_slotNow, x_stepsBack, x_stepsAgain, x_stale, x_rounds, x_columnCount, x_doc, x_kept, x_referenceWidth, x_labelValue, x_labelWidth, x_lineCount, x_gapBefore, x_headNeeds, x_groupNeeds, x_wordLine, x_wordLeft, x_lineFirst, x_lineWords, x_lineLeft, x_lineSlack, x_lineNotes, x_lineColumn, x_lineTop, x_columnParagraph, x_columnFirst, x_columnLines, x_columnNotes, x_columnFilled⟩ := u
  obtain ⟨y_doc, y_tracking, y_view, y_done, y_steps, y_lines, y_columns, y_rounds, y_known, y_many, y_styleOf, y_markOf, y_words, y_width, y_note, y_status, y_styles, y_pages, y_stepKind, y_stepA, y_stepB, y_stepC, y_stepOn, y_ofParagraph, y_firstWord, y_wordsOf, y_slack, y_begin, y_needs, y_notes, y_columnOf, y_topOf, y_firstLine, y_label, y_labelWide, y_counter, y_refWide, y_nextWide, y_columnLine, y_columnLines, y_filled, y_foot⟩ := v
  obtain ⟨s, n, hs, h21, hn, h20, hv⟩ := re_f I
  refine xo_ins hs h21 hn h20 hv (fun r e hr => ?_) (fun r a e hr => ?_)
  · unfold wpY_insert
    exact re_no I (op_g0.trans e) (Or.inl hr) rfl (fun _ _ _ _ _ _ _ _ _ J => ⟨rfl, J⟩)
  · unfold wpY_insert
    exact re_ok hs h21 hn h20 I (op_g0.trans e) (fun q => q.elim hr (fun q => absurd q.1 (by decide))) (fun _ _ _ _ _ _ _ _ _ _ _ _ _ _ _ _ _ _ J => ⟨rfl, J⟩)
theorem i_vc_remove {k : Nat} {u : SX} {v : SY} (I : i_Rel k u v) (hk : k + 4 ≤ 2048) (v1 : Int32) : wpX_remove (fun r u' => wpY_remove (fun r' v' => r' = r ∧ i_Rel (k + 4) u' v') v v1) u v1 := by
  obtain ⟨x_tracking, x_view, x_slotNow, x_stepsBack, x_stepsAgain, x_stale, x_rounds, x_columnCount, x_doc, x_kept, x_referenceWidth, x_labelValue, x_labelWidth, x_lineCount, x_gapBefore, x_headNeeds, x_groupNeeds, x_wordLine, x_wordLeft, x_lineFirst, x_lineWords, x_lineLeft, x_lineSlack, x_lineNotes, x_lineColumn, x_lineTop, x_columnParagraph, x_columnFirst, x_columnLines, x_columnNotes, x_columnFilled⟩ := u
  obtain ⟨y_doc, y_tracking, y_view, y_done, y_steps, y_lines, y_columns, y_rounds, y_known, y_many, y_styleOf, y_markOf, y_words, y_width, y_note, y_status, y_styles, y_pages, y_stepKind, y_stepA, y_stepB, y_stepC, y_stepOn, y_ofParagraph, y_firstWord, y_wordsOf, y_slack, y_begin, y_needs, y_notes, y_columnOf, y_topOf, y_firstLine, y_label, y_labelWide, y_counter, y_refWide, y_nextWide, y_columnLine, y_columnLines, y_filled, y_foot⟩ := v
  obtain ⟨s, n, hs, h21, hn, h20, hv⟩ := re_f I
  refine xo_rem hs h21 hn h20 hv (fun r e hr => ?_) (fun r a e hr => ?_)
  · unfold wpY_remove
    exact re_no I (op_g1.trans e) (Or.inl hr) rfl (fun _ _ _ _ _ _ _ _ _ J => ⟨rfl, J⟩)
  · unfold wpY_remove
    exact re_ok hs h21 hn h20 I (op_g1.trans e) (fun q => q.elim hr (fun q => absurd q.1 (by decide))) (fun _ _ _ _ _ _ _ _ _ _ _ _ _ _ _ _ _ _ J => ⟨rfl, J⟩)
theorem i_vc_add {k : Nat} {u : SX} {v : SY} (I : i_Rel k u v) (hk : k + 4 ≤ 2048) (v1 : Int32) (v2 : Int32) (v3 : Int32) : wpX_add (fun r u' => wpY_add (fun r' v' => r' = r ∧ i_Rel (k + 4) u' v') v v1 v2 v3) u v1 v2 v3 := by
  obtain ⟨x_tracking, x_view, x_slotNow, x_stepsBack, x_stepsAgain, x_stale, x_rounds, x_columnCount, x_doc, x_kept, x_referenceWidth, x_labelValue, x_labelWidth, x_lineCount, x_gapBefore, x_headNeeds, x_groupNeeds, x_wordLine, x_wordLeft, x_lineFirst, x_lineWords, x_lineLeft, x_lineSlack, x_lineNotes, x_lineColumn, x_lineTop, x_columnParagraph, x_columnFirst, x_columnLines, x_columnNotes, x_columnFilled⟩ := u
  obtain ⟨y_doc, y_tracking, y_view, y_done, y_steps, y_lines, y_columns, y_rounds, y_known, y_many, y_styleOf, y_markOf, y_words, y_width, y_note, y_status, y_styles, y_pages, y_stepKind, y_stepA, y_stepB, y_stepC, y_stepOn, y_ofParagraph, y_firstWord, y_wordsOf, y_slack, y_begin, y_needs, y_notes, y_columnOf, y_topOf, y_firstLine, y_label, y_labelWide, y_counter, y_refWide, y_nextWide, y_columnLine, y_columnLines, y_filled, y_foot⟩ := v
  obtain ⟨s, n, hs, h21, hn, h20, hv⟩ := re_f I
  refine xo_add hs h21 hn h20 hv (fun r e hr => ?_) (fun r a e hr => ?_)
  · unfold wpY_add
    exact re_no I (op_g4.trans e) (Or.inl hr) rfl (fun _ _ _ _ _ _ _ _ _ J => ⟨rfl, J⟩)
  · unfold wpY_add
    exact re_ok hs h21 hn h20 I (op_g4.trans e) (fun q => q.elim hr (fun q => absurd q.1 (by decide))) (fun _ _ _ _ _ _ _ _ _ _ _ _ _ _ _ _ _ _ J => ⟨rfl, J⟩)
theorem i_vc_drop {k : Nat} {u : SX} {v : SY} (I : i_Rel k u v) (hk : k + 4 ≤ 2048) (v1 : Int32) : wpX_drop (fun r u' => wpY_drop (fun r' v' => r' = r ∧ i_Rel (k + 4) u' v') v v1) u v1 := by
  obtain ⟨x_tracking, x_view, x_slotNow, x_stepsBack, x_stepsAgain, x_stale, x_rounds, x_columnCount, x_doc, x_kept, x_referenceWidth, x_labelValue, x_labelWidth, x_lineCount, x_gapBefore, x_headNeeds, x_groupNeeds, x_wordLine, x_wordLeft, x_lineFirst, x_lineWords, x_lineLeft, x_lineSlack, x_lineNotes, x_lineColumn, x_lineTop, x_columnParagraph, x_columnFirst, x_columnLines, x_columnNotes, x_columnFilled⟩ := u
  obtain ⟨y_doc, y_tracking, y_view, y_done, y_steps, y_lines, y_columns, y_rounds, y_known, y_many, y_styleOf, y_markOf, y_words, y_width, y_note, y_status, y_styles, y_pages, y_stepKind, y_stepA, y_stepB, y_stepC, y_stepOn, y_ofParagraph, y_firstWord, y_wordsOf, y_slack, y_begin, y_needs, y_notes, y_columnOf, y_topOf, y_firstLine, y_label, y_labelWide, y_counter, y_refWide, y_nextWide, y_columnLine, y_columnLines, y_filled, y_foot⟩ := v
  obtain ⟨s, n, hs, h21, hn, h20, hv⟩ := re_f I
  refine xo_drp hs h21 hn h20 hv (fun r e hr => ?_) (fun r a e hr => ?_)
  · unfold wpY_drop
    exact re_no I (op_g5.trans e) (Or.inl hr) rfl (fun _ _ _ _ _ _ _ _ _ J => ⟨rfl, J⟩)
  · unfold wpY_drop
    exact re_ok hs h21 hn h20 I (op_g5.trans e) (fun q => q.elim hr (fun q => absurd q.1 (by decide))) (fun _ _ _ _ _ _ _ _ _ _ _ _ _ _ _ _ _ _ J => ⟨rfl, J⟩)
theorem i_vc_restyle {k : Nat} {u : SX} {v : SY} (I : i_Rel k u v) (hk : k + 4 ≤ 2048) (v1 : Int32) (v2 : Int32) : wpX_restyle (fun r u' => wpY_restyle (fun r' v' => r' = r ∧ i_Rel (k + 4) u' v') v v1 v2) u v1 v2 := by
  obtain ⟨x_tracking, x_view, x_slotNow, x_stepsBack, x_stepsAgain, x_stale, x_rounds, x_columnCount, x_doc, x_kept, x_referenceWidth, x_labelValue, x_labelWidth, x_lineCount, x_gapBefore, x_headNeeds, x_groupNeeds, x_wordLine, x_wordLeft, x_lineFirst, x_lineWords, x_lineLeft, x_lineSlack, x_lineNotes, x_lineColumn, x_lineTop, x_columnParagraph, x_columnFirst, x_columnLines, x_columnNotes, x_columnFilled⟩ := u
  obtain ⟨y_doc, y_tracking, y_view, y_done, y_steps, y_lines, y_columns, y_rounds, y_known, y_many, y_styleOf, y_markOf, y_words, y_width, y_note, y_status, y_styles, y_pages, y_stepKind, y_stepA, y_stepB, y_stepC, y_stepOn, y_ofParagraph, y_firstWord, y_wordsOf, y_slack, y_begin, y_needs, y_notes, y_columnOf, y_topOf, y_firstLine, y_label, y_labelWide, y_counter, y_refWide, y_nextWide, y_columnLine, y_columnLines, y_filled, y_foot⟩ := v
  obtain ⟨s, n, hs, h21, hn, h20, hv⟩ := re_f I
  refine xo_sty hs h21 hn h20 hv (fun e => ?_) (fun a e => ?_)
  · unfold wpY_restyle
    exact re_no I (op_g2.trans e) (Or.inl (by decide)) rfl (fun _ _ _ _ _ _ _ _ _ J => br_f (by decide) ⟨rfl, J⟩)
  · unfold wpY_restyle
    exact re_ok hs h21 hn h20 I (op_g2.trans e) (by decide) (fun _ _ _ _ _ _ _ _ _ _ _ _ _ _ _ _ _ _ J => br_t rfl ⟨rfl, J⟩)
theorem i_vc_mark {k : Nat} {u : SX} {v : SY} (I : i_Rel k u v) (hk : k + 4 ≤ 2048) (v1 : Int32) (v2 : Int32) : wpX_mark (fun r u' => wpY_mark (fun r' v' => r' = r ∧ i_Rel (k + 4) u' v') v v1 v2) u v1 v2 := by
  obtain ⟨x_tracking, x_view, x_slotNow, x_stepsBack, x_stepsAgain, x_stale, x_rounds, x_columnCount, x_doc, x_kept, x_referenceWidth, x_labelValue, x_labelWidth, x_lineCount, x_gapBefore, x_headNeeds, x_groupNeeds, x_wordLine, x_wordLeft, x_lineFirst, x_lineWords, x_lineLeft, x_lineSlack, x_lineNotes, x_lineColumn, x_lineTop, x_columnParagraph, x_columnFirst, x_columnLines, x_columnNotes, x_columnFilled⟩ := u
  obtain ⟨y_doc, y_tracking, y_view, y_done, y_steps, y_lines, y_columns, y_rounds, y_known, y_many, y_styleOf, y_markOf, y_words, y_width, y_note, y_status, y_styles, y_pages, y_stepKind, y_stepA, y_stepB, y_stepC, y_stepOn, y_ofParagraph, y_firstWord, y_wordsOf, y_slack, y_begin, y_needs, y_notes, y_columnOf, y_topOf, y_firstLine, y_label, y_labelWide, y_counter, y_refWide, y_nextWide, y_columnLine, y_columnLines, y_filled, y_foot⟩ := v
  obtain ⟨s, n, hs, h21, hn, h20, hv⟩ := re_f I
  refine xo_mrk hs h21 hn h20 hv (fun e => ?_) (fun a e => ?_)
  · unfold wpY_mark
    exact re_no I (op_g3.trans e) (Or.inl (by decide)) rfl (fun _ _ _ _ _ _ _ _ _ J => br_f (by decide) ⟨rfl, J⟩)
  · unfold wpY_mark
    exact re_ok hs h21 hn h20 I (op_g3.trans e) (by decide) (fun _ _ _ _ _ _ _ _ _ _ _ _ _ _ _ _ _ _ J => br_t rfl ⟨rfl, J⟩)
theorem i_vc_style {k : Nat} {u : SX} {v : SY} (I : i_Rel k u v) (hk : k + 4 ≤ 2048) (v1 : Int32) (v2 : Int32) (v3 : Int32) : wpX_style (fun r u' => wpY_style (fun r' v' => r' = r ∧ i_Rel (k + 4) u' v') v v1 v2 v3) u v1 v2 v3 := by
  obtain ⟨x_tracking, x_view, x_slotNow, x_stepsBack, x_stepsAgain, x_stale, x_rounds, x_columnCount, x_doc, x_kept, x_referenceWidth, x_labelValue, x_labelWidth, x_lineCount, x_gapBefore, x_headNeeds, x_groupNeeds, x_wordLine, x_wordLeft, x_lineFirst, x_lineWords, x_lineLeft, x_lineSlack, x_lineNotes, x_lineColumn, x_lineTop, x_columnParagraph, x_columnFirst, x_columnLines, x_columnNotes, x_columnFilled⟩ := u
  obtain ⟨y_doc, y_tracking, y_view, y_done, y_steps, y_lines, y_columns, y_rounds, y_known, y_many, y_styleOf, y_markOf, y_words, y_width, y_note, y_status, y_styles, y_pages, y_stepKind, y_stepA, y_stepB, y_stepC, y_stepOn, y_ofParagraph, y_firstWord, y_wordsOf, y_slack, y_begin, y_needs, y_notes, y_columnOf, y_topOf, y_firstLine, y_label, y_labelWide, y_counter, y_refWide, y_nextWide, y_columnLine, y_columnLines, y_filled, y_foot⟩ := v
  obtain ⟨s, n, hs, h21, hn, h20, hv⟩ := re_f I
  refine xo_stl hs h21 hn h20 (fun e => ?_) (fun a e => ?_)
  · unfold wpY_style
    exact re_no I (op_g6.trans e) (Or.inl (by decide)) rfl (fun _ _ _ _ _ _ _ _ _ J => br_f (by decide) ⟨rfl, J⟩)
  · unfold wpY_style
    exact re_ok hs h21 hn h20 I (op_g6.trans e) (by decide) (fun _ _ _ _ _ _ _ _ _ _ _ _ _ _ _ _ _ _ J => br_t rfl ⟨rfl, J⟩)
theorem i_vc_page {k : Nat} {u : SX} {v : SY} (I : i_Rel k u v) (hk : k + 4 ≤ 2048) (v1 : Int32) (v2 : Int32) (v3 : Int32) : wpX_page (fun r u' => wpY_page (fun r' v' => r' = r ∧ i_Rel (k + 4) u' v') v v1 v2 v3) u v1 v2 v3 := by
  obtain ⟨x_tracking, x_view, x_slotNow, x_stepsBack, x_stepsAgain, x_stale, x_rounds, x_columnCount, x_doc, x_kept, x_referenceWidth, x_labelValue, x_labelWidth, x_lineCount, x_gapBefore, x_headNeeds, x_groupNeeds, x_wordLine, x_wordLeft, x_lineFirst, x_lineWords, x_lineLeft, x_lineSlack, x_lineNotes, x_lineColumn, x_lineTop, x_columnParagraph, x_columnFirst, x_columnLines, x_columnNotes, x_columnFilled⟩ := u
  obtain ⟨y_doc, y_tracking, y_view, y_done, y_steps, y_lines, y_columns, y_rounds, y_known, y_many, y_styleOf, y_markOf, y_words, y_width, y_note, y_status, y_styles, y_pages, y_stepKind, y_stepA, y_stepB, y_stepC, y_stepOn, y_ofParagraph, y_firstWord, y_wordsOf, y_slack, y_begin, y_needs, y_notes, y_columnOf, y_topOf, y_firstLine, y_label, y_labelWide, y_counter, y_refWide, y_nextWide, y_columnLine, y_columnLines, y_filled, y_foot⟩ := v
  obtain ⟨s, n, hs, h21, hn, h20, hv⟩ := re_f I
  refine xo_pag hs h21 hn h20 (fun e => ?_) (fun a e => ?_)
  · unfold wpY_page
    exact re_no I (op_g7.trans e) (Or.inl (by decide)) rfl (fun _ _ _ _ _ _ _ _ _ J => br_f (by decide) ⟨rfl, J⟩)
  · unfold wpY_page
    exact re_ok hs h21 hn h20 I (op_g7.trans e) (by decide) (fun _ _ _ _ _ _ _ _ _ _ _ _ _ _ _ _ _ _ J => br_t rfl ⟨rfl, J⟩)
theorem i_vc_resolve {k : Nat} {u : SX} {v : SY} (I : i_Rel k u v) (hk : k + 4 ≤ 2048) (v1 : Int32) (v2 : Int32) : wpX_resolve (fun r u' => wpY_resolve (fun r' v' => r' = r ∧ i_Rel (k + 4) u' v') v v1 (lw_bz v2)) u v1 (lw_bz v2) := by
  obtain ⟨x_tracking, x_view, x_slotNow, x_stepsBack, x_stepsAgain, x_stale, x_rounds, x_columnCount, x_doc, x_kept, x_referenceWidth, x_labelValue, x_labelWidth, x_lineCount, x_gapBefore, x_headNeeds, x_groupNeeds, x_wordLine, x_wordLeft, x_lineFirst, x_lineWords, x_lineLeft, x_lineSlack, x_lineNotes, x_lineColumn, x_lineTop, x_columnParagraph, x_columnFirst, x_columnLines, x_columnNotes, x_columnFilled⟩ := u
  obtain ⟨y_doc, y_tracking, y_view, y_done, y_steps, y_lines, y_columns, y_rounds, y_known, y_many, y_styleOf, y_markOf, y_words, y_width, y_note, y_status, y_styles, y_pages, y_stepKind, y_stepA, y_stepB, y_stepC, y_stepOn, y_ofParagraph, y_firstWord, y_wordsOf, y_slack, y_begin, y_needs, y_notes, y_columnOf, y_topOf, y_firstLine, y_label, y_labelWide, y_counter, y_refWide, y_nextWide, y_columnLine, y_columnLines, y_filled, y_foot⟩ := v
  obtain ⟨s, n, hs, h21, hn, h20, hv⟩ := re_f I
  have go : ∀ z0 : Int32, (if z0 = 1 then (1 : Int32) else 0) = lw_bz v2 → ∀ r a, op_res x_doc v1 (lw_bz v2) = (r, a) → op_go 8 v1 z0 0 x_tracking x_doc = (r, a) := fun z0 ez r a e => by
    rw [op_g8, ez]; exact e
  refine xo_res hs h21 hn h20 hv (fun r a e hr => ?_) (fun r a e hr => ?_)
  · have no : ∀ z0 : Int32, (if z0 = 1 then (1 : Int32) else 0) = lw_bz v2 → wpY_go (fun r' v' => r' = r ∧ i_Rel (k + 4) (x_tracking, x_view, x_slotNow, x_stepsBack, x_stepsAgain, x_stale, x_rounds, x_columnCount, x_doc, x_kept, x_referenceWidth, x_labelValue, x_labelWidth, x_lineCount, x_gapBefore, x_headNeeds, x_groupNeeds, x_wordLine, x_wordLeft, x_lineFirst, x_lineWords, x_lineLeft, x_lineSlack, x_lineNotes, x_lineColumn, x_lineTop, x_columnParagraph, x_columnFirst, x_columnLines, x_columnNotes, x_columnFilled) v') (y_doc, y_tracking, y_view, y_done, y_steps, y_lines, y_columns, y_rounds, y_known, y_many, y_styleOf, y_markOf, y_words, y_width, y_note, y_status, y_styles, y_pages, y_stepKind, y_stepA, y_stepB, y_stepC, y_stepOn, y_ofParagraph, y_firstWord, y_wordsOf, y_slack, y_begin, y_needs, y_notes, y_columnOf, y_topOf, y_firstLine, y_label, y_labelWide, y_counter, y_refWide, y_nextWide, y_columnLine, y_columnLines, y_filled, y_foot) 8 v1 z0 0 := fun z0 ez =>
      re_no I (go z0 ez r a e) (hr.imp id (fun q => ⟨rfl, q⟩)) (op_res0 hv e hr) (fun _ _ _ _ _ _ _ _ _ J => ⟨rfl, J⟩)
    exact br_c (fun z => no 0 (by rw [z]; rfl)) (fun z => no 1 (by rw [(lw_bz_01 v2).resolve_left z]; rfl))
  · have ok : ∀ z0 : Int32, (if z0 = 1 then (1 : Int32) else 0) = lw_bz v2 → wpY_go (fun r' v' => r' = r ∧ i_Rel (k + 4) (x_tracking, x_view, (nI ((s + 1) % 21)), (nI (if n < 20 then n + 1 else n)), 0, 1, x_rounds, x_columnCount, a, (st_b x_kept (1300 * ((s + 1) % 21)) 1300 a), x_referenceWidth, x_labelValue, x_labelWidth, x_lineCount, x_gapBefore, x_headNeeds, x_groupNeeds, x_wordLine, x_wordLeft, x_lineFirst, x_lineWords, x_lineLeft, x_lineSlack, x_lineNotes, x_lineColumn, x_lineTop, x_columnParagraph, x_columnFirst, x_columnLines, x_columnNotes, x_columnFilled) v') (y_doc, y_tracking, y_view, y_done, y_steps, y_lines, y_columns, y_rounds, y_known, y_many, y_styleOf, y_markOf, y_words, y_width, y_note, y_status, y_styles, y_pages, y_stepKind, y_stepA, y_stepB, y_stepC, y_stepOn, y_ofParagraph, y_firstWord, y_wordsOf, y_slack, y_begin, y_needs, y_notes, y_columnOf, y_topOf, y_firstLine, y_label, y_labelWide, y_counter, y_refWide, y_nextWide, y_columnLine, y_columnLines, y_filled, y_foot) 8 v1 z0 0 := fun z0 ez =>
      re_ok hs h21 hn h20 I (go z0 ez r a e) (fun q => hr (q.imp id (fun q => q.2))) (fun _ _ _ _ _ _ _ _ _ _ _ _ _ _ _ _ _ _ J => ⟨rfl, J⟩)
    exact br_c (fun z => ok 0 (by rw [z]; rfl)) (fun z => ok 1 (by rw [(lw_bz_01 v2).resolve_left z]; rfl))
theorem i_vc_track {k : Nat} {u : SX} {v : SY} (I : i_Rel k u v) (hk : k + 4 ≤ 2048) (v1 : Int32) (v2 : Int32) : wpX_track (fun r u' => wpY_track (fun r' v' => r' = r ∧ i_Rel (k + 4) u' v') v (lw_bz v1) v2) u (lw_bz v1) v2 := by
  obtain ⟨x_tracking, x_view, x_slotNow, x_stepsBack, x_stepsAgain, x_stale, x_rounds, x_columnCount, x_doc, x_kept, x_referenceWidth, x_labelValue, x_labelWidth, x_lineCount, x_gapBefore, x_headNeeds, x_groupNeeds, x_wordLine, x_wordLeft, x_lineFirst, x_lineWords, x_lineLeft, x_lineSlack, x_lineNotes, x_lineColumn, x_lineTop, x_columnParagraph, x_columnFirst, x_columnLines, x_columnNotes, x_columnFilled⟩ := u
  obtain ⟨y_doc, y_tracking, y_view, y_done, y_steps, y_lines, y_columns, y_rounds, y_known, y_many, y_styleOf, y_markOf, y_words, y_width, y_note, y_status, y_styles, y_pages, y_stepKind, y_stepA, y_stepB, y_stepC, y_stepOn, y_ofParagraph, y_firstWord, y_wordsOf, y_slack, y_begin, y_needs, y_notes, y_columnOf, y_topOf, y_firstLine, y_label, y_labelWide, y_counter, y_refWide, y_nextWide, y_columnLine, y_columnLines, y_filled, y_foot⟩ := v
  have hb := lw_bz_01 v1
  refine xo_track hb (fun z => ?_) (fun z => ?_)
  · unfold wpY_track
    exact yr_in (fun _ => br_t rfl ⟨rfl, I⟩) (fun z1 z2 => absurd ⟨z1, z2⟩ z)
  · unfold wpY_track
    refine yr_in (fun q => absurd z q) (fun z1 z2 => br_f (by decide) ⟨?_, ?_, rfl, ?_⟩)
    · rcases hb with q | q <;> (rw [q]; rfl)
    · rcases hb with q | q <;> (rw [q]; rfl)
    · obtain ⟨⟨i1, i2, i3⟩, S, _⟩ := I
      exact ⟨⟨rfl, hb, i3⟩, S, rfl, Or.inr rfl, Or.inl rfl, fun q => absurd q (by decide), fun q => absurd q (by decide)⟩
end
section
theorem re_load {x k a b : Nat → Int32} {t : Nat} (hx : x = a) (ha : dc_V a) (hb : dc_V b) (hk : ∀ i, i < 1300 → k (t + i) = b i) : st_b x 0 1300 (fun i => k (t + i)) = b := by
  funext i
  by_cases c : i < 1300
  · rw [st_in (by omega) (by omega)]; exact hk i c
  · rw [st_out (by omega), hx, ha.2.2.2.2.2 i (by omega), hb.2.2.2.2.2 i (by omega)]
theorem i_vc_step {k : Nat} {u : SX} {v : SY} (I : i_Rel k u v) (hk : k + 4 ≤ 2048) (v1 : Int32) : wpX_step (fun r u' => wpY_step (fun r' v' => r' = r ∧ i_Rel (k + 4) u' v') v (lw_bz v1)) u (lw_bz v1) := by
  obtain ⟨x_tracking, x_view, x_slotNow, x_stepsBack, x_stepsAgain, x_stale, x_rounds, x_columnCount, x_doc, x_kept, x_referenceWidth, x_labelValue, x_labelWidth, x_lineCount, x_gapBefore, x_headNeeds, x_groupNeeds, x_wordLine, x_wordLeft, x_lineFirst, x_lineWords, x_lineLeft, x_lineSlack, x_lineNotes, x_lineColumn, x_lineTop, x_columnParagraph, x_columnFirst, x_columnLines, x_columnNotes, x_columnFilled⟩ := u
  obtain ⟨y_doc, y_tracking, y_view, y_done, y_steps, y_lines, y_columns, y_rounds, y_known, y_many, y_styleOf, y_markOf, y_words, y_width, y_note, y_status, y_styles, y_pages, y_stepKind, y_stepA, y_stepB, y_stepC, y_stepOn, y_ofParagraph, y_firstWord, y_wordsOf, y_slack, y_begin, y_needs, y_notes, y_columnOf, y_topOf, y_firstLine, y_label, y_labelWide, y_counter, y_refWide, y_nextWide, y_columnLine, y_columnLines, y_filled, y_foot⟩ := v
  have I' := I
  obtain ⟨⟨i1, i2, i3⟩, ⟨b, g, s, D, S1, S2, S3, S4, S5, S6, S7, S8⟩, IL1, IL2, IL3, IL4, IL5⟩ := I
  obtain ⟨T1, T2, T3, T4, T5⟩ := S2
  have fresh : ∀ a, re_L x_view y_view 1 0 x_rounds x_columnCount y_rounds y_columns a x_labelValue x_lineCount x_wordLine x_wordLeft x_lineFirst x_lineWords x_lineLeft x_lineSlack x_lineNotes x_lineColumn x_lineTop x_columnParagraph x_columnFirst x_columnLines x_columnNotes x_columnFilled y_label y_refWide y_firstLine y_ofParagraph y_firstWord y_wordsOf y_slack y_begin y_needs y_notes y_columnOf y_topOf y_columnLine y_columnLines y_filled y_foot := fun a =>
    ⟨IL1, Or.inr rfl, Or.inl rfl, fun z => absurd z (by decide), fun z => absurd z (by decide)⟩
  refine xo_step S1.1 S1.2 T1 T2 T5 (fun z1 z2 => ?_) (fun z hg => ?_) (fun z hb => ?_)
  · exact yo_step (A := re_A (D b) (D 0)) i3 T3 T4 T5 S7 rfl S3 S4 (fun _ _ => ⟨rfl, I'⟩) (fun q1 q2 => absurd (z1 q1) (by omega)) (fun q1 q2 => absurd (z2 q1) (by omega))
  · refine yo_step (A := re_A (D b) (D 0)) i3 T3 T4 T5 S7 rfl S3 S4 (fun q _ => absurd (q z) (by omega)) (fun _ _ => ?_) (fun q => absurd z q)
    intro y_many y_pages y_styles y_styleOf y_markOf y_words y_width y_note y_status H
    rw [re_As] at H
    have ed := re_load (t := 1300 * ((s + 1) % 21)) S5 (S4 b (by omega)) (S4 (b + 1) (by omega)) (fun i hi => by
      have q := S6 (b + 1) i (by omega) hi
      rw [show (s + 21 + (b + 1) - b) % 21 = (s + 1) % 21 from by omega] at q; exact q)
    refine ⟨rfl, ⟨i1, i2, i3⟩, ⟨b + 1, g - 1, (s + 1) % 21, D, ⟨rfl, by omega⟩, ⟨rfl, rfl, rfl, T4.trans (congrArg nI (by omega)), by omega⟩, fun j hj => S3 j (by omega), fun j hj => S4 j (by omega), ed, fun j i hj hi => ?_, H, S8⟩, fresh _⟩
    rw [show ((s + 1) % 21 + 21 + j - (b + 1)) % 21 = (s + 21 + j - b) % 21 from by omega]
    exact S6 j i (by omega) hi
  · refine yo_step (A := re_A (D b) (D 0)) i3 T3 T4 T5 S7 rfl S3 S4 (fun _ q => absurd (q z) (by omega)) (fun q => absurd q z) (fun _ _ => ?_)
    intro y_many y_pages y_styles y_styleOf y_markOf y_words y_width y_note y_status H
    rw [re_As] at H
    have ed := re_load (t := 1300 * ((s + 20) % 21)) S5 (S4 b (by omega)) (S4 (b - 1) (by omega)) (fun i hi => by
      have q := S6 (b - 1) i (by omega) hi
      rw [show (s + 21 + (b - 1) - b) % 21 = (s + 20) % 21 from by omega] at q; exact q)
    refine ⟨rfl, ⟨i1, i2, i3⟩, ⟨b - 1, g + 1, (s + 20) % 21, D, ⟨rfl, by omega⟩, ⟨rfl, rfl, rfl, T4.trans (congrArg nI (by omega)), by omega⟩, fun j hj => S3 j (by omega), fun j hj => S4 j (by omega), ed, fun j i hj hi => ?_, H, S8⟩, fresh _⟩
    rw [show ((s + 20) % 21 + 21 + j - (b - 1)) % 21 = (s + 21 + j - b) % 21 from by omega]
    exact S6 j i (by omega) hi
/-- how both begin -/
def re_h : Nat → Nat → Int32
  | 0 => upd (upd (upd (fun _ => 0) 1 40) 2 20) 3 1
  | i + 1 => upd (re_h i) (9 + 12 * i) 1
def re_y (d : Nat) (g : Nat → Int32) : Nat → Nat → Int32
  | 0 => g
  | i + 1 => upd (re_y d g i) (72 * d + 12 * i + 5) 1
theorem re_hO : ∀ (n i : Nat), n ≤ 6 → 76 ≤ i → re_h n i = 0
  | 0, i, _, hi => by show upd (upd (upd (fun _ => 0) 1 40) 2 20) 3 1 i = 0; rw [pk_un (by omega), pk_un (by omega), pk_un (by omega)]
  | n + 1, i, hn, hi => by show upd (re_h n) (9 + 12 * n) 1 i = 0; rw [pk_un (by omega)]; exact re_hO n i (by omega) hi
theorem re_h0 : re_h 6 0 = 0 ∧ re_h 6 1 = 40 ∧ re_h 6 2 = 20 ∧ re_h 6 3 = 1 := by decide +kernel
theorem re_hS : ∀ s, s < 6 → ∀ t, t < 12 → re_h 6 (4 + 12 * s + t) = if t = 5 then 1 else 0 := by decide +kernel
theorem re_hY : ∀ d, d < 2 → ∀ j, j < 72 → re_h 6 (4 + j) = re_y 1 (re_y 0 (fun _ => 0) 6) 6 (72 * d + j) := by decide +kernel
theorem re_hV : dc_V (re_h 6) := by
  have z : dc_N 0 0 := ⟨by decide, by decide⟩
  have zm : ∀ m, m < 2 ^ 31 → dc_N 0 m := fun m hm => dc_Nm (n := 0) (by omega) hm
  refine ⟨by rw [re_h0.1]; exact zm 24 (by omega), by rw [re_h0.2.2.1]; exact dc_Nm (n := 20) (by omega) (by omega), Or.inl re_h0.2.2.2, fun s t hs ht => ?_, fun p hp => ?_, fun i hi => re_hO 6 i (by omega) (by omega)⟩
  · rw [re_hS s hs t ht]
    refine ⟨fun q => ?_, fun q => ?_, fun q => ?_, fun q => ?_⟩
    · rw [if_neg (by omega)]; exact zm 9 (by omega)
    · rw [if_pos q]; exact dc_Nm (n := 1) (by omega) (by omega)
    · rw [if_neg (by omega)]; exact zm 3 (by omega)
    · rw [if_neg (by omega)]; exact zm 1 (by omega)
  · have e : ∀ i, re_h 6 (76 + 51 * p + i) = 0 := fun i => re_hO 6 _ (by omega) (by omega)
    refine ⟨by show dc_N (re_h 6 _) 5; rw [e]; exact zm 5 (by omega), by show dc_N (re_h 6 _) 16; rw [e]; exact zm 16 (by omega), fun w hw => ?_⟩
    have hw' : w < (re_h 6 (76 + 51 * p + 2)).toNatClampNeg := hw
    rw [e] at hw'
    exact absurd hw' (by show ¬ w < 0; omega)
theorem re_hA : ya_A (re_A (re_h 6) (re_h 6)) (fun _ => 0) (upd (upd (upd (upd (upd (upd (fun _ => 0) 0 40) 1 20) 2 1) 3 40) 4 20) 5 1) (re_y 1 (re_y 0 (fun _ => 0) 6) 6) (fun _ => 0) (fun _ => 0) (fun _ => 0) (fun _ => 0) (fun _ => 0) (fun _ => 0) := by
  have e : ∀ d, re_A (re_h 6) (re_h 6) d = re_h 6 := fun d => by unfold re_A; split <;> rfl
  refine ⟨fun d hd => ?_, fun d j hd hj => ?_, fun d j hd hj => ?_, fun d p hd hp => ?_, fun d p hd hp => ?_, fun d p hd hp => ?_, fun d p w hd hp hw => ?_, fun d p w hd hp hw => ?_, fun d p w hd hp hw => ?_⟩
  · rw [e]; exact re_h0.1
  · rw [e]
    have q : ∀ d, d < 2 → ∀ j, j < 3 → re_h 6 (1 + j) = upd (upd (upd (upd (upd (upd (fun _ => 0) 0 40) 1 20) 2 1) 3 40) 4 20) 5 1 (3 * d + j) := by decide +kernel
    exact q d hd j hj
  · rw [e]; exact re_hY d hd j hj
  · rw [e]; exact re_hO 6 _ (by omega) (by omega)
  · rw [e]; exact re_hO 6 _ (by omega) (by omega)
  · rw [e]; exact re_hO 6 _ (by omega) (by omega)
  · rw [e]; exact re_hO 6 _ (by omega) (by omega)
  · rw [e]; exact re_hO 6 _ (by omega) (by omega)
  · rw [e]; exact re_hO 6 _ (by omega) (by omega)
variable {x_tracking x_view x_slotNow x_stepsBack x_stepsAgain x_stale x_rounds x_columnCount : Int32} {x_doc x_kept x_referenceWidth x_labelValue x_labelWidth x_lineCount x_gapBefore x_headNeeds x_groupNeeds x_wordLine x_wordLeft x_lineFirst x_lineWords x_lineLeft x_lineSlack x_lineNotes x_lineColumn x_lineTop x_columnParagraph x_columnFirst x_columnLines x_columnNotes x_columnFilled : Nat → Int32} {y_doc y_tracking y_view y_done y_steps y_lines y_columns y_rounds y_known : Int32} {y_many y_styleOf y_markOf y_words y_width y_note y_status y_styles y_pages y_stepKind y_stepA y_stepB y_stepC y_stepOn y_ofParagraph y_firstWord y_wordsOf y_slack y_begin y_needs y_notes y_columnOf y_topOf y_firstLine y_label y_labelWide y_counter y_refWide y_nextWide y_columnLine y_columnLines y_filled y_foot : Nat → Int32}
theorem re_xi {post : SX → Prop} (hs : x_slotNow = nI 0) (h : post (x_tracking, x_view, x_slotNow, x_stepsBack, x_stepsAgain, x_stale, x_rounds, x_columnCount, (re_h 6), (st_b x_kept (1300 * 0) 1300 (re_h 6)), x_referenceWidth, x_labelValue, x_labelWidth, x_lineCount, x_gapBefore, x_headNeeds, x_groupNeeds, x_wordLine, x_wordLeft, x_lineFirst, x_lineWords, x_lineLeft, x_lineSlack, x_lineNotes, x_lineColumn, x_lineTop, x_columnParagraph, x_columnFirst, x_columnLines, x_columnNotes, x_columnFilled)) : ∀ n i, i + n = 6 → wX_init_269 post x_tracking x_view x_slotNow x_stepsBack x_stepsAgain x_stale x_rounds x_columnCount (n + 1) (nI i) (re_h i) x_kept x_referenceWidth x_labelValue x_labelWidth x_lineCount x_gapBefore x_headNeeds x_groupNeeds x_wordLine x_wordLeft x_lineFirst x_lineWords x_lineLeft x_lineSlack x_lineNotes x_lineColumn x_lineTop x_columnParagraph x_columnFirst x_columnLines x_columnNotes x_columnFilled
  | 0, i, hi => by
    obtain rfl : i = 6 := by omega
    exact br_t (nI_le (a := 6) (b := 6) (by omega) (by omega)) (xs_save hs (by omega) h)
  | n + 1, i, hi => by
    have e : (4 : Int32) + nI i * 12 + 5 = nI (9 + 12 * i) := by simp only [li_, pk_mul, nI_add]; exact congrArg nI (by omega)
    exact br_f (nI_ge (b := 6) (by omega) (by omega)) ⟨ix_in e (by omega) (by omega), nm_r (e' := re_h (i + 1)) (by rw [ix_c e (by omega)]; rfl) (nm_r (nI_1 i) (re_xi hs h n (i + 1) (by omega)))⟩
theorem re_yi {post : SY → Prop} {d m : Nat} (hd : d < 2) (h : wY_init_285 post y_doc y_tracking y_view y_done y_steps y_lines y_columns y_rounds y_known m (nI (d + 1)) y_many y_styleOf y_markOf y_words y_width y_note y_status (re_y d y_styles 6) (upd (upd (upd y_pages (3 * d) 40) (3 * d + 1) 20) (3 * d + 2) 1) y_stepKind y_stepA y_stepB y_stepC y_stepOn y_ofParagraph y_firstWord y_wordsOf y_slack y_begin y_needs y_notes y_columnOf y_topOf y_firstLine y_label y_labelWide y_counter y_refWide y_nextWide y_columnLine y_columnLines y_filled y_foot) : ∀ n i, i + n = 6 → wY_init_292 post (wY_init_285 post y_doc y_tracking y_view y_done y_steps y_lines y_columns y_rounds y_known m) (nI d) y_doc y_tracking y_view y_done y_steps y_lines y_columns y_rounds y_known (n + 1) (nI i) y_many y_styleOf y_markOf y_words y_width y_note y_status (re_y d y_styles i) y_pages y_stepKind y_stepA y_stepB y_stepC y_stepOn y_ofParagraph y_firstWord y_wordsOf y_slack y_begin y_needs y_notes y_columnOf y_topOf y_firstLine y_label y_labelWide y_counter y_refWide y_nextWide y_columnLine y_columnLines y_filled y_foot
  | 0, i, hi => by
    obtain rfl : i = 6 := by omega
    have e0 : (3 : Int32) * nI d = nI (3 * d) := pk_mul 3 d
    have e1 : (3 : Int32) * nI d + 1 = nI (3 * d + 1) := by rw [e0]; exact nI_1 _
    have e2 : (3 : Int32) * nI d + 2 = nI (3 * d + 2) := by rw [e0]; exact ad_2 _
    exact br_t (nI_le (a := 6) (b := 6) (by omega) (by omega)) ⟨ix_in e0 (by omega) (by omega), nm_r (by rw [ix_c e0 (by omega)]) ⟨ix_in e1 (by omega) (by omega), nm_r (by rw [ix_c e1 (by omega)]) ⟨ix_in e2 (by omega) (by omega), nm_r (by rw [ix_c e2 (by omega)]) (nm_r (nI_1 d) h)⟩⟩⟩
  | n + 1, i, hi => by
    have e : (72 : Int32) * nI d + 12 * nI i + 5 = nI (72 * d + 12 * i + 5) := by simp only [li_, pk_mul, nI_add]
    exact br_f (nI_ge (b := 6) (by omega) (by omega)) ⟨ix_in e (by omega) (by omega), nm_r (e' := re_y d y_styles (i + 1)) (by rw [ix_c e (by omega)]; rfl) (nm_r (nI_1 i) (re_yi hd h n (i + 1) (by omega)))⟩
theorem i_vc0 : wpX_init (fun u => wpY_init (fun v => i_Rel 0 u v)) := by
  refine nm_e (nm_e (nm_e ⟨7, re_xi (i := 0) rfl ?_ 6 (by omega)⟩))
  refine ⟨3, br_f (nI_ge (a := 0) (b := 2) (by omega) (by omega)) ⟨7, ?_⟩⟩
  refine re_yi (d := 0) (i := 0) (m := 2) (by omega) ?_ 6 (by omega)
  refine br_f (nI_ge (a := 1) (b := 2) (by omega) (by omega)) ⟨7, ?_⟩
  refine re_yi (d := 1) (i := 0) (m := 1) (by omega) ?_ 6 (by omega)
  refine br_t (nI_le (a := 2) (b := 2) (by omega) (by omega)) ?_
  refine ⟨⟨rfl, Or.inl rfl, rfl⟩, ⟨0, 0, 0, fun _ => re_h 6, ⟨rfl, by omega⟩, ⟨rfl, rfl, rfl, rfl, by omega⟩, fun j hj => absurd hj (by omega), fun j hj => re_hV, rfl, fun j i hj hi => ?_, re_hA, fun j hj => Or.inl rfl⟩, rfl, Or.inr rfl, Or.inl rfl, fun z => absurd z (by decide), fun z => absurd z (by decide)⟩
  obtain rfl : j = 0 := by omega
  show st_b (fun _ => 0) (1300 * 0) 1300 (re_h 6) (1300 * ((0 + 21 + 0 - 0) % 21) + i) = re_h 6 i
  rw [st_in (by omega) (by omega)]
  exact congrArg (re_h 6) (by omega)
end
section
variable {x_tracking x_view x_slotNow x_stepsBack x_stepsAgain x_stale x_rounds x_columnCount : Int32} {x_doc x_kept x_referenceWidth x_labelValue x_labelWidth x_lineCount x_gapBefore x_headNeeds x_groupNeeds x_wordLine x_wordLeft x_lineFirst x_lineWords x_lineLeft x_lineSlack x_lineNotes x_lineColumn x_lineTop x_columnParagraph x_columnFirst x_columnLines x_columnNotes x_columnFilled : Nat → Int32} {y_doc y_tracking y_view y_done y_steps y_lines y_columns y_rounds y_known : Int32} {y_many y_styleOf y_markOf y_words y_width y_note y_status y_styles y_pages y_stepKind y_stepA y_stepB y_stepC y_stepOn y_ofParagraph y_firstWord y_wordsOf y_slack y_begin y_needs y_notes y_columnOf y_topOf y_firstLine y_label y_labelWide y_counter y_refWide y_nextWide y_columnLine y_columnLines y_filled y_foot : Nat → Int32}
theorem re_x {k : Nat} {post : SX → Prop} (I : i_Rel k (x_tracking, x_view, x_slotNow, x_stepsBack, x_stepsAgain, x_stale, x_rounds, x_columnCount, x_doc, x_kept, x_referenceWidth, x_labelValue, x_labelWidth, x_lineCount, x_gapBefore, x_headNeeds, x_groupNeeds, x_wordLine, x_wordLeft, x_lineFirst, x_lineWords, x_lineLeft, x_lineSlack, x_lineNotes, x_lineColumn, x_lineTop, x_columnParagraph, x_columnFirst, x_columnLines, x_columnNotes, x_columnFilled) (y_doc, y_tracking, y_view, y_done, y_steps, y_lines, y_columns, y_rounds, y_known, y_many, y_styleOf, y_markOf, y_words, y_width, y_note, y_status, y_styles, y_pages, y_stepKind, y_stepA, y_stepB, y_stepC, y_stepOn, y_ofParagraph, y_firstWord, y_wordsOf, y_slack, y_begin, y_needs, y_notes, y_columnOf, y_topOf, y_firstLine, y_label, y_labelWide, y_counter, y_refWide, y_nextWide, y_columnLine, y_columnLines, y_filled, y_foot)) (h : ∀ x_rounds x_columnCount x_referenceWidth x_labelValue x_labelWidth x_lineCount x_wordLine x_wordLeft x_lineFirst x_lineWords x_lineLeft x_lineSlack x_lineNotes x_gapBefore x_headNeeds x_groupNeeds x_lineColumn x_lineTop x_columnParagraph x_columnFirst x_columnLines x_columnNotes x_columnFilled, lx_OK x_doc x_view x_rounds x_columnCount x_labelValue x_lineCount x_wordLine x_wordLeft x_lineFirst x_lineWords x_lineLeft x_lineSlack x_lineNotes x_lineColumn x_lineTop x_columnParagraph x_columnFirst x_columnLines x_columnNotes x_columnFilled → i_Rel k (x_tracking, x_view, x_slotNow, x_stepsBack, x_stepsAgain, 0, x_rounds, x_columnCount, x_doc, x_kept, x_referenceWidth, x_labelValue, x_labelWidth, x_lineCount, x_gapBefore, x_headNeeds, x_groupNeeds, x_wordLine, x_wordLeft, x_lineFirst, x_lineWords, x_lineLeft, x_lineSlack, x_lineNotes, x_lineColumn, x_lineTop, x_columnParagraph, x_columnFirst, x_columnLines, x_columnNotes, x_columnFilled) (y_doc, y_tracking, y_view, y_done, y_steps, y_lines, y_columns, y_rounds, y_known, y_many, y_styleOf, y_markOf, y_words, y_width, y_note, y_status, y_styles, y_pages, y_stepKind, y_stepA, y_stepB, y_stepC, y_stepOn, y_ofParagraph, y_firstWord, y_wordsOf, y_slack, y_begin, y_needs, y_notes, y_columnOf, y_topOf, y_firstLine, y_label, y_labelWide, y_counter, y_refWide, y_nextWide, y_columnLine, y_columnLines, y_filled, y_foot) → post (x_tracking, x_view, x_slotNow, x_stepsBack, x_stepsAgain, 0, x_rounds, x_columnCount, x_doc, x_kept, x_referenceWidth, x_labelValue, x_labelWidth, x_lineCount, x_gapBefore, x_headNeeds, x_groupNeeds, x_wordLine, x_wordLeft, x_lineFirst, x_lineWords, x_lineLeft, x_lineSlack, x_lineNotes, x_lineColumn, x_lineTop, x_columnParagraph, x_columnFirst, x_columnLines, x_columnNotes, x_columnFilled)) : wpX_layOutIfStale post (x_tracking, x_view, x_slotNow, x_stepsBack, x_stepsAgain, x_stale, x_rounds, x_columnCount, x_doc, x_kept, x_referenceWidth, x_labelValue, x_labelWidth, x_lineCount, x_gapBefore, x_headNeeds, x_groupNeeds, x_wordLine, x_wordLeft, x_lineFirst, x_lineWords, x_lineLeft, x_lineSlack, x_lineNotes, x_lineColumn, x_lineTop, x_columnParagraph, x_columnFirst, x_columnLines, x_columnNotes, x_columnFilled) := by
  obtain ⟨s, n, _, _, _, _, hv⟩ := re_f I
  obtain ⟨I1, I2, IL1, IL2, IL3, IL4, IL5⟩ := I
  refine xs_lay hv IL2 IL4 ?_
  intro x_rounds x_columnCount x_referenceWidth x_labelValue x_labelWidth x_lineCount x_wordLine x_wordLeft x_lineFirst x_lineWords x_lineLeft x_lineSlack x_lineNotes x_gapBefore x_headNeeds x_groupNeeds x_lineColumn x_lineTop x_columnParagraph x_columnFirst x_columnLines x_columnNotes x_columnFilled G
  exact h _ _ _ _ _ _ _ _ _ _ _ _ _ _ _ _ _ _ _ _ _ _ _ G ⟨I1, I2, IL1, Or.inl rfl, IL3, fun _ => G, IL5⟩
theorem re_z {k : Nat} (I : i_Rel k (x_tracking, x_view, x_slotNow, x_stepsBack, x_stepsAgain, x_stale, x_rounds, x_columnCount, x_doc, x_kept, x_referenceWidth, x_labelValue, x_labelWidth, x_lineCount, x_gapBefore, x_headNeeds, x_groupNeeds, x_wordLine, x_wordLeft, x_lineFirst, x_lineWords, x_lineLeft, x_lineSlack, x_lineNotes, x_lineColumn, x_lineTop, x_columnParagraph, x_columnFirst, x_columnLines, x_columnNotes, x_columnFilled) (y_doc, y_tracking, y_view, y_done, y_steps, y_lines, y_columns, y_rounds, y_known, y_many, y_styleOf, y_markOf, y_words, y_width, y_note, y_status, y_styles, y_pages, y_stepKind, y_stepA, y_stepB, y_stepC, y_stepOn, y_ofParagraph, y_firstWord, y_wordsOf, y_slack, y_begin, y_needs, y_notes, y_columnOf, y_topOf, y_firstLine, y_label, y_labelWide, y_counter, y_refWide, y_nextWide, y_columnLine, y_columnLines, y_filled, y_foot)) : yz_Z x_doc y_many y_pages y_styles y_styleOf y_markOf y_words y_width y_note y_status := by
  obtain ⟨I1, ⟨b, g, s, D, S1, S2, S3, S4, S5, S6, S7, S8⟩, IL⟩ := I
  have z := yz_of S7
  have e : re_A (D b) (D 0) 0 = x_doc := S5.symm
  rw [e] at z; exact z
theorem re_k {k : Nat} {post : SY → Prop} (I : i_Rel k (x_tracking, x_view, x_slotNow, x_stepsBack, x_stepsAgain, x_stale, x_rounds, x_columnCount, x_doc, x_kept, x_referenceWidth, x_labelValue, x_labelWidth, x_lineCount, x_gapBefore, x_headNeeds, x_groupNeeds, x_wordLine, x_wordLeft, x_lineFirst, x_lineWords, x_lineLeft, x_lineSlack, x_lineNotes, x_lineColumn, x_lineTop, x_columnParagraph, x_columnFirst, x_columnLines, x_columnNotes, x_columnFilled) (y_doc, y_tracking, y_view, y_done, y_steps, y_lines, y_columns, y_rounds, y_known, y_many, y_styleOf, y_markOf, y_words, y_width, y_note, y_status, y_styles, y_pages, y_stepKind, y_stepA, y_stepB, y_stepC, y_stepOn, y_ofParagraph, y_firstWord, y_wordsOf, y_slack, y_begin, y_needs, y_notes, y_columnOf, y_topOf, y_firstLine, y_label, y_labelWide, y_counter, y_refWide, y_nextWide, y_columnLine, y_columnLines, y_filled, y_foot)) (h : ∀ y_lines y_columns y_rounds y_label y_labelWide y_counter y_refWide y_nextWide y_firstLine y_ofParagraph y_firstWord y_wordsOf y_slack y_begin y_needs y_notes y_columnOf y_topOf y_columnLine y_columnLines y_filled y_foot, ly_OK x_doc x_view y_rounds y_columns y_label y_refWide y_firstLine y_ofParagraph y_firstWord y_wordsOf y_slack y_begin y_needs y_notes y_columnOf y_topOf y_columnLine y_columnLines y_filled y_foot → i_Rel k (x_tracking, x_view, x_slotNow, x_stepsBack, x_stepsAgain, x_stale, x_rounds, x_columnCount, x_doc, x_kept, x_referenceWidth, x_labelValue, x_labelWidth, x_lineCount, x_gapBefore, x_headNeeds, x_groupNeeds, x_wordLine, x_wordLeft, x_lineFirst, x_lineWords, x_lineLeft, x_lineSlack, x_lineNotes, x_lineColumn, x_lineTop, x_columnParagraph, x_columnFirst, x_columnLines, x_columnNotes, x_columnFilled) (y_doc, y_tracking, y_view, y_done, y_steps, y_lines, y_columns, y_rounds, 1, y_many, y_styleOf, y_markOf, y_words, y_width, y_note, y_status, y_styles, y_pages, y_stepKind, y_stepA, y_stepB, y_stepC, y_stepOn, y_ofParagraph, y_firstWord, y_wordsOf, y_slack, y_begin, y_needs, y_notes, y_columnOf, y_topOf, y_firstLine, y_label, y_labelWide, y_counter, y_refWide, y_nextWide, y_columnLine, y_columnLines, y_filled, y_foot) → post (y_doc, y_tracking, y_view, y_done, y_steps, y_lines, y_columns, y_rounds, 1, y_many, y_styleOf, y_markOf, y_words, y_width, y_note, y_status, y_styles, y_pages, y_stepKind, y_stepA, y_stepB, y_stepC, y_stepOn, y_ofParagraph, y_firstWord, y_wordsOf, y_slack, y_begin, y_needs, y_notes, y_columnOf, y_topOf, y_firstLine, y_label, y_labelWide, y_counter, y_refWide, y_nextWide, y_columnLine, y_columnLines, y_filled, y_foot)) : wpY_know post (y_doc, y_tracking, y_view, y_done, y_steps, y_lines, y_columns, y_rounds, y_known, y_many, y_styleOf, y_markOf, y_words, y_width, y_note, y_status, y_styles, y_pages, y_stepKind, y_stepA, y_stepB, y_stepC, y_stepOn, y_ofParagraph, y_firstWord, y_wordsOf, y_slack, y_begin, y_needs, y_notes, y_columnOf, y_topOf, y_firstLine, y_label, y_labelWide, y_counter, y_refWide, y_nextWide, y_columnLine, y_columnLines, y_filled, y_foot) := by
  obtain ⟨s, n, _, _, _, _, hv⟩ := re_f I
  have Z := re_z I
  obtain ⟨I1, I2, IL1, IL2, IL3, IL4, IL5⟩ := I
  refine ys_know hv Z IL3 IL5 ?_
  intro y_lines y_columns y_rounds y_label y_labelWide y_counter y_refWide y_nextWide y_firstLine y_ofParagraph y_firstWord y_wordsOf y_slack y_begin y_needs y_notes y_columnOf y_topOf y_columnLine y_columnLines y_filled y_foot G
  exact h _ _ _ _ _ _ _ _ _ _ _ _ _ _ _ _ _ _ _ _ _ _ (by rw [IL1]; exact G) ⟨I1, I2, IL1, IL2, Or.inr rfl, IL4, fun _ => G⟩
theorem re_isT {k : Nat} {post : Int32 → Prop} {x : Int32} (I : i_Rel k (x_tracking, x_view, x_slotNow, x_stepsBack, x_stepsAgain, x_stale, x_rounds, x_columnCount, x_doc, x_kept, x_referenceWidth, x_labelValue, x_labelWidth, x_lineCount, x_gapBefore, x_headNeeds, x_groupNeeds, x_wordLine, x_wordLeft, x_lineFirst, x_lineWords, x_lineLeft, x_lineSlack, x_lineNotes, x_lineColumn, x_lineTop, x_columnParagraph, x_columnFirst, x_columnLines, x_columnNotes, x_columnFilled) (y_doc, y_tracking, y_view, y_done, y_steps, y_lines, y_columns, y_rounds, y_known, y_many, y_styleOf, y_markOf, y_words, y_width, y_note, y_status, y_styles, y_pages, y_stepKind, y_stepA, y_stepB, y_stepC, y_stepOn, y_ofParagraph, y_firstWord, y_wordsOf, y_slack, y_begin, y_needs, y_notes, y_columnOf, y_topOf, y_firstLine, y_label, y_labelWide, y_counter, y_refWide, y_nextWide, y_columnLine, y_columnLines, y_filled, y_foot)) (h0 : ¬ (0 ≤ x ∧ x < x_doc 0) → post 0) (h1 : 0 ≤ x → x < x_doc 0 → post 1) : wpY_isThere post (y_doc, y_tracking, y_view, y_done, y_steps, y_lines, y_columns, y_rounds, y_known, y_many, y_styleOf, y_markOf, y_words, y_width, y_note, y_status, y_styles, y_pages, y_stepKind, y_stepA, y_stepB, y_stepC, y_stepOn, y_ofParagraph, y_firstWord, y_wordsOf, y_slack, y_begin, y_needs, y_notes, y_columnOf, y_topOf, y_firstLine, y_label, y_labelWide, y_counter, y_refWide, y_nextWide, y_columnLine, y_columnLines, y_filled, y_foot) x := by
  obtain ⟨s, n, _, _, _, _, hv⟩ := re_f I
  obtain ⟨⟨i1, i2, i3⟩, ⟨b, g, s, D, S1, S2, S3, S4, S5, S6, S7, S8⟩, IL⟩ := I
  have e : re_A (D b) (D 0) 0 = x_doc := S5.symm
  refine yr_isT (A := re_A (D b) (D 0)) (d := 0) i3 (by omega) S7 (by rw [e]; exact hv) ?_ ?_
  · rw [e]; exact h0
  · rw [e]; exact h1
theorem i_vc_total {k : Nat} {u : SX} {v : SY} (I : i_Rel k u v) (hk : k + 4 ≤ 2048) (v1 : Int32) : wpX_total (fun r u' => wpY_total (fun r' v' => r' = r ∧ i_Rel (k + 4) u' v') v v1) u v1 := by
  obtain ⟨x_tracking, x_view, x_slotNow, x_stepsBack, x_stepsAgain, x_stale, x_rounds, x_columnCount, x_doc, x_kept, x_referenceWidth, x_labelValue, x_labelWidth, x_lineCount, x_gapBefore, x_headNeeds, x_groupNeeds, x_wordLine, x_wordLeft, x_lineFirst, x_lineWords, x_lineLeft, x_lineSlack, x_lineNotes, x_lineColumn, x_lineTop, x_columnParagraph, x_columnFirst, x_columnLines, x_columnNotes, x_columnFilled⟩ := u
  obtain ⟨y_doc, y_tracking, y_view, y_done, y_steps, y_lines, y_columns, y_rounds, y_known, y_many, y_styleOf, y_markOf, y_words, y_width, y_note, y_status, y_styles, y_pages, y_stepKind, y_stepA, y_stepB, y_stepC, y_stepOn, y_ofParagraph, y_firstWord, y_wordsOf, y_slack, y_begin, y_needs, y_notes, y_columnOf, y_topOf, y_firstLine, y_label, y_labelWide, y_counter, y_refWide, y_nextWide, y_columnLine, y_columnLines, y_filled, y_foot⟩ := v
  unfold wpX_total
  refine re_x I ?_
  intro x_rounds x_columnCount x_referenceWidth x_labelValue x_labelWidth x_lineCount x_wordLine x_wordLeft x_lineFirst x_lineWords x_lineLeft x_lineSlack x_lineNotes x_gapBefore x_headNeeds x_groupNeeds x_lineColumn x_lineTop x_columnParagraph x_columnFirst x_columnLines x_columnNotes x_columnFilled GX I
  have fin : ∀ r : Int32, (∀ y_lines y_columns y_rounds y_label y_labelWide y_counter y_refWide y_nextWide y_firstLine y_ofParagraph y_firstWord y_wordsOf y_slack y_begin y_needs y_notes y_columnOf y_topOf y_columnLine y_columnLines y_filled y_foot, ly_OK x_doc x_view y_rounds y_columns y_label y_refWide y_firstLine y_ofParagraph y_firstWord y_wordsOf y_slack y_begin y_needs y_notes y_columnOf y_topOf y_columnLine y_columnLines y_filled y_foot →
      r = (if v1 = 0 then y_columns else if v1 = 1 then y_rounds else if v1 = 2 then y_many 0 else if v1 = 3 then y_done else if v1 = 4 then y_steps - y_done else -1)) → wpY_total (fun r' v' => r' = r ∧ i_Rel (k + 4) (x_tracking, x_view, x_slotNow, x_stepsBack, x_stepsAgain, 0, x_rounds, x_columnCount, x_doc, x_kept, x_referenceWidth, x_labelValue, x_labelWidth, x_lineCount, x_gapBefore, x_headNeeds, x_groupNeeds, x_wordLine, x_wordLeft, x_lineFirst, x_lineWords, x_lineLeft, x_lineSlack, x_lineNotes, x_lineColumn, x_lineTop, x_columnParagraph, x_columnFirst, x_columnLines, x_columnNotes, x_columnFilled) v') (y_doc, y_tracking, y_view, y_done, y_steps, y_lines, y_columns, y_rounds, y_known, y_many, y_styleOf, y_markOf, y_words, y_width, y_note, y_status, y_styles, y_pages, y_stepKind, y_stepA, y_stepB, y_stepC, y_stepOn, y_ofParagraph, y_firstWord, y_wordsOf, y_slack, y_begin, y_needs, y_notes, y_columnOf, y_topOf, y_firstLine, y_label, y_labelWide, y_counter, y_refWide, y_nextWide, y_columnLine, y_columnLines, y_filled, y_foot) v1 := fun r hr => by
    unfold wpY_total
    refine re_k I ?_
    intro y_lines y_columns y_rounds y_label y_labelWide y_counter y_refWide y_nextWide y_firstLine y_ofParagraph y_firstWord y_wordsOf y_slack y_begin y_needs y_notes y_columnOf y_topOf y_columnLine y_columnLines y_filled y_foot GY I
    have e := hr y_lines y_columns y_rounds _ y_labelWide y_counter _ y_nextWide _ _ _ _ _ _ _ _ _ _ _ _ _ _ GY
    exact br_c (fun q => ⟨by rw [e, if_pos q], I⟩) (fun q0 => br_c (fun q => ⟨by rw [e, if_neg q0, if_pos q], I⟩) (fun q1 => br_c (fun q => ⟨by rw [e, if_neg q0, if_neg q1, if_pos q], I⟩) (fun q2 => br_c (fun q => ⟨by rw [e, if_neg q0, if_neg q1, if_neg q2, if_pos q], I⟩) (fun q3 => br_c (fun q => ⟨by rw [e, if_neg q0, if_neg q1, if_neg q2, if_neg q3, if_pos q], I⟩) (fun q4 => ⟨by rw [e, if_neg q0, if_neg q1, if_neg q2, if_neg q3, if_neg q4], I⟩)))))
  have bad : ¬ (0 ≤ v1 ∧ v1 ≤ 4) → wpY_total (fun r' v' => r' = -1 ∧ i_Rel (k + 4) (x_tracking, x_view, x_slotNow, x_stepsBack, x_stepsAgain, 0, x_rounds, x_columnCount, x_doc, x_kept, x_referenceWidth, x_labelValue, x_labelWidth, x_lineCount, x_gapBefore, x_headNeeds, x_groupNeeds, x_wordLine, x_wordLeft, x_lineFirst, x_lineWords, x_lineLeft, x_lineSlack, x_lineNotes, x_lineColumn, x_lineTop, x_columnParagraph, x_columnFirst, x_columnLines, x_columnNotes, x_columnFilled) v') (y_doc, y_tracking, y_view, y_done, y_steps, y_lines, y_columns, y_rounds, y_known, y_many, y_styleOf, y_markOf, y_words, y_width, y_note, y_status, y_styles, y_pages, y_stepKind, y_stepA, y_stepB, y_stepC, y_stepOn, y_ofParagraph, y_firstWord, y_wordsOf, y_slack, y_begin, y_needs, y_notes, y_columnOf, y_topOf, y_firstLine, y_label, y_labelWide, y_counter, y_refWide, y_nextWide, y_columnLine, y_columnLines, y_filled, y_foot) v1 := fun z => fin (-1) fun _ _ _ _ _ _ _ _ _ _ _ _ _ _ _ _ _ _ _ _ _ _ _ => by
    have ne : ∀ m : Int32, 0 ≤ m ∧ m ≤ 4 → ¬ v1 = m := fun m hm e => z (e ▸ hm)
    rw [if_neg (ne 0 (by decide)), if_neg (ne 1 (by decide)), if_neg (ne 2 (by decide)), if_neg (ne 3 (by decide)), if_neg (ne 4 (by decide))]
  obtain ⟨r, fr, ro, _, _, fC⟩ := GX
  have Z := re_z I
  have J := I
  obtain ⟨_, ⟨b, g, s, D, S1, ⟨T1, T2, T3, T4, T5⟩, _⟩, _⟩ := J
  refine br_c (fun z => bad fun q => Int32.not_lt.mpr q.1 z) (fun z => br_c (fun y => bad fun q => Int32.not_lt.mpr q.2 y) (fun y => br_c (fun q => fin _ ?_) (fun q0 => br_c (fun q => fin _ ?_) (fun q1 => br_c (fun q => fin _ ?_) (fun q2 => br_c (fun q => fin _ ?_) (fun q3 => br_c (fun q => fin _ ?_) (fun q4 => trivial)))))))
  · intro _ _ _ _ _ _ _ _ _ _ _ _ _ _ _ _ _ _ _ _ _ _ ⟨r', fr', ro', _, _, _, _, fC'⟩
    rw [if_pos q, fC.1, fC'.1, la_finU fr fr']
  · intro _ _ _ _ _ _ _ _ _ _ _ _ _ _ _ _ _ _ _ _ _ _ ⟨r', fr', ro', _, _, _, _, fC'⟩
    rw [if_neg q0, if_pos q, ro, ro', la_finU fr fr']
  · intro _ _ _ _ _ _ _ _ _ _ _ _ _ _ _ _ _ _ _ _ _ _ _
    rw [if_neg q0, if_neg q1, if_pos q, Z.1]
  · intro _ _ _ _ _ _ _ _ _ _ _ _ _ _ _ _ _ _ _ _ _ _ _
    rw [if_neg q0, if_neg q1, if_neg q2, if_pos q, T1, T3]
  · intro _ _ _ _ _ _ _ _ _ _ _ _ _ _ _ _ _ _ _ _ _ _ _
    rw [if_neg q0, if_neg q1, if_neg q2, if_neg q3, if_pos q, T2, T3, T4, pk_sub (by omega)]
    exact congrArg nI (by omega)
theorem i_vc_column {k : Nat} {u : SX} {v : SY} (I : i_Rel k u v) (hk : k + 4 ≤ 2048) (v1 : Int32) (v2 : Int32) : wpX_column (fun r u' => wpY_column (fun r' v' => r' = r ∧ i_Rel (k + 4) u' v') v v1 v2) u v1 v2 := by
  obtain ⟨x_tracking, x_view, x_slotNow, x_stepsBack, x_stepsAgain, x_stale, x_rounds, x_columnCount, x_doc, x_kept, x_referenceWidth, x_labelValue, x_labelWidth, x_lineCount, x_gapBefore, x_headNeeds, x_groupNeeds, x_wordLine, x_wordLeft, x_lineFirst, x_lineWords, x_lineLeft, x_lineSlack, x_lineNotes, x_lineColumn, x_lineTop, x_columnParagraph, x_columnFirst, x_columnLines, x_columnNotes, x_columnFilled⟩ := u
  obtain ⟨y_doc, y_tracking, y_view, y_done, y_steps, y_lines, y_columns, y_rounds, y_known, y_many, y_styleOf, y_markOf, y_words, y_width, y_note, y_status, y_styles, y_pages, y_stepKind, y_stepA, y_stepB, y_stepC, y_stepOn, y_ofParagraph, y_firstWord, y_wordsOf, y_slack, y_begin, y_needs, y_notes, y_columnOf, y_topOf, y_firstLine, y_label, y_labelWide, y_counter, y_refWide, y_nextWide, y_columnLine, y_columnLines, y_filled, y_foot⟩ := v
  obtain ⟨s, n, _, _, _, _, hv⟩ := re_f I
  unfold wpX_column
  refine re_x I ?_
  intro x_rounds x_columnCount x_referenceWidth x_labelValue x_labelWidth x_lineCount x_wordLine x_wordLeft x_lineFirst x_lineWords x_lineLeft x_lineSlack x_lineNotes x_gapBefore x_headNeeds x_groupNeeds x_lineColumn x_lineTop x_columnParagraph x_columnFirst x_columnLines x_columnNotes x_columnFilled GX I
  obtain ⟨r, fr, ro, _, _, fC⟩ := GX
  have h24 := (dc_Vn hv).2
  obtain ⟨gJ, _⟩ := la_flI (rw := la_rk x_doc x_view (r - 1)) (vw := x_view) hv (dc_n x_doc) h24
  have gb := gJ.1
  have bad : (¬ (0 ≤ v1 ∧ v1 ≤ x_columnCount - 1) ∨ ¬ (0 ≤ v2 ∧ v2 ≤ 4)) → wpY_column (fun r' v' => r' = -1 ∧ i_Rel (k + 4) (x_tracking, x_view, x_slotNow, x_stepsBack, x_stepsAgain, 0, x_rounds, x_columnCount, x_doc, x_kept, x_referenceWidth, x_labelValue, x_labelWidth, x_lineCount, x_gapBefore, x_headNeeds, x_groupNeeds, x_wordLine, x_wordLeft, x_lineFirst, x_lineWords, x_lineLeft, x_lineSlack, x_lineNotes, x_lineColumn, x_lineTop, x_columnParagraph, x_columnFirst, x_columnLines, x_columnNotes, x_columnFilled) v') (y_doc, y_tracking, y_view, y_done, y_steps, y_lines, y_columns, y_rounds, y_known, y_many, y_styleOf, y_markOf, y_words, y_width, y_note, y_status, y_styles, y_pages, y_stepKind, y_stepA, y_stepB, y_stepC, y_stepOn, y_ofParagraph, y_firstWord, y_wordsOf, y_slack, y_begin, y_needs, y_notes, y_columnOf, y_topOf, y_firstLine, y_label, y_labelWide, y_counter, y_refWide, y_nextWide, y_columnLine, y_columnLines, y_filled, y_foot) v1 v2 := fun z => by
    unfold wpY_column
    refine re_k I ?_
    intro y_lines y_columns y_rounds y_label y_labelWide y_counter y_refWide y_nextWide y_firstLine y_ofParagraph y_firstWord y_wordsOf y_slack y_begin y_needs y_notes y_columnOf y_topOf y_columnLine y_columnLines y_filled y_foot ⟨r', fr', _, _, _, _, _, fC'⟩ I
    obtain rfl := la_finU fr fr'
    have ec : y_columns = x_columnCount := fC'.1.trans fC.1.symm
    rw [ec]
    rw [ec] at I
    refine yr_in (fun q => br_t rfl ⟨rfl, I⟩) (fun q1 q2 => br_f (by decide) (br_c (fun _ => ⟨rfl, I⟩) (fun w1 => br_c (fun _ => ⟨rfl, I⟩) (fun w2 => ?_))))
    rcases z with z | z
    · exact absurd ⟨q1, q2⟩ z
    · exact absurd ⟨Int32.not_lt.mp w1, Int32.not_lt.mp w2⟩ z
  refine xr_in (fun z => br_t rfl (bad (Or.inl z))) (fun z1 z2 => br_f (by decide) (br_c (fun w => bad (Or.inr fun q => Int32.not_lt.mpr q.1 w)) (fun w1 => br_c (fun w => bad (Or.inr fun q => Int32.not_lt.mpr q.2 w)) (fun w2 => ?_))))
  have z2' := z2
  rw [fC.1, op_m1 (by omega) z1] at z2'
  obtain ⟨c, hc, rfl⟩ := op_ix z1 z2' (by omega)
  obtain ⟨f1, f2, f3, f4, f5⟩ := fC.2.1 c hc
  have jc := vp_in_nI (n := c) (N := 384) (by omega) (by omega)
  have cc := nI_clamp (n := c) (by omega)
  have go : ∀ val : Int32, (∀ (q j : Nat), (la_fl x_doc x_view (la_rk x_doc x_view (r - 1)) (dc_n x_doc)).2.1 c = nI q → (la_fl x_doc x_view (la_rk x_doc x_view (r - 1)) (dc_n x_doc)).2.2.1 c = nI j →
      val = (if v2 = 0 then nI q else if v2 = 1 then nI j else if v2 = 2 then (la_fl x_doc x_view (la_rk x_doc x_view (r - 1)) (dc_n x_doc)).2.2.2.1 c else if v2 = 3 then (la_fl x_doc x_view (la_rk x_doc x_view (r - 1)) (dc_n x_doc)).2.2.2.2.1 c else (la_fl x_doc x_view (la_rk x_doc x_view (r - 1)) (dc_n x_doc)).2.2.2.2.2.1 c)) →
      wpY_column (fun r' v' => r' = val ∧ i_Rel (k + 4) (x_tracking, x_view, x_slotNow, x_stepsBack, x_stepsAgain, 0, x_rounds, x_columnCount, x_doc, x_kept, x_referenceWidth, x_labelValue, x_labelWidth, x_lineCount, x_gapBefore, x_headNeeds, x_groupNeeds, x_wordLine, x_wordLeft, x_lineFirst, x_lineWords, x_lineLeft, x_lineSlack, x_lineNotes, x_lineColumn, x_lineTop, x_columnParagraph, x_columnFirst, x_columnLines, x_columnNotes, x_columnFilled) v') (y_doc, y_tracking, y_view, y_done, y_steps, y_lines, y_columns, y_rounds, y_known, y_many, y_styleOf, y_markOf, y_words, y_width, y_note, y_status, y_styles, y_pages, y_stepKind, y_stepA, y_stepB, y_stepC, y_stepOn, y_ofParagraph, y_firstWord, y_wordsOf, y_slack, y_begin, y_needs, y_notes, y_columnOf, y_topOf, y_firstLine, y_label, y_labelWide, y_counter, y_refWide, y_nextWide, y_columnLine, y_columnLines, y_filled, y_foot) (nI c) v2 := fun val hval => by
    unfold wpY_column
    refine re_k I ?_
    intro y_lines y_columns y_rounds y_label y_labelWide y_counter y_refWide y_nextWide y_firstLine y_ofParagraph y_firstWord y_wordsOf y_slack y_begin y_needs y_notes y_columnOf y_topOf y_columnLine y_columnLines y_filled y_foot ⟨r', fr', _, _, _, hB, hF, fC'⟩ I
    obtain rfl := la_finU fr fr'
    have ec : y_columns = x_columnCount := fC'.1.trans fC.1.symm
    rw [ec]
    rw [ec] at I
    obtain ⟨t1, t2, t3, q, j, t4, t5, t6, t7, t8⟩ := fC'.2.1 c hc
    have e := hval q j t6 t7
    have hFs := la_FsB (rw := la_rk x_doc x_view (r - 1)) (vw := x_view) hv (p := q) (by omega)
    have hnl := (la_nlP (a := x_doc) (rw := la_rk x_doc x_view (r - 1)) (vw := x_view) (dc_Vw hv (p := q) (by omega)).2).2.1
    have el : y_columnLine (nI c).toNatClampNeg = nI (la_Fs x_doc x_view (la_rk x_doc x_view (r - 1)) q + j) := by rw [cc, t8]
    have eo := (hB q j (Or.inl ⟨t4, t5⟩)).1
    refine yr_in (fun z => absurd ⟨z1, z2⟩ z) (fun _ _ => br_f (by decide) (br_f w1 (br_f w2 (br_c (fun s => ⟨jc, ?_⟩) (fun s0 => br_c (fun s => ⟨jc, jc, ?_⟩) (fun s1 => br_c (fun s => ⟨jc, ?_⟩) (fun s2 => br_c (fun s => ⟨jc, ?_⟩) (fun s3 => br_c (fun s => ⟨jc, ?_⟩) (fun s4 => trivial)))))))))
    · rw [el]
      refine ⟨vp_in_nI (by omega) (by omega), ?_, I⟩
      rw [nI_clamp (by omega), eo, e, if_pos s]
    · rw [el]
      refine ⟨vp_in_nI (by omega) (by omega), ?_⟩
      rw [nI_clamp (by omega), eo]
      refine ⟨vp_in_nI (by omega) (by omega), ?_, I⟩
      rw [nI_clamp (by omega), hF q (by omega), pk_sub (by omega), e, if_neg s0, if_pos s]
      exact congrArg nI (by omega)
    · exact ⟨by rw [cc, t1, e, if_neg s0, if_neg s1, if_pos s], I⟩
    · exact ⟨by rw [cc, t2, e, if_neg s0, if_neg s1, if_neg s2, if_pos s], I⟩
    · exact ⟨by rw [cc, t3, e, if_neg s0, if_neg s1, if_neg s2, if_neg s3], I⟩
  refine br_c (fun s => ⟨jc, go _ fun q j e1 e2 => ?_⟩) (fun s0 => br_c (fun s => ⟨jc, go _ fun q j e1 e2 => ?_⟩) (fun s1 => br_c (fun s => ⟨jc, go _ fun q j e1 e2 => ?_⟩) (fun s2 => br_c (fun s => ⟨jc, go _ fun q j e1 e2 => ?_⟩) (fun s3 => br_c (fun s => ⟨jc, go _ fun q j e1 e2 => ?_⟩) (fun s4 => trivial)))))
  · rw [cc, f1, e1, if_pos s]
  · rw [cc, f2, e2, if_neg s0, if_pos s]
  · rw [cc, f3, if_neg s0, if_neg s1, if_pos s]
  · rw [cc, f4, if_neg s0, if_neg s1, if_neg s2, if_pos s]
  · rw [cc, f5, if_neg s0, if_neg s1, if_neg s2, if_neg s3]
end
section
def rd_p (a : Nat → Int32) (vw : Int32) (rw : Nat → Int32) (p t : Nat) : Int32 := if t = 0 then nI (la_nl a vw rw p) else if t = 1 then la_lb a p else if t = 2 then a (76 + 51 * p) else if t = 3 then a (77 + 51 * p) else if t = 4 then a (78 + 51 * p) else nI (dc_cg a p (dc_w a p))
def rd_l (a : Nat → Int32) (vw : Int32) (rw : Nat → Int32) (p k t : Nat) : Int32 := if t = 0 then nI (la_f a vw rw p k) else if t = 1 then nI (la_t a vw rw p k) else if t = 2 then (la_fl a vw rw (dc_n a)).2.2.2.2.2.2.1 (16 * p + k) else if t = 3 then (la_fl a vw rw (dc_n a)).2.2.2.2.2.2.2 (16 * p + k) else if t = 4 then la_al a vw rw p k else la_sl a vw rw p k
variable {x_tracking x_view x_slotNow x_stepsBack x_stepsAgain x_stale x_rounds x_columnCount : Int32} {x_doc x_kept x_referenceWidth x_labelValue x_labelWidth x_lineCount x_gapBefore x_headNeeds x_groupNeeds x_wordLine x_wordLeft x_lineFirst x_lineWords x_lineLeft x_lineSlack x_lineNotes x_lineColumn x_lineTop x_columnParagraph x_columnFirst x_columnLines x_columnNotes x_columnFilled : Nat → Int32} {y_doc y_tracking y_view y_done y_steps y_lines y_columns y_rounds y_known : Int32} {y_many y_styleOf y_markOf y_words y_width y_note y_status y_styles y_pages y_stepKind y_stepA y_stepB y_stepC y_stepOn y_ofParagraph y_firstWord y_wordsOf y_slack y_begin y_needs y_notes y_columnOf y_topOf y_firstLine y_label y_labelWide y_counter y_refWide y_nextWide y_columnLine y_columnLines y_filled y_foot : Nat → Int32} {a rw : Nat → Int32}
theorem yr_paL {post : Int32 → SY → Prop} {p t : Nat} (hv : dc_V a) (Z : yz_Z a y_many y_pages y_styles y_styleOf y_markOf y_words y_width y_note y_status) (HF : ∀ q, q ≤ dc_n a → y_firstLine q = nI (la_Fs a y_view rw q)) (hp : p < dc_n a) (ht : t ≤ 5) (hlb : y_label p = la_lb a p) (h : post (rd_p a y_view rw p t) (y_doc, y_tracking, y_view, y_done, y_steps, y_lines, y_columns, y_rounds, y_known, y_many, y_styleOf, y_markOf, y_words, y_width, y_note, y_status, y_styles, y_pages, y_stepKind, y_stepA, y_stepB, y_stepC, y_stepOn, y_ofParagraph, y_firstWord, y_wordsOf, y_slack, y_begin, y_needs, y_notes, y_columnOf, y_topOf, y_firstLine, y_label, y_labelWide, y_counter, y_refWide, y_nextWide, y_columnLine, y_columnLines, y_filled, y_foot)) : ∀ d w, w + d = dc_w a p →
    wY_paragraph_29 post (nI p) (nI t) y_doc y_tracking y_view y_done y_steps y_lines y_columns y_rounds y_known y_many y_styleOf y_markOf y_words y_width y_note y_status y_styles y_pages y_stepKind y_stepA y_stepB y_stepC y_stepOn y_ofParagraph y_firstWord y_wordsOf y_slack y_begin y_needs y_notes y_columnOf y_topOf y_firstLine y_label y_labelWide y_counter y_refWide y_nextWide y_columnLine y_columnLines y_filled y_foot (d + 1) (nI (dc_cg a p w)) (nI w)
  | 0, w, hw => by
    have h24 := (dc_Vn hv).2
    obtain ⟨ew, h16⟩ := dc_Vw hv (p := p) (by omega)
    obtain rfl : w = dc_w a p := by omega
    have jp := vp_in_nI (n := p) (N := 48) (by omega) (by omega)
    have jp24 := vp_in_nI (n := p) (N := 24) (by omega) (by omega)
    have cp := nI_clamp (n := p) (by omega)
    unfold rd_p at h
    refine ⟨jp, ?_⟩
    rw [cp, Z.2.2.2.2.2.1 p (by omega), ew]
    refine br_t (nI_le (by omega) (by omega)) (br_f (nI_pos (by omega)) (pk_lt 4 t (fun z => ?_) (fun z => pk_eq t 0 (fun q => yr_lo' hv HF rfl hp ?_) (fun q0 => pk_eq t 1 (fun q => ⟨jp24, ?_⟩) (fun q1 => pk_eq t 2 (fun q => ⟨jp, ?_⟩) (fun q2 => pk_eq t 3 (fun q => ⟨jp, ?_⟩) (fun q3 => pk_eq t 4 (fun q => ⟨jp, ?_⟩) (fun q4 => trivial))))))))
    · rw [if_neg (by omega), if_neg (by omega), if_neg (by omega), if_neg (by omega), if_neg (by omega)] at h; exact h
    · rw [if_pos q] at h; exact h
    · rw [if_neg q0, if_pos q] at h; rw [hlb]; exact h
    · rw [if_neg q0, if_neg q1, if_pos q] at h; rw [Z.2.2.2.1 p (by omega)]; exact h
    · rw [if_neg q0, if_neg q1, if_neg q2, if_pos q] at h; rw [Z.2.2.2.2.1 p (by omega)]; exact h
    · rw [if_neg q0, if_neg q1, if_neg q2, if_neg q3, if_pos q, ew] at h; exact h
  | d + 1, w, hw => by
    have h24 := (dc_Vn hv).2
    obtain ⟨ew, h16⟩ := dc_Vw hv (p := p) (by omega)
    have e1 := ad_yl p w
    refine ⟨vp_in_nI (by omega) (by omega), ?_⟩
    rw [nI_clamp (n := p) (by omega), Z.2.2.2.2.2.1 p (by omega), ew]
    refine br_f (nI_ge (by omega) (by omega)) ⟨ix_in e1 (by omega) (by omega), ?_⟩
    rw [ix_c e1 (by omega), Z.2.2.2.2.2.2.2.2 p w (by omega) (by omega)]
    have L := yr_paL hv Z HF hp ht hlb h d (w + 1) (by omega)
    have ec : dc_cg a p (w + 1) = dc_cg a p w + if a (81 + 51 * p + 3 * w) = 0 then 0 else 1 := rfl
    refine br_c (fun z => nm_r (nI_1 _) ?_) (fun z => nm_r (nI_1 _) (nm_r (nI_1 _) ?_))
    · rw [if_pos z] at ec; rw [ec] at L; exact L
    · rw [if_neg z] at ec; rw [ec] at L; exact L
theorem yr_st {post : Int32 → Prop} {x : Int32} {p k : Nat} (hv : dc_V a) (Z : yz_Z a y_many y_pages y_styles y_styleOf y_markOf y_words y_width y_note y_status) (HB : yb_B a y_view rw (dc_n a) 0 y_ofParagraph y_firstWord y_wordsOf y_slack y_begin y_needs y_notes) (hp : p < dc_n a) (hk : k < la_nl a y_view rw p) (hx : x = nI (la_Fs a y_view rw p + k)) (h : post (la_al a y_view rw p k)) : wpY_startOf post (y_doc, y_tracking, y_view, y_done, y_steps, y_lines, y_columns, y_rounds, y_known, y_many, y_styleOf, y_markOf, y_words, y_width, y_note, y_status, y_styles, y_pages, y_stepKind, y_stepA, y_stepB, y_stepC, y_stepOn, y_ofParagraph, y_firstWord, y_wordsOf, y_slack, y_begin, y_needs, y_notes, y_columnOf, y_topOf, y_firstLine, y_label, y_labelWide, y_counter, y_refWide, y_nextWide, y_columnLine, y_columnLines, y_filled, y_foot) x := by
  have h24 := (dc_Vn hv).2
  have hF := la_FsB (rw := rw) (vw := y_view) hv (p := p) (by omega)
  have hn := (la_nlP (a := a) (rw := rw) (vw := y_view) (dc_Vw hv (p := p) (by omega)).2).2.1
  obtain ⟨b1, _, _, b4, b5, _, _⟩ := HB p k (Or.inl ⟨hp, hk⟩)
  have jx := ix_in (N := 384) hx (by omega) (by omega)
  have cx := ix_c hx (by omega)
  refine ⟨jx, ?_⟩
  rw [cx, b1]
  unfold la_al at h
  refine yr_tr hv Z rfl (by omega) (t := 6) rfl (by omega) ⟨jx, br_c (fun z => ⟨jx, ?_⟩) (fun z => br_c (fun y => ⟨jx, by decide, ?_⟩) (fun y => ?_))⟩
  · rw [if_pos z] at h; rw [b5, b4]; exact h
  · rw [if_neg z, if_pos y] at h; rw [b5, b4]; exact h
  · rw [if_neg z, if_neg y] at h; rw [b5, Int32.add_zero]; exact h
theorem i_vc_paragraph {k : Nat} {u : SX} {v : SY} (I : i_Rel k u v) (hk : k + 4 ≤ 2048) (v1 : Int32) (v2 : Int32) : wpX_paragraph (fun r u' => wpY_paragraph (fun r' v' => r' = r ∧ i_Rel (k + 4) u' v') v v1 v2) u v1 v2 := by
  obtain ⟨x_tracking, x_view, x_slotNow, x_stepsBack, x_stepsAgain, x_stale, x_rounds, x_columnCount, x_doc, x_kept, x_referenceWidth, x_labelValue, x_labelWidth, x_lineCount, x_gapBefore, x_headNeeds, x_groupNeeds, x_wordLine, x_wordLeft, x_lineFirst, x_lineWords, x_lineLeft, x_lineSlack, x_lineNotes, x_lineColumn, x_lineTop, x_columnParagraph, x_columnFirst, x_columnLines, x_columnNotes, x_columnFilled⟩ := u
  obtain ⟨y_doc, y_tracking, y_view, y_done, y_steps, y_lines, y_columns, y_rounds, y_known, y_many, y_styleOf, y_markOf, y_words, y_width, y_note, y_status, y_styles, y_pages, y_stepKind, y_stepA, y_stepB, y_stepC, y_stepOn, y_ofParagraph, y_firstWord, y_wordsOf, y_slack, y_begin, y_needs, y_notes, y_columnOf, y_topOf, y_firstLine, y_label, y_labelWide, y_counter, y_refWide, y_nextWide, y_columnLine, y_columnLines, y_filled, y_foot⟩ := v
  obtain ⟨s, n, _, _, _, _, hv⟩ := re_f I
  obtain ⟨e0, h24⟩ := dc_Vn hv
  unfold wpX_paragraph
  refine xr_isP (fun z => br_t rfl ?_) (fun z1 z2 => br_f (by decide) (re_x I ?_))
  · unfold wpY_paragraph
    exact re_isT I (fun _ => br_t rfl ⟨rfl, I⟩) (fun q1 q2 => absurd ⟨q1, q2⟩ z)
  · intro x_rounds x_columnCount x_referenceWidth x_labelValue x_labelWidth x_lineCount x_wordLine x_wordLeft x_lineFirst x_lineWords x_lineLeft x_lineSlack x_lineNotes x_gapBefore x_headNeeds x_groupNeeds x_lineColumn x_lineTop x_columnParagraph x_columnFirst x_columnLines x_columnNotes x_columnFilled GX I
    obtain ⟨j, hj, rfl⟩ := op_ix z1 (e0 ▸ z2) (by omega)
    have Z := re_z I
    have bad : ¬ (0 ≤ v2 ∧ v2 ≤ 5) → wpY_paragraph (fun r' v' => r' = -2 ∧ i_Rel (k + 4) (x_tracking, x_view, x_slotNow, x_stepsBack, x_stepsAgain, 0, x_rounds, x_columnCount, x_doc, x_kept, x_referenceWidth, x_labelValue, x_labelWidth, x_lineCount, x_gapBefore, x_headNeeds, x_groupNeeds, x_wordLine, x_wordLeft, x_lineFirst, x_lineWords, x_lineLeft, x_lineSlack, x_lineNotes, x_lineColumn, x_lineTop, x_columnParagraph, x_columnFirst, x_columnLines, x_columnNotes, x_columnFilled) v') (y_doc, y_tracking, y_view, y_done, y_steps, y_lines, y_columns, y_rounds, y_known, y_many, y_styleOf, y_markOf, y_words, y_width, y_note, y_status, y_styles, y_pages, y_stepKind, y_stepA, y_stepB, y_stepC, y_stepOn, y_ofParagraph, y_firstWord, y_wordsOf, y_slack, y_begin, y_needs, y_notes, y_columnOf, y_topOf, y_firstLine, y_label, y_labelWide, y_counter, y_refWide, y_nextWide, y_columnLine, y_columnLines, y_filled, y_foot) (nI j) v2 := fun z => by
      unfold wpY_paragraph
      exact re_isT I (fun q => absurd ⟨z1, z2⟩ q) (fun _ _ => br_f (by decide) (yr_in (fun _ => br_t rfl ⟨rfl, I⟩) (fun q1 q2 => absurd ⟨q1, q2⟩ z)))
    refine br_c (fun w => bad fun q => Int32.not_lt.mpr q.1 w) (fun w1 => br_c (fun w => bad fun q => Int32.not_lt.mpr q.2 w) (fun w2 => ?_))
    obtain ⟨t, ht, rfl⟩ := op_ix2 (n := 5) (x := v2) (Int32.not_lt.mp w1) (Int32.not_lt.mp w2) (by omega)
    obtain ⟨r, fr, ro, lb, xB, fC⟩ := GX
    have eview : x_view = y_view := I.2.2.1
    have go : ∀ val : Int32, val = rd_p x_doc x_view (la_rk x_doc x_view (r - 1)) j t → wpY_paragraph (fun r' v' => r' = val ∧ i_Rel (k + 4) (x_tracking, x_view, x_slotNow, x_stepsBack, x_stepsAgain, 0, x_rounds, x_columnCount, x_doc, x_kept, x_referenceWidth, x_labelValue, x_labelWidth, x_lineCount, x_gapBefore, x_headNeeds, x_groupNeeds, x_wordLine, x_wordLeft, x_lineFirst, x_lineWords, x_lineLeft, x_lineSlack, x_lineNotes, x_lineColumn, x_lineTop, x_columnParagraph, x_columnFirst, x_columnLines, x_columnNotes, x_columnFilled) v') (y_doc, y_tracking, y_view, y_done, y_steps, y_lines, y_columns, y_rounds, y_known, y_many, y_styleOf, y_markOf, y_words, y_width, y_note, y_status, y_styles, y_pages, y_stepKind, y_stepA, y_stepB, y_stepC, y_stepOn, y_ofParagraph, y_firstWord, y_wordsOf, y_slack, y_begin, y_needs, y_notes, y_columnOf, y_topOf, y_firstLine, y_label, y_labelWide, y_counter, y_refWide, y_nextWide, y_columnLine, y_columnLines, y_filled, y_foot) (nI j) (nI t) := fun val hval => by
      subst hval
      unfold wpY_paragraph
      refine re_isT I (fun q => absurd ⟨z1, z2⟩ q) (fun _ _ => br_f (by decide) (yr_in (fun q => absurd ⟨Int32.not_lt.mp w1, Int32.not_lt.mp w2⟩ q) (fun _ _ => br_f (by decide) (re_k I ?_))))
      intro y_lines y_columns y_rounds y_label y_labelWide y_counter y_refWide y_nextWide y_firstLine y_ofParagraph y_firstWord y_wordsOf y_slack y_begin y_needs y_notes y_columnOf y_topOf y_columnLine y_columnLines y_filled y_foot ⟨r', fr', _, lb', _, hB, hF, fC'⟩ I
      obtain rfl := la_finU fr fr'
      subst eview
      exact ⟨_, yr_paL hv Z hF hj ht (lb' j hj) ⟨rfl, I⟩ (dc_w x_doc j) 0 (by omega)⟩
    have jp := vp_in_nI (n := j) (N := 24) (by omega) (by omega)
    have cp := nI_clamp (n := j) (by omega)
    obtain ⟨ew, h16⟩ := dc_Vw hv (p := j) (by omega)
    refine pk_eq t 0 (fun q => ⟨jp, go _ ?_⟩) (fun q0 => pk_eq t 1 (fun q => ⟨jp, go _ ?_⟩) (fun q1 => pk_eq t 2 (fun q => xr_rec rfl ⟨ix_in (ad_0 _) (by omega) (by omega), go _ ?_⟩) (fun q2 => pk_eq t 3 (fun q => xr_rec rfl ⟨ix_in (nI_1 _) (by omega) (by omega), go _ ?_⟩) (fun q3 => pk_eq t 4 (fun q => xr_wo rfl (by omega) (go _ ?_)) (fun q4 => pk_eq t 5 (fun q => xs_cg rfl hv (by omega) (go _ ?_)) (fun q5 => trivial))))))
    · rw [cp, (xB j hj).1]; unfold rd_p; rw [if_pos q]
    · rw [cp, lb j hj]; unfold rd_p; rw [if_neg q0, if_pos q]
    · rw [ix_c (ad_0 _) (by omega)]; unfold rd_p; rw [if_neg q0, if_neg q1, if_pos q]
    · rw [ix_c (nI_1 _) (by omega), show 76 + 51 * j + 1 = 77 + 51 * j from by omega]; unfold rd_p; rw [if_neg q0, if_neg q1, if_neg q2, if_pos q]
    · unfold rd_p; rw [if_neg q0, if_neg q1, if_neg q2, if_neg q3, if_pos q]
    · unfold rd_p; rw [if_neg q0, if_neg q1, if_neg q2, if_neg q3, if_neg q4]
theorem i_vc_line {k : Nat} {u : SX} {v : SY} (I : i_Rel k u v) (hk : k + 4 ≤ 2048) (v1 : Int32) (v2 : Int32) (v3 : Int32) : wpX_line (fun r u' => wpY_line (fun r' v' => r' = r ∧ i_Rel (k + 4) u' v') v v1 v2 v3) u v1 v2 v3 := by
  obtain ⟨x_tracking, x_view, x_slotNow, x_stepsBack, x_stepsAgain, x_stale, x_rounds, x_columnCount, x_doc, x_kept, x_referenceWidth, x_labelValue, x_labelWidth, x_lineCount, x_gapBefore, x_headNeeds, x_groupNeeds, x_wordLine, x_wordLeft, x_lineFirst, x_lineWords, x_lineLeft, x_lineSlack, x_lineNotes, x_lineColumn, x_lineTop, x_columnParagraph, x_columnFirst, x_columnLines, x_columnNotes, x_columnFilled⟩ := u
  obtain ⟨y_doc, y_tracking, y_view, y_done, y_steps, y_lines, y_columns, y_rounds, y_known, y_many, y_styleOf, y_markOf, y_words, y_width, y_note, y_status, y_styles, y_pages, y_stepKind, y_stepA, y_stepB, y_stepC, y_stepOn, y_ofParagraph, y_firstWord, y_wordsOf, y_slack, y_begin, y_needs, y_notes, y_columnOf, y_topOf, y_firstLine, y_label, y_labelWide, y_counter, y_refWide, y_nextWide, y_columnLine, y_columnLines, y_filled, y_foot⟩ := v
  obtain ⟨s, n, _, _, _, _, hv⟩ := re_f I
  obtain ⟨e0, h24⟩ := dc_Vn hv
  unfold wpX_line
  refine xr_isP (fun z => br_t rfl ?_) (fun z1 z2 => br_f (by decide) (re_x I ?_))
  · unfold wpY_line
    exact re_isT I (fun _ => br_t rfl ⟨rfl, I⟩) (fun q1 q2 => absurd ⟨q1, q2⟩ z)
  · intro x_rounds x_columnCount x_referenceWidth x_labelValue x_labelWidth x_lineCount x_wordLine x_wordLeft x_lineFirst x_lineWords x_lineLeft x_lineSlack x_lineNotes x_gapBefore x_headNeeds x_groupNeeds x_lineColumn x_lineTop x_columnParagraph x_columnFirst x_columnLines x_columnNotes x_columnFilled GX I
    obtain ⟨j, hj, rfl⟩ := op_ix z1 (e0 ▸ z2) (by omega)
    have Z := re_z I
    obtain ⟨r, fr, ro, lb, xB, fC⟩ := GX
    have eview : x_view = y_view := I.2.2.1
    obtain ⟨hlc, hT, _⟩ := xB j hj
    have hn := la_nlP (a := x_doc) (rw := la_rk x_doc x_view (r - 1)) (vw := x_view) (dc_Vw hv (p := j) (by omega)).2
    have hF' := la_FsB (rw := la_rk x_doc x_view (r - 1)) (vw := x_view) hv (p := j) (by omega)
    have go : ∀ val : Int32, (¬ (0 ≤ v3 ∧ v3 ≤ 5) → val = -1) → ((0 ≤ v3 ∧ v3 ≤ 5) → ¬ (0 ≤ v2 ∧ v2 ≤ nI (la_nl x_doc x_view (la_rk x_doc x_view (r - 1)) j) - 1) → val = -1) →
        (∀ i t, i < la_nl x_doc x_view (la_rk x_doc x_view (r - 1)) j → t ≤ 5 → v2 = nI i → v3 = nI t → val = rd_l x_doc x_view (la_rk x_doc x_view (r - 1)) j i t) → wpY_line (fun r' v' => r' = val ∧ i_Rel (k + 4) (x_tracking, x_view, x_slotNow, x_stepsBack, x_stepsAgain, 0, x_rounds, x_columnCount, x_doc, x_kept, x_referenceWidth, x_labelValue, x_labelWidth, x_lineCount, x_gapBefore, x_headNeeds, x_groupNeeds, x_wordLine, x_wordLeft, x_lineFirst, x_lineWords, x_lineLeft, x_lineSlack, x_lineNotes, x_lineColumn, x_lineTop, x_columnParagraph, x_columnFirst, x_columnLines, x_columnNotes, x_columnFilled) v') (y_doc, y_tracking, y_view, y_done, y_steps, y_lines, y_columns, y_rounds, y_known, y_many, y_styleOf, y_markOf, y_words, y_width, y_note, y_status, y_styles, y_pages, y_stepKind, y_stepA, y_stepB, y_stepC, y_stepOn, y_ofParagraph, y_firstWord, y_wordsOf, y_slack, y_begin, y_needs, y_notes, y_columnOf, y_topOf, y_firstLine, y_label, y_labelWide, y_counter, y_refWide, y_nextWide, y_columnLine, y_columnLines, y_filled, y_foot) (nI j) v2 v3 := fun val h1 h2 h3 => by
      unfold wpY_line
      refine re_isT I (fun q => absurd ⟨z1, z2⟩ q) (fun _ _ => br_f (by decide) (yr_in (fun q => br_t rfl ⟨(h1 q).symm, I⟩) (fun t1 t2 => br_f (by decide) (re_k I ?_))))
      intro y_lines y_columns y_rounds y_label y_labelWide y_counter y_refWide y_nextWide y_firstLine y_ofParagraph y_firstWord y_wordsOf y_slack y_begin y_needs y_notes y_columnOf y_topOf y_columnLine y_columnLines y_filled y_foot ⟨r', fr', _, lb', _, hB, hF, fC'⟩ I
      obtain rfl := la_finU fr fr'
      subst eview
      refine yr_lo' hv hF rfl hj (yr_in (fun q => br_t rfl ⟨(h2 ⟨t1, t2⟩ q).symm, I⟩) (fun k1 k2 => br_f (by decide) ⟨vp_in_nI (by omega) (by omega), ?_⟩))
      have k2' := k2
      rw [op_m1 (by omega) k1] at k2'
      obtain ⟨i, hi, rfl⟩ := op_ix k1 k2' (by omega)
      obtain ⟨t, ht, rfl⟩ := op_ix2 (n := 5) t1 t2 (by omega)
      have hval := h3 i t hi ht rfl rfl
      subst hval
      obtain ⟨b1, b2, b3, b4, b5, b6, b7⟩ := hB j i (Or.inl ⟨hj, hi⟩)
      obtain ⟨c1, c2⟩ := fC'.2.2 j i (Or.inl ⟨hj, hi⟩)
      have jl := vp_in_nI (n := la_Fs x_doc x_view (la_rk x_doc x_view (r - 1)) j + i) (N := 384) (by omega) (by omega)
      have cl := nI_clamp (n := la_Fs x_doc x_view (la_rk x_doc x_view (r - 1)) j + i) (by omega)
      refine nm_r (e' := nI (la_Fs x_doc x_view (la_rk x_doc x_view (r - 1)) j + i)) (by rw [nI_clamp (by omega), hF j (by omega), nI_add]) (br_f (nI_pos (by omega)) (pk_lt 4 t (fun q => ⟨jl, ?_, I⟩) (fun q => pk_eq t 0 (fun q => ⟨jl, ?_, I⟩) (fun q0 => pk_eq t 1 (fun q => ⟨jl, ?_, I⟩) (fun q1 => pk_eq t 2 (fun q => ⟨jl, ?_, I⟩) (fun q2 => pk_eq t 3 (fun q => ⟨jl, ?_, I⟩) (fun q3 => pk_eq t 4 (fun q => yr_st hv Z hB hj hi rfl ⟨?_, I⟩) (fun q4 => trivial))))))))
      · rw [cl, b4]; unfold rd_l; rw [if_neg (by omega), if_neg (by omega), if_neg (by omega), if_neg (by omega), if_neg (by omega)]
      · rw [cl, b2]; unfold rd_l; rw [if_pos q]
      · rw [cl, b3]; unfold rd_l; rw [if_neg q0, if_pos q]
      · rw [cl, c1]; unfold rd_l; rw [if_neg q0, if_neg q1, if_pos q]
      · rw [cl, c2]; unfold rd_l; rw [if_neg q0, if_neg q1, if_neg q2, if_pos q]
      · unfold rd_l; rw [if_neg q0, if_neg q1, if_neg q2, if_neg q3, if_pos q]
    refine ⟨vp_in_nI (by omega) (by omega), ?_⟩
    rw [nI_clamp (by omega), hlc]
    refine xr_in (fun z => br_t rfl (go _ (fun _ => rfl) (fun _ _ => rfl) (fun i t hi ht e1 e2 => absurd ?_ z))) (fun k1 k2 => br_f (by decide) ?_)
    · subst e1
      refine ⟨nI_pos' (by omega), ?_⟩
      rw [op_m1 (by omega) (nI_pos' (by omega))]; exact nI_lt hi (by omega)
    · have k2' := k2
      rw [op_m1 (by omega) k1] at k2'
      obtain ⟨i, hi, rfl⟩ := op_ix k1 k2' (by omega)
      have bad : ¬ (0 ≤ v3 ∧ v3 ≤ 5) → wpY_line (fun r' v' => r' = -1 ∧ i_Rel (k + 4) (x_tracking, x_view, x_slotNow, x_stepsBack, x_stepsAgain, 0, x_rounds, x_columnCount, x_doc, x_kept, x_referenceWidth, x_labelValue, x_labelWidth, x_lineCount, x_gapBefore, x_headNeeds, x_groupNeeds, x_wordLine, x_wordLeft, x_lineFirst, x_lineWords, x_lineLeft, x_lineSlack, x_lineNotes, x_lineColumn, x_lineTop, x_columnParagraph, x_columnFirst, x_columnLines, x_columnNotes, x_columnFilled) v') (y_doc, y_tracking, y_view, y_done, y_steps, y_lines, y_columns, y_rounds, y_known, y_many, y_styleOf, y_markOf, y_words, y_width, y_note, y_status, y_styles, y_pages, y_stepKind, y_stepA, y_stepB, y_stepC, y_stepOn, y_ofParagraph, y_firstWord, y_wordsOf, y_slack, y_begin, y_needs, y_notes, y_columnOf, y_topOf, y_firstLine, y_label, y_labelWide, y_counter, y_refWide, y_nextWide, y_columnLine, y_columnLines, y_filled, y_foot) (nI j) (nI i) v3 := fun z =>
        go _ (fun _ => rfl) (fun q => absurd q z) (fun i t hi ht e1 e2 => absurd ⟨by rw [e2]; exact nI_pos' (by omega), by rw [e2]; exact nI_le (b := 5) ht (by omega)⟩ z)
      have el := ad_l j i
      have jl := vp_in_nI (n := 16 * j + i) (N := 384) (by omega) (by omega)
      have cl := nI_clamp (n := 16 * j + i) (by omega)
      refine nm_r el (br_c (fun w => bad fun q => Int32.not_lt.mpr q.1 w) (fun w1 => br_c (fun w => bad fun q => Int32.not_lt.mpr q.2 w) (fun w2 => ?_)))
      obtain ⟨t, ht, rfl⟩ := op_ix2 (n := 5) (x := v3) (Int32.not_lt.mp w1) (Int32.not_lt.mp w2) (by omega)
      have good : ∀ val : Int32, val = rd_l x_doc x_view (la_rk x_doc x_view (r - 1)) j i t → wpY_line (fun r' v' => r' = val ∧ i_Rel (k + 4) (x_tracking, x_view, x_slotNow, x_stepsBack, x_stepsAgain, 0, x_rounds, x_columnCount, x_doc, x_kept, x_referenceWidth, x_labelValue, x_labelWidth, x_lineCount, x_gapBefore, x_headNeeds, x_groupNeeds, x_wordLine, x_wordLeft, x_lineFirst, x_lineWords, x_lineLeft, x_lineSlack, x_lineNotes, x_lineColumn, x_lineTop, x_columnParagraph, x_columnFirst, x_columnLines, x_columnNotes, x_columnFilled) v') (y_doc, y_tracking, y_view, y_done, y_steps, y_lines, y_columns, y_rounds, y_known, y_many, y_styleOf, y_markOf, y_words, y_width, y_note, y_status, y_styles, y_pages, y_stepKind, y_stepA, y_stepB, y_stepC, y_stepOn, y_ofParagraph, y_firstWord, y_wordsOf, y_slack, y_begin, y_needs, y_notes, y_columnOf, y_topOf, y_firstLine, y_label, y_labelWide, y_counter, y_refWide, y_nextWide, y_columnLine, y_columnLines, y_filled, y_foot) (nI j) (nI i) (nI t) := fun val hval =>
        go _ (fun z => absurd ⟨Int32.not_lt.mp w1, Int32.not_lt.mp w2⟩ z) (fun _ z => absurd ⟨k1, k2⟩ z) (fun i' t' hi' ht' e1 e2 => by
          obtain rfl := (nI_eq (by omega) (by omega)).mp e1
          obtain rfl := (nI_eq (by omega) (by omega)).mp e2
          exact hval)
      obtain ⟨a1, a2, a3, a4, a5⟩ := hT i hi
      obtain ⟨c1, c2⟩ := fC.2.2 j i (by omega) (Or.inl ⟨hj, hi⟩)
      refine pk_eq t 0 (fun q => ⟨jl, good _ ?_⟩) (fun q0 => pk_eq t 1 (fun q => ⟨jl, good _ ?_⟩) (fun q1 => pk_eq t 2 (fun q => ⟨jl, good _ ?_⟩) (fun q2 => pk_eq t 3 (fun q => ⟨jl, good _ ?_⟩) (fun q3 => pk_eq t 4 (fun q => ⟨jl, good _ ?_⟩) (fun q4 => pk_eq t 5 (fun q => ⟨jl, good _ ?_⟩) (fun q5 => trivial))))))
      · rw [cl, a1]; unfold rd_l; rw [if_pos q]
      · rw [cl, a2]; unfold rd_l; rw [if_neg q0, if_pos q]
      · rw [cl, c1]; unfold rd_l; rw [if_neg q0, if_neg q1, if_pos q]
      · rw [cl, c2]; unfold rd_l; rw [if_neg q0, if_neg q1, if_neg q2, if_pos q]
      · rw [cl, a3]; unfold rd_l; rw [if_neg q0, if_neg q1, if_neg q2, if_neg q3, if_pos q]
      · rw [cl, a4]; unfold rd_l; rw [if_neg q0, if_neg q1, if_neg q2, if_neg q3, if_neg q4]
end
section
/-- how far a word's column is from the page's left; where a word is -/
def rd_s (a : Nat → Int32) (vw : Int32) (rw : Nat → Int32) (p k : Nat) : Int32 := if a 3 = 2 then (if (la_fl a vw rw (dc_n a)).2.2.2.2.2.2.1 (16 * p + k) - (la_fl a vw rw (dc_n a)).2.2.2.2.2.2.1 (16 * p + k) / 2 * 2 = 1 then la_cw a + 2 else 0) else 0
def rd_w (a : Nat → Int32) (vw : Int32) (rw : Nat → Int32) (p k w : Nat) : Int32 := 100 * nI k + rd_s a vw rw p k + la_ps a vw rw p k w
variable {x_tracking x_view x_slotNow x_stepsBack x_stepsAgain x_stale x_rounds x_columnCount : Int32} {x_doc x_kept x_referenceWidth x_labelValue x_labelWidth x_lineCount x_gapBefore x_headNeeds x_groupNeeds x_wordLine x_wordLeft x_lineFirst x_lineWords x_lineLeft x_lineSlack x_lineNotes x_lineColumn x_lineTop x_columnParagraph x_columnFirst x_columnLines x_columnNotes x_columnFilled : Nat → Int32} {y_doc y_tracking y_view y_done y_steps y_lines y_columns y_rounds y_known : Int32} {y_many y_styleOf y_markOf y_words y_width y_note y_status y_styles y_pages y_stepKind y_stepA y_stepB y_stepC y_stepOn y_ofParagraph y_firstWord y_wordsOf y_slack y_begin y_needs y_notes y_columnOf y_topOf y_firstLine y_label y_labelWide y_counter y_refWide y_nextWide y_columnLine y_columnLines y_filled y_foot : Nat → Int32} {a rw : Nat → Int32}
theorem yr_wpL {post : Int32 → SY → Prop} {p k w : Nat} (hv : dc_V a) (Z : yz_Z a y_many y_pages y_styles y_styleOf y_markOf y_words y_width y_note y_status) (hr : ∀ m, m < 8 → y_refWide m = rw m) (HB : yb_B a y_view rw (dc_n a) 0 y_ofParagraph y_firstWord y_wordsOf y_slack y_begin y_needs y_notes) (HF : ∀ q, q ≤ dc_n a → y_firstLine q = nI (la_Fs a y_view rw q)) (HC : yf_C a y_view rw (la_fl a y_view rw (dc_n a)) (dc_n a) 0 y_columns y_columnOf y_topOf y_columnLine y_columnLines y_filled y_foot) (hp : p < dc_n a) (hk : k < la_nl a y_view rw p) (hw : w < dc_w a p) (h : post (rd_w a y_view rw p k w) (y_doc, y_tracking, y_view, y_done, y_steps, y_lines, y_columns, y_rounds, y_known, y_many, y_styleOf, y_markOf, y_words, y_width, y_note, y_status, y_styles, y_pages, y_stepKind, y_stepA, y_stepB, y_stepC, y_stepOn, y_ofParagraph, y_firstWord, y_wordsOf, y_slack, y_begin, y_needs, y_notes, y_columnOf, y_topOf, y_firstLine, y_label, y_labelWide, y_counter, y_refWide, y_nextWide, y_columnLine, y_columnLines, y_filled, y_foot)) : ∀ d m, la_f a y_view rw p k + m + d = w →
    wY_word_165 post (nI p) (nI w) (nI (la_Fs a y_view rw p + k)) (la_sp a y_view rw p k) (nI (la_t a y_view rw p k) - 1) y_doc y_tracking y_view y_done y_steps y_lines y_columns y_rounds y_known y_many y_styleOf y_markOf y_words y_width y_note y_status y_styles y_pages y_stepKind y_stepA y_stepB y_stepC y_stepOn y_ofParagraph y_firstWord y_wordsOf y_slack y_begin y_needs y_notes y_columnOf y_topOf y_firstLine y_label y_labelWide y_counter y_refWide y_nextWide y_columnLine y_columnLines y_filled y_foot (d + 1) (la_po a y_view rw p (la_sl a y_view rw p k) (nI (la_t a y_view rw p k) - 1) (la_sp a y_view rw p k) (la_al a y_view rw p k) (la_f a y_view rw p k) m).1 (nI (la_cn a y_view p (la_f a y_view rw p k) m)) (nI (la_f a y_view rw p k + m))
  | d, m, hm => by
    have h24 := (dc_Vn hv).2
    have hp24 : p < 24 := by omega
    have h16 := (dc_Vw hv hp24).2
    have hF := la_FsB (rw := rw) (vw := y_view) hv (p := p) (by omega)
    have hn := (la_nlP (a := a) (rw := rw) (vw := y_view) h16).2.1
    have jl := vp_in_nI (n := la_Fs a y_view rw p + k) (N := 384) (by omega) (by omega)
    have cl := nI_clamp (n := la_Fs a y_view rw p + k) (by omega)
    have hcm := la_cnL (a := a) (vw := y_view) (p := p) (w := la_f a y_view rw p k) (m := m)
    obtain ⟨b1, b2, b3, b4, b5, b6, b7⟩ := HB p k (Or.inl ⟨hp, hk⟩)
    obtain ⟨c1, c2⟩ := HC.2.2 p k (Or.inl ⟨hp, hk⟩)
    match d with
    | 0 =>
      have em : m = w - la_f a y_view rw p k := by omega
      have eps : (la_po a y_view rw p (la_sl a y_view rw p k) (nI (la_t a y_view rw p k) - 1) (la_sp a y_view rw p k) (la_al a y_view rw p k) (la_f a y_view rw p k) m).1 = la_ps a y_view rw p k w := by rw [em]; rfl
      have ek : nI (la_Fs a y_view rw p + k) - nI (la_Fs a y_view rw p) = nI k := by rw [pk_sub (by omega)]; exact congrArg nI (by omega)
      have e2 : y_pages 2 = a 3 := Z.2.1 2 (by omega)
      have f297 : ∀ z0 : Int32, z0 = rd_s a y_view rw p k → wY_word_297 post (nI p) (nI (la_Fs a y_view rw p + k)) (la_po a y_view rw p (la_sl a y_view rw p k) (nI (la_t a y_view rw p k) - 1) (la_sp a y_view rw p k) (la_al a y_view rw p k) (la_f a y_view rw p k) m).1 z0 y_doc y_tracking y_view y_done y_steps y_lines y_columns y_rounds y_known y_many y_styleOf y_markOf y_words y_width y_note y_status y_styles y_pages y_stepKind y_stepA y_stepB y_stepC y_stepOn y_ofParagraph y_firstWord y_wordsOf y_slack y_begin y_needs y_notes y_columnOf y_topOf y_firstLine y_label y_labelWide y_counter y_refWide y_nextWide y_columnLine y_columnLines y_filled y_foot := fun z0 ez => by
        subst ez
        refine ⟨vp_in_nI (by omega) (by omega), ?_⟩
        rw [nI_clamp (by omega), HF p (by omega), ek, eps]; exact h
      refine br_t (nI_le (by omega) (by omega)) ?_
      rw [e2]
      refine br_c (fun z => ⟨jl, by decide, ?_⟩) (fun z => f297 0 ?_)
      · rw [cl, c1]
        refine br_c (fun y => yr_cw Z (f297 _ ?_)) (fun y => f297 0 ?_)
        · unfold rd_s; rw [if_pos z, if_pos y]
        · unfold rd_s; rw [if_pos z, if_neg y]
      · unfold rd_s; rw [if_neg z]
    | d + 1 =>
      refine br_f (nI_ge (by omega) (by omega)) (yr_sh Z (ad_yl p _) hp24 (by omega) (fun hs => br_f (by decide) (yr_wd hv Z hr (ad_yl p _) hp24 (by omega) (nm_e (br_c (fun s0 => nm_r (nI_1 _) (nm_r (nI_1 _) ?_)) (fun s0 => ⟨jl, ?_⟩))))) (fun hs => br_t rfl (nm_r (nI_1 _) ?_)))
      · have q3 : la_po a y_view rw p (la_sl a y_view rw p k) (nI (la_t a y_view rw p k) - 1) (la_sp a y_view rw p k) (la_al a y_view rw p k) (la_f a y_view rw p k) (m + 1) = _ := if_pos hs
        have q4 : la_cn a y_view p (la_f a y_view rw p k) (m + 1) = la_cn a y_view p (la_f a y_view rw p k) m + 1 := congrArg (la_cn a y_view p (la_f a y_view rw p k) m + ·) (if_pos hs)
        have ih := yr_wpL hv Z hr HB HF HC hp hk hw h d (m + 1) (by omega)
        rw [q3, q4, la_poC] at ih
        have ih1 : ∀ v : Int32, v = la_s1 (la_po a y_view rw p (la_sl a y_view rw p k) (nI (la_t a y_view rw p k) - 1) (la_sp a y_view rw p k) (la_al a y_view rw p k) (la_f a y_view rw p k) m).1 (la_wd a rw p (la_f a y_view rw p k + m)) (la_sl a y_view rw p k) (nI (la_t a y_view rw p k) - 1) (la_sp a y_view rw p k) (la_cn a y_view p (la_f a y_view rw p k) m) → _ := fun v ev => ev ▸ ih
        refine ih1 _ ?_
        unfold la_s1; rw [if_pos s0]
      · have q3 : la_po a y_view rw p (la_sl a y_view rw p k) (nI (la_t a y_view rw p k) - 1) (la_sp a y_view rw p k) (la_al a y_view rw p k) (la_f a y_view rw p k) (m + 1) = _ := if_pos hs
        have q4 : la_cn a y_view p (la_f a y_view rw p k) (m + 1) = la_cn a y_view p (la_f a y_view rw p k) m + 1 := congrArg (la_cn a y_view p (la_f a y_view rw p k) m + ·) (if_pos hs)
        have ih := yr_wpL hv Z hr HB HF HC hp hk hw h d (m + 1) (by omega)
        rw [q3, q4, la_poC] at ih
        have ih1 : ∀ v : Int32, v = la_s1 (la_po a y_view rw p (la_sl a y_view rw p k) (nI (la_t a y_view rw p k) - 1) (la_sp a y_view rw p k) (la_al a y_view rw p k) (la_f a y_view rw p k) m).1 (la_wd a rw p (la_f a y_view rw p k + m)) (la_sl a y_view rw p k) (nI (la_t a y_view rw p k) - 1) (la_sp a y_view rw p k) (la_cn a y_view p (la_f a y_view rw p k) m) → _ := fun v ev => ev ▸ ih
        have ht1 : 1 < la_t a y_view rw p k := by
          have s1 := s0
          unfold la_sp at s1
          split at s1
          · rename_i c; exact c.2.1
          · exact absurd rfl s1
        have ht16 := la_tB (a := a) (rw := rw) (vw := y_view) (p := p) (k := k) h16
        have hne : ¬ nI (la_t a y_view rw p k) - 1 = 0 := by
          obtain ⟨s, hs⟩ : ∃ s, la_t a y_view rw p k = s + 1 := ⟨la_t a y_view rw p k - 1, by omega⟩
          rw [hs, nI_pred]; exact nI_ne0 (by omega) (by omega)
        refine ⟨hne, jl, hne, ?_⟩
        rw [cl, b4]
        refine br_c (fun s1 => nm_e (nm_r (nI_1 _) (nm_r (nI_1 _) ?_))) (fun s1 => nm_e (nm_r (nI_1 _) (nm_r (nI_1 _) ?_)))
        · refine ih1 _ ?_
          unfold la_s1; rw [if_neg s0, if_pos s1]
        · refine ih1 _ ?_
          unfold la_s1; rw [if_neg s0, if_neg s1]
      · have q3 : la_po a y_view rw p (la_sl a y_view rw p k) (nI (la_t a y_view rw p k) - 1) (la_sp a y_view rw p k) (la_al a y_view rw p k) (la_f a y_view rw p k) (m + 1) = _ := if_neg hs
        have q4 : la_cn a y_view p (la_f a y_view rw p k) (m + 1) = la_cn a y_view p (la_f a y_view rw p k) m := congrArg (la_cn a y_view p (la_f a y_view rw p k) m + ·) (if_neg hs)
        have ih := yr_wpL hv Z hr HB HF HC hp hk hw h d (m + 1) (by omega)
        rw [q3, q4] at ih
        exact ih
  termination_by d => d
theorem yr_w90 {post : Int32 → SY → Prop} {p k w : Nat} (hv : dc_V a) (Z : yz_Z a y_many y_pages y_styles y_styleOf y_markOf y_words y_width y_note y_status) (hr : ∀ m, m < 8 → y_refWide m = rw m) (HB : yb_B a y_view rw (dc_n a) 0 y_ofParagraph y_firstWord y_wordsOf y_slack y_begin y_needs y_notes) (HF : ∀ q, q ≤ dc_n a → y_firstLine q = nI (la_Fs a y_view rw q)) (HC : yf_C a y_view rw (la_fl a y_view rw (dc_n a)) (dc_n a) 0 y_columns y_columnOf y_topOf y_columnLine y_columnLines y_filled y_foot) (hp : p < dc_n a) (hk : k < la_nl a y_view rw p) (hw : w < dc_w a p) (hf : la_f a y_view rw p k ≤ w) (h : post (rd_w a y_view rw p k w) (y_doc, y_tracking, y_view, y_done, y_steps, y_lines, y_columns, y_rounds, y_known, y_many, y_styleOf, y_markOf, y_words, y_width, y_note, y_status, y_styles, y_pages, y_stepKind, y_stepA, y_stepB, y_stepC, y_stepOn, y_ofParagraph, y_firstWord, y_wordsOf, y_slack, y_begin, y_needs, y_notes, y_columnOf, y_topOf, y_firstLine, y_label, y_labelWide, y_counter, y_refWide, y_nextWide, y_columnLine, y_columnLines, y_filled, y_foot)) :
    wY_word_90 post (nI p) (nI w) (nI (la_Fs a y_view rw p + k)) y_doc y_tracking y_view y_done y_steps y_lines y_columns y_rounds y_known y_many y_styleOf y_markOf y_words y_width y_note y_status y_styles y_pages y_stepKind y_stepA y_stepB y_stepC y_stepOn y_ofParagraph y_firstWord y_wordsOf y_slack y_begin y_needs y_notes y_columnOf y_topOf y_firstLine y_label y_labelWide y_counter y_refWide y_nextWide y_columnLine y_columnLines y_filled y_foot := by
  have h24 := (dc_Vn hv).2
  have hp24 : p < 24 := by omega
  have h16 := (dc_Vw hv hp24).2
  have hF := la_FsB (rw := rw) (vw := y_view) hv (p := p) (by omega)
  have hn := (la_nlP (a := a) (rw := rw) (vw := y_view) h16).2.1
  have ht16 := la_tB (a := a) (rw := rw) (vw := y_view) (p := p) (k := k) h16
  have jl := vp_in_nI (n := la_Fs a y_view rw p + k) (N := 384) (by omega) (by omega)
  have cl := nI_clamp (n := la_Fs a y_view rw p + k) (by omega)
  obtain ⟨b1, b2, b3, b4, b5, b6, b7⟩ := HB p k (Or.inl ⟨hp, hk⟩)
  have f132 : ∀ st : Int32, st = la_sp a y_view rw p k → wY_word_132 post (nI p) (nI w) (nI (la_Fs a y_view rw p + k)) st y_doc y_tracking y_view y_done y_steps y_lines y_columns y_rounds y_known y_many y_styleOf y_markOf y_words y_width y_note y_status y_styles y_pages y_stepKind y_stepA y_stepB y_stepC y_stepOn y_ofParagraph y_firstWord y_wordsOf y_slack y_begin y_needs y_notes y_columnOf y_topOf y_firstLine y_label y_labelWide y_counter y_refWide y_nextWide y_columnLine y_columnLines y_filled y_foot := fun st es => by
    subst es
    exact ⟨jl, nm_r (e' := nI (la_t a y_view rw p k) - 1) (by rw [cl, b3]) (yr_st hv Z HB hp hk rfl ⟨jl, nm_r (e' := nI (la_f a y_view rw p k)) (by rw [cl, b2]) ⟨_, yr_wpL (m := 0) hv Z hr HB HF HC hp hk hw h (w - la_f a y_view rw p k) (by omega)⟩⟩)⟩
  have f131 : ¬ (dc_v a p 6 = 3 ∧ 1 < la_t a y_view rw p k ∧ k + 1 < la_nl a y_view rw p) → wY_word_131 post (nI p) (nI w) (nI (la_Fs a y_view rw p + k)) y_doc y_tracking y_view y_done y_steps y_lines y_columns y_rounds y_known y_many y_styleOf y_markOf y_words y_width y_note y_status y_styles y_pages y_stepKind y_stepA y_stepB y_stepC y_stepOn y_ofParagraph y_firstWord y_wordsOf y_slack y_begin y_needs y_notes y_columnOf y_topOf y_firstLine y_label y_labelWide y_counter y_refWide y_nextWide y_columnLine y_columnLines y_filled y_foot := fun z => f132 0 (if_neg z).symm
  have e1 : y_firstLine (nI p + 1).toNatClampNeg = nI (la_Fs a y_view rw p + la_nl a y_view rw p) := by rw [ix_c (nI_1 p) (by omega), HF (p + 1) (by omega)]; rfl
  unfold wY_word_90
  refine yr_tr hv Z rfl hp24 (t := 6) rfl (by omega) (br_c (fun z => ⟨ix_in (nI_1 p) (by omega) (by omega), ?_⟩) (fun z => f131 fun q => z q.1))
  rw [e1, nI_1]
  refine pk_le (la_Fs a y_view rw p + la_nl a y_view rw p) (la_Fs a y_view rw p + k + 1) (fun y => f131 fun q => absurd q.2.2 (by omega)) (fun y => ⟨jl, ?_⟩)
  rw [cl, b3]
  exact pk_le (la_t a y_view rw p k) 1 (fun q => f131 fun q2 => absurd q2.2.1 (by omega)) (fun q => f132 1 (if_pos ⟨z, q, by omega⟩).symm)
theorem yr_w56 {post : Int32 → SY → Prop} {p k w : Nat} (hv : dc_V a) (HB : yb_B a y_view rw (dc_n a) 0 y_ofParagraph y_firstWord y_wordsOf y_slack y_begin y_needs y_notes) (HF : ∀ q, q ≤ dc_n a → y_firstLine q = nI (la_Fs a y_view rw q)) (hp : p < dc_n a) (hk : k < la_nl a y_view rw p) (hw1 : la_fr a y_view rw p k ≤ w) (hw2 : w < la_fr a y_view rw p (k + 1)) (h : wY_word_90 post (nI p) (nI w) (nI (la_Fs a y_view rw p + k)) y_doc y_tracking y_view y_done y_steps y_lines y_columns y_rounds y_known y_many y_styleOf y_markOf y_words y_width y_note y_status y_styles y_pages y_stepKind y_stepA y_stepB y_stepC y_stepOn y_ofParagraph y_firstWord y_wordsOf y_slack y_begin y_needs y_notes y_columnOf y_topOf y_firstLine y_label y_labelWide y_counter y_refWide y_nextWide y_columnLine y_columnLines y_filled y_foot) : ∀ d i, i + d = k →
    wY_word_56 post (nI p) (nI w) y_doc y_tracking y_view y_done y_steps y_lines y_columns y_rounds y_known y_many y_styleOf y_markOf y_words y_width y_note y_status y_styles y_pages y_stepKind y_stepA y_stepB y_stepC y_stepOn y_ofParagraph y_firstWord y_wordsOf y_slack y_begin y_needs y_notes y_columnOf y_topOf y_firstLine y_label y_labelWide y_counter y_refWide y_nextWide y_columnLine y_columnLines y_filled y_foot (d + 1) (nI (la_Fs a y_view rw p + i))
  | d, i, hi => by
    have h24 := (dc_Vn hv).2
    have hp24 : p < 24 := by omega
    have h16 := (dc_Vw hv hp24).2
    have hF := la_FsB (rw := rw) (vw := y_view) hv (p := p) (by omega)
    have hn := la_nlP (a := a) (rw := rw) (vw := y_view) h16
    have hwW := la_frW (a := a) (rw := rw) (vw := y_view) (p := p) (k + 1)
    have e1 : y_firstLine (nI p + 1).toNatClampNeg = nI (la_Fs a y_view rw p + la_nl a y_view rw p) := by rw [ix_c (nI_1 p) (by omega), HF (p + 1) (by omega)]; rfl
    refine ⟨ix_in (nI_1 p) (by omega) (by omega), ?_⟩
    rw [e1, nI_1]
    match d with
    | 0 =>
      obtain rfl : i = k := by omega
      refine pk_le (la_Fs a y_view rw p + la_nl a y_view rw p) (la_Fs a y_view rw p + i + 1) (fun y => h) (fun y => ⟨vp_in_nI (by omega) (by omega), ?_⟩)
      have ef := (HB p (i + 1) (Or.inl ⟨hp, by omega⟩)).2.1
      have e2 := (la_f1 (hn.2.2.1 (i + 1) (by omega) (by omega))).1
      rw [nI_clamp (by omega), show la_Fs a y_view rw p + i + 1 = la_Fs a y_view rw p + (i + 1) from by omega, ef, e2]
      exact br_t (nI_lt hw2 (by omega)) h
    | d + 1 =>
      have ef := (HB p (i + 1) (Or.inl ⟨hp, by omega⟩)).2.1
      have e2 := (la_f1 (hn.2.2.1 (i + 1) (by omega) (by omega))).1
      have hm := la_frm (a := a) (rw := rw) (vw := y_view) (p := p) (show i + 1 ≤ k from by omega)
      refine br_f (nI_ge (by omega) (by omega)) ⟨vp_in_nI (by omega) (by omega), ?_⟩
      rw [nI_clamp (by omega), show la_Fs a y_view rw p + i + 1 = la_Fs a y_view rw p + (i + 1) from by omega, ef, e2]
      exact br_f (nI_nlt (by omega) (by omega)) (nm_e (yr_w56 hv HB HF hp hk hw1 hw2 h d (i + 1) (by omega)))
  termination_by d => d
theorem i_vc_word {k : Nat} {u : SX} {v : SY} (I : i_Rel k u v) (hk : k + 4 ≤ 2048) (v1 : Int32) (v2 : Int32) : wpX_word (fun r u' => wpY_word (fun r' v' => r' = r ∧ i_Rel (k + 4) u' v') v v1 v2) u v1 v2 := by
  obtain ⟨x_tracking, x_view, x_slotNow, x_stepsBack, x_stepsAgain, x_stale, x_rounds, x_columnCount, x_doc, x_kept, x_referenceWidth, x_labelValue, x_labelWidth, x_lineCount, x_gapBefore, x_headNeeds, x_groupNeeds, x_wordLine, x_wordLeft, x_lineFirst, x_lineWords, x_lineLeft, x_lineSlack, x_lineNotes, x_lineColumn, x_lineTop, x_columnParagraph, x_columnFirst, x_columnLines, x_columnNotes, x_columnFilled⟩ := u
  obtain ⟨y_doc, y_tracking, y_view, y_done, y_steps, y_lines, y_columns, y_rounds, y_known, y_many, y_styleOf, y_markOf, y_words, y_width, y_note, y_status, y_styles, y_pages, y_stepKind, y_stepA, y_stepB, y_stepC, y_stepOn, y_ofParagraph, y_firstWord, y_wordsOf, y_slack, y_begin, y_needs, y_notes, y_columnOf, y_topOf, y_firstLine, y_label, y_labelWide, y_counter, y_refWide, y_nextWide, y_columnLine, y_columnLines, y_filled, y_foot⟩ := v
  obtain ⟨s, n, _, _, _, _, hv⟩ := re_f I
  obtain ⟨e0, h24⟩ := dc_Vn hv
  have Z := re_z I
  have eview : x_view = y_view := I.2.2.1
  unfold wpX_word
  refine xr_isP (fun z => br_t rfl ?_) (fun z1 z2 => br_f (by decide) ?_)
  · unfold wpY_word
    exact re_isT I (fun _ => br_t rfl ⟨rfl, I⟩) (fun q1 q2 => absurd ⟨q1, q2⟩ z)
  · obtain ⟨p, hp, rfl⟩ := op_ix z1 (e0 ▸ z2) (by omega)
    have hp24 : p < 24 := by omega
    obtain ⟨ew, h16⟩ := dc_Vw hv hp24
    have eyw : y_words (nI p).toNatClampNeg = nI (dc_w x_doc p) := by rw [nI_clamp (by omega), Z.2.2.2.2.2.1 p hp24, ew]
    have bad : ¬ (0 ≤ v2 ∧ v2 ≤ nI (dc_w x_doc p) - 1) → wpY_word (fun r' v' => r' = -1 ∧ i_Rel (k + 4) (x_tracking, x_view, x_slotNow, x_stepsBack, x_stepsAgain, x_stale, x_rounds, x_columnCount, x_doc, x_kept, x_referenceWidth, x_labelValue, x_labelWidth, x_lineCount, x_gapBefore, x_headNeeds, x_groupNeeds, x_wordLine, x_wordLeft, x_lineFirst, x_lineWords, x_lineLeft, x_lineSlack, x_lineNotes, x_lineColumn, x_lineTop, x_columnParagraph, x_columnFirst, x_columnLines, x_columnNotes, x_columnFilled) v') (y_doc, y_tracking, y_view, y_done, y_steps, y_lines, y_columns, y_rounds, y_known, y_many, y_styleOf, y_markOf, y_words, y_width, y_note, y_status, y_styles, y_pages, y_stepKind, y_stepA, y_stepB, y_stepC, y_stepOn, y_ofParagraph, y_firstWord, y_wordsOf, y_slack, y_begin, y_needs, y_notes, y_columnOf, y_topOf, y_firstLine, y_label, y_labelWide, y_counter, y_refWide, y_nextWide, y_columnLine, y_columnLines, y_filled, y_foot) (nI p) v2 := fun z => by
      unfold wpY_word
      refine re_isT I (fun q => absurd ⟨z1, z2⟩ q) (fun _ _ => br_f (by decide) ⟨vp_in_nI (by omega) (by omega), ?_⟩)
      rw [eyw]
      exact yr_in (fun _ => br_t rfl ⟨rfl, I⟩) (fun q1 q2 => absurd ⟨q1, q2⟩ z)
    refine br_c (fun w => bad fun q => Int32.not_lt.mpr q.1 w) (fun w1 => xr_wo rfl hp24 ?_)
    rw [ew]
    refine br_c (fun w2 => ?_) (fun w2 => bad fun q => w2 ?_)
    · obtain ⟨w, hw, rfl⟩ := op_ix (Int32.not_lt.mp w1) w2 (by omega)
      have inw : 0 ≤ nI w ∧ nI w ≤ nI (dc_w x_doc p) - 1 := ⟨Int32.not_lt.mp w1, by rw [op_m1 (by omega) (Int32.not_lt.mp w1)]; exact w2⟩
      refine xr_sh rfl hp24 rfl (by omega) (fun hs => br_f (by decide) (re_x I ?_)) (fun hs => br_t rfl ?_)
      · intro x_rounds x_columnCount x_referenceWidth x_labelValue x_labelWidth x_lineCount x_wordLine x_wordLeft x_lineFirst x_lineWords x_lineLeft x_lineSlack x_lineNotes x_gapBefore x_headNeeds x_groupNeeds x_lineColumn x_lineTop x_columnParagraph x_columnFirst x_columnLines x_columnNotes x_columnFilled GX I
        obtain ⟨r, fr, ro, lb, xB, fC⟩ := GX
        obtain ⟨i, hi, hi1, hi2⟩ := la_li (a := x_doc) (rw := la_rk x_doc x_view (r - 1)) (vw := x_view) h16 hw
        have hn := la_nlP (a := x_doc) (rw := la_rk x_doc x_view (r - 1)) (vw := x_view) h16
        obtain ⟨x1, x2⟩ := (xB p hp).2.2 i w hi hi1 hi2 hs
        obtain ⟨c1, _⟩ := fC.2.2 p i (by omega) (Or.inl ⟨hp, hi⟩)
        have go : ∀ val : Int32, val = rd_w x_doc x_view (la_rk x_doc x_view (r - 1)) p i w → wpY_word (fun r' v' => r' = val ∧ i_Rel (k + 4) (x_tracking, x_view, x_slotNow, x_stepsBack, x_stepsAgain, 0, x_rounds, x_columnCount, x_doc, x_kept, x_referenceWidth, x_labelValue, x_labelWidth, x_lineCount, x_gapBefore, x_headNeeds, x_groupNeeds, x_wordLine, x_wordLeft, x_lineFirst, x_lineWords, x_lineLeft, x_lineSlack, x_lineNotes, x_lineColumn, x_lineTop, x_columnParagraph, x_columnFirst, x_columnLines, x_columnNotes, x_columnFilled) v') (y_doc, y_tracking, y_view, y_done, y_steps, y_lines, y_columns, y_rounds, y_known, y_many, y_styleOf, y_markOf, y_words, y_width, y_note, y_status, y_styles, y_pages, y_stepKind, y_stepA, y_stepB, y_stepC, y_stepOn, y_ofParagraph, y_firstWord, y_wordsOf, y_slack, y_begin, y_needs, y_notes, y_columnOf, y_topOf, y_firstLine, y_label, y_labelWide, y_counter, y_refWide, y_nextWide, y_columnLine, y_columnLines, y_filled, y_foot) (nI p) (nI w) := fun val hval => by
          subst hval
          subst eview
          unfold wpY_word
          refine re_isT I (fun q => absurd ⟨z1, z2⟩ q) (fun _ _ => br_f (by decide) ⟨vp_in_nI (by omega) (by omega), ?_⟩)
          rw [eyw]
          refine yr_in (fun q => absurd inw q) (fun _ _ => br_f (by decide) (yr_sh Z (ad_yl p w) hp24 (by omega) (fun _ => br_f (by decide) (re_k I ?_)) (fun q => absurd hs q)))
          intro y_lines y_columns y_rounds y_label y_labelWide y_counter y_refWide y_nextWide y_firstLine y_ofParagraph y_firstWord y_wordsOf y_slack y_begin y_needs y_notes y_columnOf y_topOf y_columnLine y_columnLines y_filled y_foot ⟨r', fr', _, lb', hr, hB, hF, fC'⟩ I
          obtain rfl := la_finU fr fr'
          refine ⟨vp_in_nI (by omega) (by omega), nm_r (e' := nI (la_Fs x_doc x_view (la_rk x_doc x_view (r - 1)) p)) (by rw [nI_clamp (by omega), hF p (by omega)]) ⟨i + 1, ?_⟩⟩
          exact yr_w56 hv hB hF hp hi hi1 hi2 (yr_w90 hv Z hr hB hF fC' hp hi hw (la_fS hi1 hi2 hs) ⟨rfl, I⟩) i 0 (by omega)
        have el := ad_l p w
        have jl := vp_in_nI (n := 16 * p + w) (N := 384) (by omega) (by omega)
        have cl := nI_clamp (n := 16 * p + w) (by omega)
        have ei := ad_l p i
        have f104 : ∀ z0 : Int32, z0 = rd_s x_doc x_view (la_rk x_doc x_view (r - 1)) p i → wX_word_104 (fun r u' => wpY_word (fun r' v' => r' = r ∧ i_Rel (k + 4) u' v') (y_doc, y_tracking, y_view, y_done, y_steps, y_lines, y_columns, y_rounds, y_known, y_many, y_styleOf, y_markOf, y_words, y_width, y_note, y_status, y_styles, y_pages, y_stepKind, y_stepA, y_stepB, y_stepC, y_stepOn, y_ofParagraph, y_firstWord, y_wordsOf, y_slack, y_begin, y_needs, y_notes, y_columnOf, y_topOf, y_firstLine, y_label, y_labelWide, y_counter, y_refWide, y_nextWide, y_columnLine, y_columnLines, y_filled, y_foot) (nI p) (nI w)) (nI (16 * p + w)) (nI i) z0 x_tracking x_view x_slotNow x_stepsBack x_stepsAgain 0 x_rounds x_columnCount x_doc x_kept x_referenceWidth x_labelValue x_labelWidth x_lineCount x_gapBefore x_headNeeds x_groupNeeds x_wordLine x_wordLeft x_lineFirst x_lineWords x_lineLeft x_lineSlack x_lineNotes x_lineColumn x_lineTop x_columnParagraph x_columnFirst x_columnLines x_columnNotes x_columnFilled := fun z0 ez => by
          subst ez
          refine ⟨jl, go _ ?_⟩
          rw [cl, x2]; rfl
        refine nm_r el ⟨jl, nm_r (e' := nI i) (by rw [cl, x1]) (br_c (fun c => ⟨ix_in ei (by omega) (by omega), by decide, ?_⟩) (fun c => br_t rfl (f104 0 ?_)))⟩
        · rw [ix_c ei (by omega), c1]
          refine br_c (fun q => br_f (by decide) (xr_cw (f104 _ ?_))) (fun q => br_t rfl (f104 0 ?_))
          · unfold rd_s; rw [if_pos c, if_pos q]
          · unfold rd_s; rw [if_pos c, if_neg q]
        · unfold rd_s; rw [if_neg c]
      · subst eview
        unfold wpY_word
        refine re_isT I (fun q => absurd ⟨z1, z2⟩ q) (fun _ _ => br_f (by decide) ⟨vp_in_nI (by omega) (by omega), ?_⟩)
        rw [eyw]
        exact yr_in (fun q => absurd inw q) (fun _ _ => br_f (by decide) (yr_sh Z (ad_yl p w) hp24 (by omega) (fun q => absurd q hs) (fun _ => br_t rfl ⟨rfl, I⟩)))
    · rw [← op_m1 (by omega) (Int32.not_lt.mp w1)]; exact q.2
end
