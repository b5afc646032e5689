theorem pk_us {f : Nat → Int32} {k : Nat} {x : Int32} : upd f k x k = x := if_pos rfl
theorem pk_un {f : Nat → Int32} {k j : Nat} {x : Int32} (h : j ≠ k) : upd f k x j = f j := if_neg h
theorem pk_sub {a b : Nat} (h : b ≤ a) : nI a - nI b = nI (a - b) := by
  obtain ⟨c, rfl⟩ : ∃ c, a = c + b := ⟨a - b, by omega⟩
  rw [← nI_add, Int32.add_sub_cancel, Nat.add_sub_cancel]
theorem pk_m1 (n : Nat) : nI (n + 1) + (-1) = nI n := by
  rw [← nI_1, Int32.add_assoc, show (1 : Int32) + (-1) = 0 from rfl, Int32.add_zero]
theorem pk_mul (a b : Nat) : nI a * nI b = nI (a * b) := (Int32.ofNat_mul a b).symm
theorem pk_div {a d : Nat} (ha : a < 2 ^ 31) (h0 : 0 < d) (hd : d < 2 ^ 31) : nI a / nI d = nI (a / d) := by
  apply Int32.toInt_inj.mp
  rw [lg_idiv_nonneg (by rw [nI_toInt ha]; omega) (by rw [nI_toInt hd]; omega), nI_toInt ha, nI_toInt hd, nI_toInt (Nat.lt_of_le_of_lt (Nat.div_le_self a d) ha)]
  first | rfl | exact (Int.natCast_ediv _ _).symm
theorem pk_rem {a d : Nat} (ha : a < 2 ^ 31) (h0 : 0 < d) (hd : d < 2 ^ 31) : nI a - nI a / nI d * nI d = nI (a % d) := by
  rw [pk_div ha h0 hd, pk_mul, pk_sub (Nat.div_mul_le_self a d)]
  exact congrArg nI (by have := Nat.div_add_mod' a d; omega)
theorem pk_sub_toInt {a b : Nat} (ha : a < 2 ^ 30) (hb : b < 2 ^ 30) : (nI a - nI b).toInt = (a : Int) - b := by
  rw [Int32.toInt_sub, nI_toInt (by omega), nI_toInt (by omega)]
  exact Int.bmod_eq_of_le (by omega) (by omega)
theorem pk_sneg {a b : Nat} (hb : b < 2 ^ 30) (h : a < b) : nI a - nI b < 0 := by
  rw [Int32.lt_iff_toInt_lt, pk_sub_toInt (by omega) hb, show (0 : Int32).toInt = 0 from by decide]
  omega
theorem pk_ix (x : Int32) {n : Nat} (hn : n < 2 ^ 31) : x < 0 ∨ nI n ≤ x ∨ ∃ j : Nat, j < n ∧ x = nI j := by
  by_cases h : x < 0
  · exact Or.inl h
  · obtain ⟨j, hj, rfl⟩ := nI_of h
    by_cases h2 : j < n
    · exact Or.inr (Or.inr ⟨j, h2, rfl⟩)
    · exact Or.inr (Or.inl (nI_le (by omega) hj))
theorem pk_le {x y : Int32} {A B : Prop} (a b : Nat) (f : a ≤ b → A) (g : b < a → B) (hx : x = nI a := by rfl) (hy : y = nI b := by rfl) (ha : a < 2 ^ 31 := by omega) (hb : b < 2 ^ 31 := by omega) : (x ≤ y → A) ∧ (¬ x ≤ y → B) := by
  subst hx hy
  rw [nI_leI ha hb]
  exact ⟨f, fun z => g (by omega)⟩
theorem pk_lt {x y : Int32} {A B : Prop} (a b : Nat) (f : a < b → A) (g : b ≤ a → B) (hx : x = nI a := by rfl) (hy : y = nI b := by rfl) (ha : a < 2 ^ 31 := by omega) (hb : b < 2 ^ 31 := by omega) : (x < y → A) ∧ (¬ x < y → B) := by
  subst hx hy
  rw [nI_ltI ha hb]
  exact ⟨f, fun z => g (by omega)⟩
theorem pk_eq {x y : Int32} {A B : Prop} (a b : Nat) (f : a = b → A) (g : a ≠ b → B) (hx : x = nI a := by rfl) (hy : y = nI b := by rfl) (ha : a < 2 ^ 31 := by omega) (hb : b < 2 ^ 31 := by omega) : (x = y → A) ∧ (¬ x = y → B) := by
  subst hx hy
  rw [nI_eq ha hb]
  exact ⟨f, g⟩
theorem pk_in {x : Int32} (n N : Nat) (h : n < N) (hx : x = nI n := by rfl) (hN : N < 2 ^ 31 := by omega) : vp_in x N := by
  subst hx
  exact vp_in_nI h hN
theorem pk_cl {x : Int32} (n : Nat) (hx : x = nI n := by rfl) (h : n < 2 ^ 31 := by omega) : x.toNatClampNeg = n := by
  subst hx
  exact nI_clamp h
theorem pk_loop {σ : Type} (W : Nat → Nat → σ → Prop) (I : Nat → σ → Prop) (e i0 : Nat) (s : σ) (hi : i0 ≤ e) (h0 : I i0 s) (hx : ∀ n s, I e s → W (n + 1) e s)
    (hs : ∀ n i s, i < e → I i s → (∀ s', I (i + 1) s' → W n (i + 1) s') → W (n + 1) i s) : ∃ n, W n i0 s :=
  ⟨e + 1, loop_i W I e hx hs (e + 1) i0 s hi (by omega) h0⟩
theorem pk_loopD {σ : Type} (W : Nat → Nat → σ → Prop) (I : Nat → σ → Prop) (hx : ∀ n s, I 0 s → W (n + 1) 0 s)
    (hs : ∀ n i s, I (i + 1) s → (∀ s', I i s' → W n i s') → W (n + 1) (i + 1) s) : ∀ (e : Nat) (s : σ), I e s → W (e + 1) e s := by
  intro e
  induction e with
  | zero => exact fun s h => hx 0 s h
  | succ e ih => exact fun s h => hs (e + 1) e s h (fun s' h' => ih s' h')
theorem li_ {n : Nat} : (OfNat.ofNat n : Int32) = nI n := rfl
/-- a block of one array copied within it -/
def cp_b (g : Nat → Int32) (s t n : Nat) : Nat → Int32 := fun i => if t ≤ i ∧ i < t + n then g (i + s - t) else g i
theorem cp_in {g : Nat → Int32} {s t n i : Nat} (h1 : t ≤ i) (h2 : i < t + n) : cp_b g s t n i = g (i + s - t) := if_pos ⟨h1, h2⟩
theorem cp_out {g : Nat → Int32} {s t n i : Nat} (h : i < t ∨ t + n ≤ i) : cp_b g s t n i = g i := if_neg (by omega)
theorem cp_0 {g : Nat → Int32} {s t : Nat} : cp_b g s t 0 = g := funext fun i => if_neg (by omega)
theorem cp_s {g : Nat → Int32} {s t n : Nat} (h : s + n < t ∨ t ≤ s) : upd (cp_b g s t n) (t + n) (cp_b g s t n (s + n)) = cp_b g s t (n + 1) := by
  funext i
  by_cases e : i = t + n
  · subst e
    rw [pk_us, cp_out (by omega), cp_in (by omega) (by omega)]
    exact congrArg g (by omega)
  · rw [pk_un e]
    by_cases h2 : t ≤ i ∧ i < t + n
    · rw [cp_in h2.1 h2.2, cp_in h2.1 (by omega)]
    · rw [cp_out (by omega), cp_out (by omega)]
/-- a block of an array written from another one -/
def st_b (k : Nat → Int32) (t n : Nat) (g : Nat → Int32) : Nat → Int32 := fun i => if t ≤ i ∧ i < t + n then g (i - t) else k i
theorem st_in {k g : Nat → Int32} {t n i : Nat} (h1 : t ≤ i) (h2 : i < t + n) : st_b k t n g i = g (i - t) := if_pos ⟨h1, h2⟩
theorem st_out {k g : Nat → Int32} {t n i : Nat} (h : i < t ∨ t + n ≤ i) : st_b k t n g i = k i := if_neg (by omega)
theorem st_0 {k g : Nat → Int32} {t : Nat} : st_b k t 0 g = k := funext fun i => if_neg (by omega)
theorem st_s {k g : Nat → Int32} {t n : Nat} : upd (st_b k t n g) (t + n) (g n) = st_b k t (n + 1) g := by
  funext i
  by_cases e : i = t + n
  · subst e
    rw [pk_us, st_in (by omega) (by omega)]
    exact congrArg g (by omega)
  · rw [pk_un e]
    by_cases h2 : t ≤ i ∧ i < t + n
    · rw [st_in h2.1 h2.2, st_in h2.1 (by omega)]
    · rw [st_out (by omega), st_out (by omega)]
/-- addresses in the document's one array -/
theorem ad_r (p : Nat) : (76 : Int32) + nI p * 51 = nI (76 + 51 * p) := by
  simp only [li_, pk_mul, nI_add]; exact congrArg nI (by omega)
theorem ad_j (p j : Nat) : nI (76 + 51 * p) + nI j = nI (76 + 51 * p + j) := nI_add _ _
theorem ad_w (p w : Nat) : ((76 : Int32) + nI p * 51) + 3 + nI w * 3 = nI (79 + 51 * p + 3 * w) := by
  simp only [li_, pk_mul, nI_add]; exact congrArg nI (by omega)
theorem ad_s (s t : Nat) : (4 : Int32) + nI s * 12 + nI t = nI (4 + 12 * s + t) := by
  simp only [li_, pk_mul, nI_add]; exact congrArg nI (by omega)
theorem ad_l (p k : Nat) : nI p * 16 + nI k = nI (16 * p + k) := by
  simp only [li_, pk_mul, nI_add]; exact congrArg nI (by omega)
theorem ad_yp (d p : Nat) : (24 : Int32) * nI d + nI p = nI (24 * d + p) := by
  simp only [li_, pk_mul, nI_add]
theorem ad_yw (d p w : Nat) : (384 : Int32) * nI d + 16 * nI p + nI w = nI (384 * d + 16 * p + w) := by
  simp only [li_, pk_mul, nI_add]
theorem ad_yl (p w : Nat) : (16 : Int32) * nI p + nI w = nI (16 * p + w) := by
  simp only [li_, pk_mul, nI_add]
theorem ad_ys (d s t : Nat) : (72 : Int32) * nI d + 12 * nI s + nI t = nI (72 * d + 12 * s + t) := by
  simp only [li_, pk_mul, nI_add]
/-- an index given by its number -/
theorem ix_in {x : Int32} {n N : Nat} (hx : x = nI n) (h : n < N) (hN : N < 2 ^ 31) : vp_in x N := by subst hx; exact vp_in_nI h hN
theorem ix_c {x : Int32} {n : Nat} (hx : x = nI n) (h : n < 2 ^ 31) : x.toNatClampNeg = n := by subst hx; exact nI_clamp h
theorem ad_0 (a : Nat) : nI a + 0 = nI a := nI_add a 0
theorem ad_2 (a : Nat) : nI a + 2 = nI (a + 2) := nI_add a 2
theorem ad_3 (a : Nat) : nI a + 3 = nI (a + 3) := nI_add a 3
