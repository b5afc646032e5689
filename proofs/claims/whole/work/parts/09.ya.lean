/-- one of two documents is another one -/
def ya_s (A : Nat → Nat → Int32) (d : Nat) (a : Nat → Int32) : Nat → Nat → Int32 := fun e => if e = d then a else A e
theorem ya_ss {A : Nat → Nat → Int32} {d : Nat} {a : Nat → Int32} : ya_s A d a d = a := if_pos rfl
theorem ya_sn {A : Nat → Nat → Int32} {d e : Nat} {a : Nat → Int32} (h : e ≠ d) : ya_s A d a e = A e := if_neg h
theorem ya_s2 {A : Nat → Nat → Int32} {d : Nat} {a b : Nat → Int32} : ya_s (ya_s A d a) d b = ya_s A d b := by
  funext e
  by_cases q : e = d
  · subst q; rw [ya_ss, ya_ss]
  · rw [ya_sn q, ya_sn q, ya_sn q]
theorem ya_sI {A : Nat → Nat → Int32} {d : Nat} : ya_s A d (A d) = A := by
  funext e
  by_cases q : e = d
  · subst q; rw [ya_ss]
  · rw [ya_sn q]
/-- Y's arrays hold the documents A 0 and A 1 -/
def ya_A (A : Nat → Nat → Int32) (y_many y_pages y_styles y_styleOf y_markOf y_words y_width y_note y_status : Nat → Int32) : Prop :=
  (∀ d, d < 2 → A d 0 = y_many d)
  ∧ (∀ d j, d < 2 → j < 3 → A d (1 + j) = y_pages (3 * d + j))
  ∧ (∀ d j, d < 2 → j < 72 → A d (4 + j) = y_styles (72 * d + j))
  ∧ (∀ d p, d < 2 → p < 24 → A d (76 + 51 * p) = y_styleOf (24 * d + p))
  ∧ (∀ d p, d < 2 → p < 24 → A d (77 + 51 * p) = y_markOf (24 * d + p))
  ∧ (∀ d p, d < 2 → p < 24 → A d (78 + 51 * p) = y_words (24 * d + p))
  ∧ (∀ d p w, d < 2 → p < 24 → w < 16 → A d (79 + 51 * p + 3 * w) = y_width (384 * d + 16 * p + w))
  ∧ (∀ d p w, d < 2 → p < 24 → w < 16 → A d (80 + 51 * p + 3 * w) = y_note (384 * d + 16 * p + w))
  ∧ (∀ d p w, d < 2 → p < 24 → w < 16 → A d (81 + 51 * p + 3 * w) = y_status (384 * d + 16 * p + w))
theorem ya_many {A : Nat → Nat → Int32} {y_many y_pages y_styles y_styleOf y_markOf y_words y_width y_note y_status : Nat → Int32} (H : ya_A A y_many y_pages y_styles y_styleOf y_markOf y_words y_width y_note y_status) {d  : Nat} (hd : d < 2) : A d 0 = y_many d := H.1 d  hd 
theorem ya_pages {A : Nat → Nat → Int32} {y_many y_pages y_styles y_styleOf y_markOf y_words y_width y_note y_status : Nat → Int32} (H : ya_A A y_many y_pages y_styles y_styleOf y_markOf y_words y_width y_note y_status) {d j : Nat} (hd : d < 2) (hj : j < 3) : A d (1 + j) = y_pages (3 * d + j) := H.2.1 d j hd hj
theorem ya_styles {A : Nat → Nat → Int32} {y_many y_pages y_styles y_styleOf y_markOf y_words y_width y_note y_status : Nat → Int32} (H : ya_A A y_many y_pages y_styles y_styleOf y_markOf y_words y_width y_note y_status) {d j : Nat} (hd : d < 2) (hj : j < 72) : A d (4 + j) = y_styles (72 * d + j) := H.2.2.1 d j hd hj
theorem ya_styleOf {A : Nat → Nat → Int32} {y_many y_pages y_styles y_styleOf y_markOf y_words y_width y_note y_status : Nat → Int32} (H : ya_A A y_many y_pages y_styles y_styleOf y_markOf y_words y_width y_note y_status) {d p : Nat} (hd : d < 2) (hp : p < 24) : A d (76 + 51 * p) = y_styleOf (24 * d + p) := H.2.2.2.1 d p hd hp
theorem ya_markOf {A : Nat → Nat → Int32} {y_many y_pages y_styles y_styleOf y_markOf y_words y_width y_note y_status : Nat → Int32} (H : ya_A A y_many y_pages y_styles y_styleOf y_markOf y_words y_width y_note y_status) {d p : Nat} (hd : d < 2) (hp : p < 24) : A d (77 + 51 * p) = y_markOf (24 * d + p) := H.2.2.2.2.1 d p hd hp
theorem ya_words {A : Nat → Nat → Int32} {y_many y_pages y_styles y_styleOf y_markOf y_words y_width y_note y_status : Nat → Int32} (H : ya_A A y_many y_pages y_styles y_styleOf y_markOf y_words y_width y_note y_status) {d p : Nat} (hd : d < 2) (hp : p < 24) : A d (78 + 51 * p) = y_words (24 * d + p) := H.2.2.2.2.2.1 d p hd hp
theorem ya_width {A : Nat → Nat → Int32} {y_many y_pages y_styles y_styleOf y_markOf y_words y_width y_note y_status : Nat → Int32} (H : ya_A A y_many y_pages y_styles y_styleOf y_markOf y_words y_width y_note y_status) {d p w : Nat} (hd : d < 2) (hp : p < 24) (hw : w < 16) : A d (79 + 51 * p + 3 * w) = y_width (384 * d + 16 * p + w) := H.2.2.2.2.2.2.1 d p w hd hp hw
theorem ya_note {A : Nat → Nat → Int32} {y_many y_pages y_styles y_styleOf y_markOf y_words y_width y_note y_status : Nat → Int32} (H : ya_A A y_many y_pages y_styles y_styleOf y_markOf y_words y_width y_note y_status) {d p w : Nat} (hd : d < 2) (hp : p < 24) (hw : w < 16) : A d (80 + 51 * p + 3 * w) = y_note (384 * d + 16 * p + w) := H.2.2.2.2.2.2.2.1 d p w hd hp hw
theorem ya_status {A : Nat → Nat → Int32} {y_many y_pages y_styles y_styleOf y_markOf y_words y_width y_note y_status : Nat → Int32} (H : ya_A A y_many y_pages y_styles y_styleOf y_markOf y_words y_width y_note y_status) {d p w : Nat} (hd : d < 2) (hp : p < 24) (hw : w < 16) : A d (81 + 51 * p + 3 * w) = y_status (384 * d + 16 * p + w) := H.2.2.2.2.2.2.2.2 d p w hd hp hw
theorem yu_many {A : Nat → Nat → Int32} {y_many y_pages y_styles y_styleOf y_markOf y_words y_width y_note y_status : Nat → Int32} {d  : Nat} {v : Int32} (H : ya_A A y_many y_pages y_styles y_styleOf y_markOf y_words y_width y_note y_status) (hd : d < 2) : ya_A (ya_s A d (upd (A d) 0 v)) (upd y_many d v) y_pages y_styles y_styleOf y_markOf y_words y_width y_note y_status := by
  refine ⟨fun e he => ?_, fun e j' he hj' => ?_, fun e j' he hj' => ?_, fun e p' he hp' => ?_, fun e p' he hp' => ?_, fun e p' he hp' => ?_, fun e p' w' he hp' hw' => ?_, fun e p' w' he hp' hw' => ?_, fun e p' w' he hp' hw' => ?_⟩
  · by_cases q : e = d
    · obtain rfl := q; rw [ya_ss, pk_us, pk_us]
    · rw [pk_un (by omega)]
      rw [ya_sn q]; exact (H.1 e he )
  · by_cases q2 : e = d
    · subst q2; rw [ya_ss, pk_un (by omega)]; exact (H.2.1 e j' he hj')
    · rw [ya_sn q2]; exact (H.2.1 e j' he hj')
  · by_cases q2 : e = d
    · subst q2; rw [ya_ss, pk_un (by omega)]; exact (H.2.2.1 e j' he hj')
    · rw [ya_sn q2]; exact (H.2.2.1 e j' he hj')
  · by_cases q2 : e = d
    · subst q2; rw [ya_ss, pk_un (by omega)]; exact (H.2.2.2.1 e p' he hp')
    · rw [ya_sn q2]; exact (H.2.2.2.1 e p' he hp')
  · by_cases q2 : e = d
    · subst q2; rw [ya_ss, pk_un (by omega)]; exact (H.2.2.2.2.1 e p' he hp')
    · rw [ya_sn q2]; exact (H.2.2.2.2.1 e p' he hp')
  · by_cases q2 : e = d
    · subst q2; rw [ya_ss, pk_un (by omega)]; exact (H.2.2.2.2.2.1 e p' he hp')
    · rw [ya_sn q2]; exact (H.2.2.2.2.2.1 e p' he hp')
  · by_cases q2 : e = d
    · subst q2; rw [ya_ss, pk_un (by omega)]; exact (H.2.2.2.2.2.2.1 e p' w' he hp' hw')
    · rw [ya_sn q2]; exact (H.2.2.2.2.2.2.1 e p' w' he hp' hw')
  · by_cases q2 : e = d
    · subst q2; rw [ya_ss, pk_un (by omega)]; exact (H.2.2.2.2.2.2.2.1 e p' w' he hp' hw')
    · rw [ya_sn q2]; exact (H.2.2.2.2.2.2.2.1 e p' w' he hp' hw')
  · by_cases q2 : e = d
    · subst q2; rw [ya_ss, pk_un (by omega)]; exact (H.2.2.2.2.2.2.2.2 e p' w' he hp' hw')
    · rw [ya_sn q2]; exact (H.2.2.2.2.2.2.2.2 e p' w' he hp' hw')
theorem yu_pages {A : Nat → Nat → Int32} {y_many y_pages y_styles y_styleOf y_markOf y_words y_width y_note y_status : Nat → Int32} {d j : Nat} {v : Int32} (H : ya_A A y_many y_pages y_styles y_styleOf y_markOf y_words y_width y_note y_status) (hd : d < 2) (hj : j < 3) : ya_A (ya_s A d (upd (A d) (1 + j) v)) y_many (upd y_pages (3 * d + j) v) y_styles y_styleOf y_markOf y_words y_width y_note y_status := by
  refine ⟨fun e he => ?_, fun e j' he hj' => ?_, fun e j' he hj' => ?_, fun e p' he hp' => ?_, fun e p' he hp' => ?_, fun e p' he hp' => ?_, fun e p' w' he hp' hw' => ?_, fun e p' w' he hp' hw' => ?_, fun e p' w' he hp' hw' => ?_⟩
  · by_cases q2 : e = d
    · subst q2; rw [ya_ss, pk_un (by omega)]; exact (H.1 e he )
    · rw [ya_sn q2]; exact (H.1 e he )
  · by_cases q : e = d ∧ j' = j
    · obtain ⟨rfl, rfl⟩ := q; rw [ya_ss, pk_us, pk_us]
    · rw [pk_un (by omega)]
      by_cases q2 : e = d
      · subst q2; rw [ya_ss, pk_un (by omega)]; exact (H.2.1 e j' he hj')
      · rw [ya_sn q2]; exact (H.2.1 e j' he hj')
  · by_cases q2 : e = d
    · subst q2; rw [ya_ss, pk_un (by omega)]; exact (H.2.2.1 e j' he hj')
    · rw [ya_sn q2]; exact (H.2.2.1 e j' he hj')
  · by_cases q2 : e = d
    · subst q2; rw [ya_ss, pk_un (by omega)]; exact (H.2.2.2.1 e p' he hp')
    · rw [ya_sn q2]; exact (H.2.2.2.1 e p' he hp')
  · by_cases q2 : e = d
    · subst q2; rw [ya_ss, pk_un (by omega)]; exact (H.2.2.2.2.1 e p' he hp')
    · rw [ya_sn q2]; exact (H.2.2.2.2.1 e p' he hp')
  · by_cases q2 : e = d
    · subst q2; rw [ya_ss, pk_un (by omega)]; exact (H.2.2.2.2.2.1 e p' he hp')
    · rw [ya_sn q2]; exact (H.2.2.2.2.2.1 e p' he hp')
  · by_cases q2 : e = d
    · subst q2; rw [ya_ss, pk_un (by omega)]; exact (H.2.2.2.2.2.2.1 e p' w' he hp' hw')
    · rw [ya_sn q2]; exact (H.2.2.2.2.2.2.1 e p' w' he hp' hw')
  · by_cases q2 : e = d
    · subst q2; rw [ya_ss, pk_un (by omega)]; exact (H.2.2.2.2.2.2.2.1 e p' w' he hp' hw')
    · rw [ya_sn q2]; exact (H.2.2.2.2.2.2.2.1 e p' w' he hp' hw')
  · by_cases q2 : e = d
    · subst q2; rw [ya_ss, pk_un (by omega)]; exact (H.2.2.2.2.2.2.2.2 e p' w' he hp' hw')
    · rw [ya_sn q2]; exact (H.2.2.2.2.2.2.2.2 e p' w' he hp' hw')
theorem yu_styles {A : Nat → Nat → Int32} {y_many y_pages y_styles y_styleOf y_markOf y_words y_width y_note y_status : Nat → Int32} {d j : Nat} {v : Int32} (H : ya_A A y_many y_pages y_styles y_styleOf y_markOf y_words y_width y_note y_status) (hd : d < 2) (hj : j < 72) : ya_A (ya_s A d (upd (A d) (4 + j) v)) y_many y_pages (upd y_styles (72 * d + j) v) y_styleOf y_markOf y_words y_width y_note y_status := by
  refine ⟨fun e he => ?_, fun e j' he hj' => ?_, fun e j' he hj' => ?_, fun e p' he hp' => ?_, fun e p' he hp' => ?_, fun e p' he hp' => ?_, fun e p' w' he hp' hw' => ?_, fun e p' w' he hp' hw' => ?_, fun e p' w' he hp' hw' => ?_⟩
  · by_cases q2 : e = d
    · subst q2; rw [ya_ss, pk_un (by omega)]; exact (H.1 e he )
    · rw [ya_sn q2]; exact (H.1 e he )
  · by_cases q2 : e = d
    · subst q2; rw [ya_ss, pk_un (by omega)]; exact (H.2.1 e j' he hj')
    · rw [ya_sn q2]; exact (H.2.1 e j' he hj')
  · by_cases q : e = d ∧ j' = j
    · obtain ⟨rfl, rfl⟩ := q; rw [ya_ss, pk_us, pk_us]
    · rw [pk_un (by omega)]
      by_cases q2 : e = d
      · subst q2; rw [ya_ss, pk_un (by omega)]; exact (H.2.2.1 e j' he hj')
      · rw [ya_sn q2]; exact (H.2.2.1 e j' he hj')
  · by_cases q2 : e = d
    · subst q2; rw [ya_ss, pk_un (by omega)]; exact (H.2.2.2.1 e p' he hp')
    · rw [ya_sn q2]; exact (H.2.2.2.1 e p' he hp')
  · by_cases q2 : e = d
    · subst q2; rw [ya_ss, pk_un (by omega)]; exact (H.2.2.2.2.1 e p' he hp')
    · rw [ya_sn q2]; exact (H.2.2.2.2.1 e p' he hp')
  · by_cases q2 : e = d
    · subst q2; rw [ya_ss, pk_un (by omega)]; exact (H.2.2.2.2.2.1 e p' he hp')
    · rw [ya_sn q2]; exact (H.2.2.2.2.2.1 e p' he hp')
  · by_cases q2 : e = d
    · subst q2; rw [ya_ss, pk_un (by omega)]; exact (H.2.2.2.2.2.2.1 e p' w' he hp' hw')
    · rw [ya_sn q2]; exact (H.2.2.2.2.2.2.1 e p' w' he hp' hw')
  · by_cases q2 : e = d
    · subst q2; rw [ya_ss, pk_un (by omega)]; exact (H.2.2.2.2.2.2.2.1 e p' w' he hp' hw')
    · rw [ya_sn q2]; exact (H.2.2.2.2.2.2.2.1 e p' w' he hp' hw')
  · by_cases q2 : e = d
    · subst q2; rw [ya_ss, pk_un (by omega)]; exact (H.2.2.2.2.2.2.2.2 e p' w' he hp' hw')
    · rw [ya_sn q2]; exact (H.2.2.2.2.2.2.2.2 e p' w' he hp' hw')
theorem yu_styleOf {A : Nat → Nat → Int32} {y_many y_pages y_styles y_styleOf y_markOf y_words y_width y_note y_status : Nat → Int32} {d p : Nat} {v : Int32} (H : ya_A A y_many y_pages y_styles y_styleOf y_markOf y_words y_width y_note y_status) (hd : d < 2) (hp : p < 24) : ya_A (ya_s A d (upd (A d) (76 + 51 * p) v)) y_many y_pages y_styles (upd y_styleOf (24 * d + p) v) y_markOf y_words y_width y_note y_status := by
  refine ⟨fun e he => ?_, fun e j' he hj' => ?_, fun e j' he hj' => ?_, fun e p' he hp' => ?_, fun e p' he hp' => ?_, fun e p' he hp' => ?_, fun e p' w' he hp' hw' => ?_, fun e p' w' he hp' hw' => ?_, fun e p' w' he hp' hw' => ?_⟩
  · by_cases q2 : e = d
    · subst q2; rw [ya_ss, pk_un (by omega)]; exact (H.1 e he )
    · rw [ya_sn q2]; exact (H.1 e he )
  · by_cases q2 : e = d
    · subst q2; rw [ya_ss, pk_un (by omega)]; exact (H.2.1 e j' he hj')
    · rw [ya_sn q2]; exact (H.2.1 e j' he hj')
  · by_cases q2 : e = d
    · subst q2; rw [ya_ss, pk_un (by omega)]; exact (H.2.2.1 e j' he hj')
    · rw [ya_sn q2]; exact (H.2.2.1 e j' he hj')
  · by_cases q : e = d ∧ p' = p
    · obtain ⟨rfl, rfl⟩ := q; rw [ya_ss, pk_us, pk_us]
    · rw [pk_un (by omega)]
      by_cases q2 : e = d
      · subst q2; rw [ya_ss, pk_un (by omega)]; exact (H.2.2.2.1 e p' he hp')
      · rw [ya_sn q2]; exact (H.2.2.2.1 e p' he hp')
  · by_cases q2 : e = d
    · subst q2; rw [ya_ss, pk_un (by omega)]; exact (H.2.2.2.2.1 e p' he hp')
    · rw [ya_sn q2]; exact (H.2.2.2.2.1 e p' he hp')
  · by_cases q2 : e = d
    · subst q2; rw [ya_ss, pk_un (by omega)]; exact (H.2.2.2.2.2.1 e p' he hp')
    · rw [ya_sn q2]; exact (H.2.2.2.2.2.1 e p' he hp')
  · by_cases q2 : e = d
    · subst q2; rw [ya_ss, pk_un (by omega)]; exact (H.2.2.2.2.2.2.1 e p' w' he hp' hw')
    · rw [ya_sn q2]; exact (H.2.2.2.2.2.2.1 e p' w' he hp' hw')
  · by_cases q2 : e = d
    · subst q2; rw [ya_ss, pk_un (by omega)]; exact (H.2.2.2.2.2.2.2.1 e p' w' he hp' hw')
    · rw [ya_sn q2]; exact (H.2.2.2.2.2.2.2.1 e p' w' he hp' hw')
  · by_cases q2 : e = d
    · subst q2; rw [ya_ss, pk_un (by omega)]; exact (H.2.2.2.2.2.2.2.2 e p' w' he hp' hw')
    · rw [ya_sn q2]; exact (H.2.2.2.2.2.2.2.2 e p' w' he hp' hw')
theorem yu_markOf {A : Nat → Nat → Int32} {y_many y_pages y_styles y_styleOf y_markOf y_words y_width y_note y_status : Nat → Int32} {d p : Nat} {v : Int32} (H : ya_A A y_many y_pages y_styles y_styleOf y_markOf y_words y_width y_note y_status) (hd : d < 2) (hp : p < 24) : ya_A (ya_s A d (upd (A d) (77 + 51 * p) v)) y_many y_pages y_styles y_styleOf (upd y_markOf (24 * d + p) v) y_words y_width y_note y_status := by
  refine ⟨fun e he => ?_, fun e j' he hj' => ?_, fun e j' he hj' => ?_, fun e p' he hp' => ?_, fun e p' he hp' => ?_, fun e p' he hp' => ?_, fun e p' w' he hp' hw' => ?_, fun e p' w' he hp' hw' => ?_, fun e p' w' he hp' hw' => ?_⟩
  · by_cases q2 : e = d
    · subst q2; rw [ya_ss, pk_un (by omega)]; exact (H.1 e he )
    · rw [ya_sn q2]; exact (H.1 e he )
  · by_cases q2 : e = d
    · subst q2; rw [ya_ss, pk_un (by omega)]; exact (H.2.1 e j' he hj')
    · rw [ya_sn q2]; exact (H.2.1 e j' he hj')
  · by_cases q2 : e = d
    · subst q2; rw [ya_ss, pk_un (by omega)]; exact (H.2.2.1 e j' he hj')
    · rw [ya_sn q2]; exact (H.2.2.1 e j' he hj')
  · by_cases q2 : e = d
    · subst q2; rw [ya_ss, pk_un (by omega)]; exact (H.2.2.2.1 e p' he hp')
    · rw [ya_sn q2]; exact (H.2.2.2.1 e p' he hp')
  · by_cases q : e = d ∧ p' = p
    · obtain ⟨rfl, rfl⟩ := q; rw [ya_ss, pk_us, pk_us]
    · rw [pk_un (by omega)]
      by_cases q2 : e = d
      · subst q2; rw [ya_ss, pk_un (by omega)]; exact (H.2.2.2.2.1 e p' he hp')
      · rw [ya_sn q2]; exact (H.2.2.2.2.1 e p' he hp')
  · by_cases q2 : e = d
    · subst q2; rw [ya_ss, pk_un (by omega)]; exact (H.2.2.2.2.2.1 e p' he hp')
    · rw [ya_sn q2]; exact (H.2.2.2.2.2.1 e p' he hp')
  · by_cases q2 : e = d
    · subst q2; rw [ya_ss, pk_un (by omega)]; exact (H.2.2.2.2.2.2.1 e p' w' he hp' hw')
    · rw [ya_sn q2]; exact (H.2.2.2.2.2.2.1 e p' w' he hp' hw')
  · by_cases q2 : e = d
    · subst q2; rw [ya_ss, pk_un (by omega)]; exact (H.2.2.2.2.2.2.2.1 e p' w' he hp' hw')
    · rw [ya_sn q2]; exact (H.2.2.2.2.2.2.2.1 e p' w' he hp' hw')
  · by_cases q2 : e = d
    · subst q2; rw [ya_ss, pk_un (by omega)]; exact (H.2.2.2.2.2.2.2.2 e p' w' he hp' hw')
    · rw [ya_sn q2]; exact (H.2.2.2.2.2.2.2.2 e p' w' he hp' hw')
theorem yu_words {A : Nat → Nat → Int32} {y_many y_pages y_styles y_styleOf y_markOf y_words y_width y_note y_status : Nat → Int32} {d p : Nat} {v : Int32} (H : ya_A A y_many y_pages y_styles y_styleOf y_markOf y_words y_width y_note y_status) (hd : d < 2) (hp : p < 24) : ya_A (ya_s A d (upd (A d) (78 + 51 * p) v)) y_many y_pages y_styles y_styleOf y_markOf (upd y_words (24 * d + p) v) y_width y_note y_status := by
  refine ⟨fun e he => ?_, fun e j' he hj' => ?_, fun e j' he hj' => ?_, fun e p' he hp' => ?_, fun e p' he hp' => ?_, fun e p' he hp' => ?_, fun e p' w' he hp' hw' => ?_, fun e p' w' he hp' hw' => ?_, fun e p' w' he hp' hw' => ?_⟩
  · by_cases q2 : e = d
    · subst q2; rw [ya_ss, pk_un (by omega)]; exact (H.1 e he )
    · rw [ya_sn q2]; exact (H.1 e he )
  · by_cases q2 : e = d
    · subst q2; rw [ya_ss, pk_un (by omega)]; exact (H.2.1 e j' he hj')
    · rw [ya_sn q2]; exact (H.2.1 e j' he hj')
  · by_cases q2 : e = d
    · subst q2; rw [ya_ss, pk_un (by omega)]; exact (H.2.2.1 e j' he hj')
    · rw [ya_sn q2]; exact (H.2.2.1 e j' he hj')
  · by_cases q2 : e = d
    · subst q2; rw [ya_ss, pk_un (by omega)]; exact (H.2.2.2.1 e p' he hp')
    · rw [ya_sn q2]; exact (H.2.2.2.1 e p' he hp')
  · by_cases q2 : e = d
    · subst q2; rw [ya_ss, pk_un (by omega)]; exact (H.2.2.2.2.1 e p' he hp')
    · rw [ya_sn q2]; exact (H.2.2.2.2.1 e p' he hp')
  · by_cases q : e = d ∧ p' = p
    · obtain ⟨rfl, rfl⟩ := q; rw [ya_ss, pk_us, pk_us]
    · rw [pk_un (by omega)]
      by_cases q2 : e = d
      · subst q2; rw [ya_ss, pk_un (by omega)]; exact (H.2.2.2.2.2.1 e p' he hp')
      · rw [ya_sn q2]; exact (H.2.2.2.2.2.1 e p' he hp')
  · by_cases q2 : e = d
    · subst q2; rw [ya_ss, pk_un (by omega)]; exact (H.2.2.2.2.2.2.1 e p' w' he hp' hw')
    · rw [ya_sn q2]; exact (H.2.2.2.2.2.2.1 e p' w' he hp' hw')
  · by_cases q2 : e = d
    · subst q2; rw [ya_ss, pk_un (by omega)]; exact (H.2.2.2.2.2.2.2.1 e p' w' he hp' hw')
    · rw [ya_sn q2]; exact (H.2.2.2.2.2.2.2.1 e p' w' he hp' hw')
  · by_cases q2 : e = d
    · subst q2; rw [ya_ss, pk_un (by omega)]; exact (H.2.2.2.2.2.2.2.2 e p' w' he hp' hw')
    · rw [ya_sn q2]; exact (H.2.2.2.2.2.2.2.2 e p' w' he hp' hw')
theorem yu_width {A : Nat → Nat → Int32} {y_many y_pages y_styles y_styleOf y_markOf y_words y_width y_note y_status : Nat → Int32} {d p w : Nat} {v : Int32} (H : ya_A A y_many y_pages y_styles y_styleOf y_markOf y_words y_width y_note y_status) (hd : d < 2) (hp : p < 24) (hw : w < 16) : ya_A (ya_s A d (upd (A d) (79 + 51 * p + 3 * w) v)) y_many y_pages y_styles y_styleOf y_markOf y_words (upd y_width (384 * d + 16 * p + w) v) y_note y_status := by
  refine ⟨fun e he => ?_, fun e j' he hj' => ?_, fun e j' he hj' => ?_, fun e p' he hp' => ?_, fun e p' he hp' => ?_, fun e p' he hp' => ?_, fun e p' w' he hp' hw' => ?_, fun e p' w' he hp' hw' => ?_, fun e p' w' he hp' hw' => ?_⟩
  · by_cases q2 : e = d
    · subst q2; rw [ya_ss, pk_un (by omega)]; exact (H.1 e he )
    · rw [ya_sn q2]; exact (H.1 e he )
  · by_cases q2 : e = d
    · subst q2; rw [ya_ss, pk_un (by omega)]; exact (H.2.1 e j' he hj')
    · rw [ya_sn q2]; exact (H.2.1 e j' he hj')
  · by_cases q2 : e = d
    · subst q2; rw [ya_ss, pk_un (by omega)]; exact (H.2.2.1 e j' he hj')
    · rw [ya_sn q2]; exact (H.2.2.1 e j' he hj')
  · by_cases q2 : e = d
    · subst q2; rw [ya_ss, pk_un (by omega)]; exact (H.2.2.2.1 e p' he hp')
    · rw [ya_sn q2]; exact (H.2.2.2.1 e p' he hp')
  · by_cases q2 : e = d
    · subst q2; rw [ya_ss, pk_un (by omega)]; exact (H.2.2.2.2.1 e p' he hp')
    · rw [ya_sn q2]; exact (H.2.2.2.2.1 e p' he hp')
  · by_cases q2 : e = d
    · subst q2; rw [ya_ss, pk_un (by omega)]; exact (H.2.2.2.2.2.1 e p' he hp')
    · rw [ya_sn q2]; exact (H.2.2.2.2.2.1 e p' he hp')
  · by_cases q : e = d ∧ p' = p ∧ w' = w
    · obtain ⟨rfl, rfl, rfl⟩ := q; rw [ya_ss, pk_us, pk_us]
    · rw [pk_un (by omega)]
      by_cases q2 : e = d
      · subst q2; rw [ya_ss, pk_un (by omega)]; exact (H.2.2.2.2.2.2.1 e p' w' he hp' hw')
      · rw [ya_sn q2]; exact (H.2.2.2.2.2.2.1 e p' w' he hp' hw')
  · by_cases q2 : e = d
    · subst q2; rw [ya_ss, pk_un (by omega)]; exact (H.2.2.2.2.2.2.2.1 e p' w' he hp' hw')
    · rw [ya_sn q2]; exact (H.2.2.2.2.2.2.2.1 e p' w' he hp' hw')
  · by_cases q2 : e = d
    · subst q2; rw [ya_ss, pk_un (by omega)]; exact (H.2.2.2.2.2.2.2.2 e p' w' he hp' hw')
    · rw [ya_sn q2]; exact (H.2.2.2.2.2.2.2.2 e p' w' he hp' hw')
theorem yu_note {A : Nat → Nat → Int32} {y_many y_pages y_styles y_styleOf y_markOf y_words y_width y_note y_status : Nat → Int32} {d p w : Nat} {v : Int32} (H : ya_A A y_many y_pages y_styles y_styleOf y_markOf y_words y_width y_note y_status) (hd : d < 2) (hp : p < 24) (hw : w < 16) : ya_A (ya_s A d (upd (A d) (80 + 51 * p + 3 * w) v)) y_many y_pages y_styles y_styleOf y_markOf y_words y_width (upd y_note (384 * d + 16 * p + w) v) y_status := by
  refine ⟨fun e he => ?_, fun e j' he hj' => ?_, fun e j' he hj' => ?_, fun e p' he hp' => ?_, fun e p' he hp' => ?_, fun e p' he hp' => ?_, fun e p' w' he hp' hw' => ?_, fun e p' w' he hp' hw' => ?_, fun e p' w' he hp' hw' => ?_⟩
  · by_cases q2 : e = d
    · subst q2; rw [ya_ss, pk_un (by omega)]; exact (H.1 e he )
    · rw [ya_sn q2]; exact (H.1 e he )
  · by_cases q2 : e = d
    · subst q2; rw [ya_ss, pk_un (by omega)]; exact (H.2.1 e j' he hj')
    · rw [ya_sn q2]; exact (H.2.1 e j' he hj')
  · by_cases q2 : e = d
    · subst q2; rw [ya_ss, pk_un (by omega)]; exact (H.2.2.1 e j' he hj')
    · rw [ya_sn q2]; exact (H.2.2.1 e j' he hj')
  · by_cases q2 : e = d
    · subst q2; rw [ya_ss, pk_un (by omega)]; exact (H.2.2.2.1 e p' he hp')
    · rw [ya_sn q2]; exact (H.2.2.2.1 e p' he hp')
  · by_cases q2 : e = d
    · subst q2; rw [ya_ss, pk_un (by omega)]; exact (H.2.2.2.2.1 e p' he hp')
    · rw [ya_sn q2]; exact (H.2.2.2.2.1 e p' he hp')
  · by_cases q2 : e = d
    · subst q2; rw [ya_ss, pk_un (by omega)]; exact (H.2.2.2.2.2.1 e p' he hp')
    · rw [ya_sn q2]; exact (H.2.2.2.2.2.1 e p' he hp')
  · by_cases q2 : e = d
    · subst q2; rw [ya_ss, pk_un (by omega)]; exact (H.2.2.2.2.2.2.1 e p' w' he hp' hw')
    · rw [ya_sn q2]; exact (H.2.2.2.2.2.2.1 e p' w' he hp' hw')
  · by_cases q : e = d ∧ p' = p ∧ w' = w
    · obtain ⟨rfl, rfl, rfl⟩ := q; rw [ya_ss, pk_us, pk_us]
    · rw [pk_un (by omega)]
      by_cases q2 : e = d
      · subst q2; rw [ya_ss, pk_un (by omega)]; exact (H.2.2.2.2.2.2.2.1 e p' w' he hp' hw')
      · rw [ya_sn q2]; exact (H.2.2.2.2.2.2.2.1 e p' w' he hp' hw')
  · by_cases q2 : e = d
    · subst q2; rw [ya_ss, pk_un (by omega)]; exact (H.2.2.2.2.2.2.2.2 e p' w' he hp' hw')
    · rw [ya_sn q2]; exact (H.2.2.2.2.2.2.2.2 e p' w' he hp' hw')
theorem yu_status {A : Nat → Nat → Int32} {y_many y_pages y_styles y_styleOf y_markOf y_words y_width y_note y_status : Nat → Int32} {d p w : Nat} {v : Int32} (H : ya_A A y_many y_pages y_styles y_styleOf y_markOf y_words y_width y_note y_status) (hd : d < 2) (hp : p < 24) (hw : w < 16) : ya_A (ya_s A d (upd (A d) (81 + 51 * p + 3 * w) v)) y_many y_pages y_styles y_styleOf y_markOf y_words y_width y_note (upd y_status (384 * d + 16 * p + w) v) := by
  refine ⟨fun e he => ?_, fun e j' he hj' => ?_, fun e j' he hj' => ?_, fun e p' he hp' => ?_, fun e p' he hp' => ?_, fun e p' he hp' => ?_, fun e p' w' he hp' hw' => ?_, fun e p' w' he hp' hw' => ?_, fun e p' w' he hp' hw' => ?_⟩
  · by_cases q2 : e = d
    · subst q2; rw [ya_ss, pk_un (by omega)]; exact (H.1 e he )
    · rw [ya_sn q2]; exact (H.1 e he )
  · by_cases q2 : e = d
    · subst q2; rw [ya_ss, pk_un (by omega)]; exact (H.2.1 e j' he hj')
    · rw [ya_sn q2]; exact (H.2.1 e j' he hj')
  · by_cases q2 : e = d
    · subst q2; rw [ya_ss, pk_un (by omega)]; exact (H.2.2.1 e j' he hj')
    · rw [ya_sn q2]; exact (H.2.2.1 e j' he hj')
  · by_cases q2 : e = d
    · subst q2; rw [ya_ss, pk_un (by omega)]; exact (H.2.2.2.1 e p' he hp')
    · rw [ya_sn q2]; exact (H.2.2.2.1 e p' he hp')
  · by_cases q2 : e = d
    · subst q2; rw [ya_ss, pk_un (by omega)]; exact (H.2.2.2.2.1 e p' he hp')
    · rw [ya_sn q2]; exact (H.2.2.2.2.1 e p' he hp')
  · by_cases q2 : e = d
    · subst q2; rw [ya_ss, pk_un (by omega)]; exact (H.2.2.2.2.2.1 e p' he hp')
    · rw [ya_sn q2]; exact (H.2.2.2.2.2.1 e p' he hp')
  · by_cases q2 : e = d
    · subst q2; rw [ya_ss, pk_un (by omega)]; exact (H.2.2.2.2.2.2.1 e p' w' he hp' hw')
    · rw [ya_sn q2]; exact (H.2.2.2.2.2.2.1 e p' w' he hp' hw')
  · by_cases q2 : e = d
    · subst q2; rw [ya_ss, pk_un (by omega)]; exact (H.2.2.2.2.2.2.2.1 e p' w' he hp' hw')
    · rw [ya_sn q2]; exact (H.2.2.2.2.2.2.2.1 e p' w' he hp' hw')
  · by_cases q : e = d ∧ p' = p ∧ w' = w
    · obtain ⟨rfl, rfl, rfl⟩ := q; rw [ya_ss, pk_us, pk_us]
    · rw [pk_un (by omega)]
      by_cases q2 : e = d
      · subst q2; rw [ya_ss, pk_un (by omega)]; exact (H.2.2.2.2.2.2.2.2 e p' w' he hp' hw')
      · rw [ya_sn q2]; exact (H.2.2.2.2.2.2.2.2 e p' w' he hp' hw')
theorem yu_cp {A : Nat → Nat → Int32} {y_many y_pages y_styles y_styleOf y_markOf y_words y_width y_note y_status : Nat → Int32} {d f t : Nat} (H : ya_A A y_many y_pages y_styles y_styleOf y_markOf y_words y_width y_note y_status) (hd : d < 2) (hf : f < 24) (ht : t < 24) : ya_A (ya_s A d (dc_cp (A d) f t)) y_many y_pages y_styles (upd y_styleOf (24 * d + t) (y_styleOf (24 * d + f))) (upd y_markOf (24 * d + t) (y_markOf (24 * d + f))) (upd y_words (24 * d + t) (y_words (24 * d + f))) (cp_b y_width (384 * d + 16 * f) (384 * d + 16 * t) 16) (cp_b y_note (384 * d + 16 * f) (384 * d + 16 * t) 16) (cp_b y_status (384 * d + 16 * f) (384 * d + 16 * t) 16) := by
  unfold dc_cp
  refine ⟨fun e he => ?_, fun e j' he hj' => ?_, fun e j' he hj' => ?_, fun e p' he hp' => ?_, fun e p' he hp' => ?_, fun e p' he hp' => ?_, fun e p' w' he hp' hw' => ?_, fun e p' w' he hp' hw' => ?_, fun e p' w' he hp' hw' => ?_⟩
  · by_cases q2 : e = d
    · subst q2; rw [ya_ss, cp_out (by omega)]; exact (H.1 e he )
    · rw [ya_sn q2]; exact (H.1 e he )
  · by_cases q2 : e = d
    · subst q2; rw [ya_ss, cp_out (by omega)]; exact (H.2.1 e j' he hj')
    · rw [ya_sn q2]; exact (H.2.1 e j' he hj')
  · by_cases q2 : e = d
    · subst q2; rw [ya_ss, cp_out (by omega)]; exact (H.2.2.1 e j' he hj')
    · rw [ya_sn q2]; exact (H.2.2.1 e j' he hj')
  · by_cases q2 : e = d
    · subst q2; rw [ya_ss]
      by_cases q : p' = t
      · subst q; rw [pk_us, cp_in (by omega) (by omega), ← (H.2.2.2.1 e f he hf)]; exact congrArg (A e) (by omega)
      · rw [pk_un (by omega), cp_out (by omega)]; exact (H.2.2.2.1 e p' he hp')
    · rw [ya_sn q2, pk_un (by omega)]; exact (H.2.2.2.1 e p' he hp')
  · by_cases q2 : e = d
    · subst q2; rw [ya_ss]
      by_cases q : p' = t
      · subst q; rw [pk_us, cp_in (by omega) (by omega), ← (H.2.2.2.2.1 e f he hf)]; exact congrArg (A e) (by omega)
      · rw [pk_un (by omega), cp_out (by omega)]; exact (H.2.2.2.2.1 e p' he hp')
    · rw [ya_sn q2, pk_un (by omega)]; exact (H.2.2.2.2.1 e p' he hp')
  · by_cases q2 : e = d
    · subst q2; rw [ya_ss]
      by_cases q : p' = t
      · subst q; rw [pk_us, cp_in (by omega) (by omega), ← (H.2.2.2.2.2.1 e f he hf)]; exact congrArg (A e) (by omega)
      · rw [pk_un (by omega), cp_out (by omega)]; exact (H.2.2.2.2.2.1 e p' he hp')
    · rw [ya_sn q2, pk_un (by omega)]; exact (H.2.2.2.2.2.1 e p' he hp')
  · by_cases q2 : e = d
    · subst q2; rw [ya_ss]
      by_cases q : p' = t
      · subst q; rw [cp_in (by omega) (by omega), cp_in (by omega) (by omega), show 384 * e + 16 * p' + w' + (384 * e + 16 * f) - (384 * e + 16 * p') = 384 * e + 16 * f + w' from by omega, ← (H.2.2.2.2.2.2.1 e f w' he hf hw')]; exact congrArg (A e) (by omega)
      · rw [cp_out (by omega), cp_out (by omega)]; exact (H.2.2.2.2.2.2.1 e p' w' he hp' hw')
    · rw [ya_sn q2, cp_out (by omega)]; exact (H.2.2.2.2.2.2.1 e p' w' he hp' hw')
  · by_cases q2 : e = d
    · subst q2; rw [ya_ss]
      by_cases q : p' = t
      · subst q; rw [cp_in (by omega) (by omega), cp_in (by omega) (by omega), show 384 * e + 16 * p' + w' + (384 * e + 16 * f) - (384 * e + 16 * p') = 384 * e + 16 * f + w' from by omega, ← (H.2.2.2.2.2.2.2.1 e f w' he hf hw')]; exact congrArg (A e) (by omega)
      · rw [cp_out (by omega), cp_out (by omega)]; exact (H.2.2.2.2.2.2.2.1 e p' w' he hp' hw')
    · rw [ya_sn q2, cp_out (by omega)]; exact (H.2.2.2.2.2.2.2.1 e p' w' he hp' hw')
  · by_cases q2 : e = d
    · subst q2; rw [ya_ss]
      by_cases q : p' = t
      · subst q; rw [cp_in (by omega) (by omega), cp_in (by omega) (by omega), show 384 * e + 16 * p' + w' + (384 * e + 16 * f) - (384 * e + 16 * p') = 384 * e + 16 * f + w' from by omega, ← (H.2.2.2.2.2.2.2.2 e f w' he hf hw')]; exact congrArg (A e) (by omega)
      · rw [cp_out (by omega), cp_out (by omega)]; exact (H.2.2.2.2.2.2.2.2 e p' w' he hp' hw')
    · rw [ya_sn q2, cp_out (by omega)]; exact (H.2.2.2.2.2.2.2.2 e p' w' he hp' hw')
theorem yu_tk {A : Nat → Nat → Int32} {y_many y_pages y_styles y_styleOf y_markOf y_words y_width y_note y_status : Nat → Int32} {d p w n : Nat} (H : ya_A A y_many y_pages y_styles y_styleOf y_markOf y_words y_width y_note y_status) (hd : d < 2) (hp : p < 24) (hn : n = dc_w (A d) p) (hw : w < n) (h16 : n ≤ 16) : ya_A (ya_s A d (dc_tk (A d) p w)) y_many y_pages y_styles y_styleOf y_markOf (upd y_words (24 * d + p) (nI (n - 1))) (cp_b y_width (384 * d + 16 * p + w + 1) (384 * d + 16 * p + w) (n - 1 - w)) (cp_b y_note (384 * d + 16 * p + w + 1) (384 * d + 16 * p + w) (n - 1 - w)) (cp_b y_status (384 * d + 16 * p + w + 1) (384 * d + 16 * p + w) (n - 1 - w)) := by
  unfold dc_tk
  rw [← hn]
  refine ⟨fun e he => ?_, fun e j' he hj' => ?_, fun e j' he hj' => ?_, fun e p' he hp' => ?_, fun e p' he hp' => ?_, fun e p' he hp' => ?_, fun e p' w' he hp' hw' => ?_, fun e p' w' he hp' hw' => ?_, fun e p' w' he hp' hw' => ?_⟩
  · by_cases q2 : e = d
    · subst q2; rw [ya_ss, pk_un (by omega), cp_out (by omega)]; exact (H.1 e he )
    · rw [ya_sn q2]; exact (H.1 e he )
  · by_cases q2 : e = d
    · subst q2; rw [ya_ss, pk_un (by omega), cp_out (by omega)]; exact (H.2.1 e j' he hj')
    · rw [ya_sn q2]; exact (H.2.1 e j' he hj')
  · by_cases q2 : e = d
    · subst q2; rw [ya_ss, pk_un (by omega), cp_out (by omega)]; exact (H.2.2.1 e j' he hj')
    · rw [ya_sn q2]; exact (H.2.2.1 e j' he hj')
  · by_cases q2 : e = d
    · subst q2; rw [ya_ss, pk_un (by omega), cp_out (by omega)]; exact (H.2.2.2.1 e p' he hp')
    · rw [ya_sn q2]; exact (H.2.2.2.1 e p' he hp')
  · by_cases q2 : e = d
    · subst q2; rw [ya_ss, pk_un (by omega), cp_out (by omega)]; exact (H.2.2.2.2.1 e p' he hp')
    · rw [ya_sn q2]; exact (H.2.2.2.2.1 e p' he hp')
  · by_cases q2 : e = d
    · subst q2; rw [ya_ss]
      by_cases q : p' = p
      · subst q; rw [pk_us, pk_us]
      · rw [pk_un (by omega), pk_un (by omega), cp_out (by omega)]; exact (H.2.2.2.2.2.1 e p' he hp')
    · rw [ya_sn q2, pk_un (by omega)]; exact (H.2.2.2.2.2.1 e p' he hp')
  · by_cases q2 : e = d
    · subst q2; rw [ya_ss, pk_un (by omega)]
      by_cases q : p' = p ∧ w ≤ w' ∧ w' < n - 1
      · obtain ⟨rfl, q3, q4⟩ := q; rw [cp_in (by omega) (by omega), cp_in (by omega) (by omega), show 384 * e + 16 * p' + w' + (384 * e + 16 * p' + w + 1) - (384 * e + 16 * p' + w) = 384 * e + 16 * p' + (w' + 1) from by omega, ← (H.2.2.2.2.2.2.1 e p' (w' + 1) he hp' (by omega))]; exact congrArg (A e) (by omega)
      · rw [cp_out (by omega), cp_out (by omega)]; exact (H.2.2.2.2.2.2.1 e p' w' he hp' hw')
    · rw [ya_sn q2, cp_out (by omega)]; exact (H.2.2.2.2.2.2.1 e p' w' he hp' hw')
  · by_cases q2 : e = d
    · subst q2; rw [ya_ss, pk_un (by omega)]
      by_cases q : p' = p ∧ w ≤ w' ∧ w' < n - 1
      · obtain ⟨rfl, q3, q4⟩ := q; rw [cp_in (by omega) (by omega), cp_in (by omega) (by omega), show 384 * e + 16 * p' + w' + (384 * e + 16 * p' + w + 1) - (384 * e + 16 * p' + w) = 384 * e + 16 * p' + (w' + 1) from by omega, ← (H.2.2.2.2.2.2.2.1 e p' (w' + 1) he hp' (by omega))]; exact congrArg (A e) (by omega)
      · rw [cp_out (by omega), cp_out (by omega)]; exact (H.2.2.2.2.2.2.2.1 e p' w' he hp' hw')
    · rw [ya_sn q2, cp_out (by omega)]; exact (H.2.2.2.2.2.2.2.1 e p' w' he hp' hw')
  · by_cases q2 : e = d
    · subst q2; rw [ya_ss, pk_un (by omega)]
      by_cases q : p' = p ∧ w ≤ w' ∧ w' < n - 1
      · obtain ⟨rfl, q3, q4⟩ := q; rw [cp_in (by omega) (by omega), cp_in (by omega) (by omega), show 384 * e + 16 * p' + w' + (384 * e + 16 * p' + w + 1) - (384 * e + 16 * p' + w) = 384 * e + 16 * p' + (w' + 1) from by omega, ← (H.2.2.2.2.2.2.2.2 e p' (w' + 1) he hp' (by omega))]; exact congrArg (A e) (by omega)
      · rw [cp_out (by omega), cp_out (by omega)]; exact (H.2.2.2.2.2.2.2.2 e p' w' he hp' hw')
    · rw [ya_sn q2, cp_out (by omega)]; exact (H.2.2.2.2.2.2.2.2 e p' w' he hp' hw')
