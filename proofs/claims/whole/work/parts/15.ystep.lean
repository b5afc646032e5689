theorem yu_all {A : Nat → Nat → Int32} {y_many y_pages y_styles y_styleOf y_markOf y_words y_width y_note y_status : Nat → Int32} (H : ya_A A y_many y_pages y_styles y_styleOf y_markOf y_words y_width y_note y_status) : ya_A (ya_s A 0 (A 1)) (upd y_many 0 (y_many 1)) (cp_b y_pages 3 0 3) (cp_b y_styles 72 0 72) (cp_b y_styleOf 24 0 24) (cp_b y_markOf 24 0 24) (cp_b y_words 24 0 24) (cp_b y_width 384 0 384) (cp_b y_note 384 0 384) (cp_b y_status 384 0 384) := by
  refine ⟨fun e he => ?_, fun e j he hj => ?_, fun e j he hj => ?_, fun e p he hp => ?_, fun e p he hp => ?_, fun e p he hp => ?_, fun e p w he hp hw => ?_, fun e p w he hp hw => ?_, fun e p w he hp hw => ?_⟩
  · by_cases q : e = 0
    · subst q; rw [ya_ss, pk_us]; exact (H.1 1 (by omega))
    · rw [ya_sn q, pk_un q]; exact (H.1 e he)
  · by_cases q : e = 0
    · subst q; rw [ya_ss, cp_in (by omega) (by omega), H.2.1 1 j (by omega) hj]; exact congrArg y_pages (by omega)
    · rw [ya_sn q, cp_out (by omega)]; exact (H.2.1 e j he hj)
  · by_cases q : e = 0
    · subst q; rw [ya_ss, cp_in (by omega) (by omega), H.2.2.1 1 j (by omega) hj]; exact congrArg y_styles (by omega)
    · rw [ya_sn q, cp_out (by omega)]; exact (H.2.2.1 e j he hj)
  · by_cases q : e = 0
    · subst q; rw [ya_ss, cp_in (by omega) (by omega), H.2.2.2.1 1 p (by omega) hp]; exact congrArg y_styleOf (by omega)
    · rw [ya_sn q, cp_out (by omega)]; exact (H.2.2.2.1 e p he hp)
  · by_cases q : e = 0
    · subst q; rw [ya_ss, cp_in (by omega) (by omega), H.2.2.2.2.1 1 p (by omega) hp]; exact congrArg y_markOf (by omega)
    · rw [ya_sn q, cp_out (by omega)]; exact (H.2.2.2.2.1 e p he hp)
  · by_cases q : e = 0
    · subst q; rw [ya_ss, cp_in (by omega) (by omega), H.2.2.2.2.2.1 1 p (by omega) hp]; exact congrArg y_words (by omega)
    · rw [ya_sn q, cp_out (by omega)]; exact (H.2.2.2.2.2.1 e p he hp)
  · by_cases q : e = 0
    · subst q; rw [ya_ss, cp_in (by omega) (by omega), H.2.2.2.2.2.2.1 1 p w (by omega) hp hw]; exact congrArg y_width (by omega)
    · rw [ya_sn q, cp_out (by omega)]; exact (H.2.2.2.2.2.2.1 e p w he hp hw)
  · by_cases q : e = 0
    · subst q; rw [ya_ss, cp_in (by omega) (by omega), H.2.2.2.2.2.2.2.1 1 p w (by omega) hp hw]; exact congrArg y_note (by omega)
    · rw [ya_sn q, cp_out (by omega)]; exact (H.2.2.2.2.2.2.2.1 e p w he hp hw)
  · by_cases q : e = 0
    · subst q; rw [ya_ss, cp_in (by omega) (by omega), H.2.2.2.2.2.2.2.2 1 p w (by omega) hp hw]; exact congrArg y_status (by omega)
    · rw [ya_sn q, cp_out (by omega)]; exact (H.2.2.2.2.2.2.2.2 e p w he hp hw)
variable {y_doc y_tracking y_view y_done y_steps y_lines y_columns y_rounds y_known : Int32} {y_many y_styleOf y_markOf y_words y_width y_note y_status y_styles y_pages y_stepKind y_stepA y_stepB y_stepC y_stepOn y_ofParagraph y_firstWord y_wordsOf y_slack y_begin y_needs y_notes y_columnOf y_topOf y_firstLine y_label y_labelWide y_counter y_refWide y_nextWide y_columnLine y_columnLines y_filled y_foot : Nat → Int32} {A : Nat → Nat → Int32}
theorem ys_replay {post : Int32 → SY → Prop} {m : Nat} {D : Nat → Nat → Int32} (hd : y_doc = 0) (hm : y_done = nI m) (h20 : m ≤ 20) (hD : ∀ j, j < m → D (j + 1) = (op_go (y_stepKind j) (y_stepA j) (y_stepB j) (y_stepC j) (y_stepOn j) (D j)).2) (hv : ∀ j, j ≤ m → dc_V (D j)) : ∀ (n k : Nat) (A : Nat → Nat → Int32) (y_many y_pages y_styles y_styleOf y_markOf y_words y_width y_note y_status : Nat → Int32), k + n = m → ya_A A y_many y_pages y_styles y_styleOf y_markOf y_words y_width y_note y_status → A 0 = D k →
    (∀ y_many1 y_pages1 y_styles1 y_styleOf1 y_markOf1 y_words1 y_width1 y_note1 y_status1, ya_A (ya_s A 0 (D m)) y_many1 y_pages1 y_styles1 y_styleOf1 y_markOf1 y_words1 y_width1 y_note1 y_status1 → post 1 (y_doc, y_tracking, y_view, y_done, y_steps, y_lines, y_columns, y_rounds, y_known, y_many1, y_styleOf1, y_markOf1, y_words1, y_width1, y_note1, y_status1, y_styles1, y_pages1, y_stepKind, y_stepA, y_stepB, y_stepC, y_stepOn, y_ofParagraph, y_firstWord, y_wordsOf, y_slack, y_begin, y_needs, y_notes, y_columnOf, y_topOf, y_firstLine, y_label, y_labelWide, y_counter, y_refWide, y_nextWide, y_columnLine, y_columnLines, y_filled, y_foot)) → wY_step_204 post (n + 1) (nI k) y_doc y_tracking y_view y_done y_steps y_lines y_columns y_rounds y_known y_many y_styleOf y_markOf y_words y_width y_note y_status y_styles y_pages y_stepKind y_stepA y_stepB y_stepC y_stepOn y_ofParagraph y_firstWord y_wordsOf y_slack y_begin y_needs y_notes y_columnOf y_topOf y_firstLine y_label y_labelWide y_counter y_refWide y_nextWide y_columnLine y_columnLines y_filled y_foot
  | 0, k, A, y_many, y_pages, y_styles, y_styleOf, y_markOf, y_words, y_width, y_note, y_status, hk, H, hA, h => by
    obtain rfl : k = m := by omega
    exact br_t (by rw [hm]; exact nI_le (by omega) (by omega)) (h _ _ _ _ _ _ _ _ _ (by rw [← hA, ya_sI]; exact H))
  | n + 1, k, A, y_many, y_pages, y_styles, y_styleOf, y_markOf, y_words, y_width, y_note, y_status, hk, H, hA, h => by
    have j := vp_in_nI (n := k) (N := 20) (by omega) (by omega)
    refine br_f (by rw [hm]; exact nI_ge (by omega) (by omega)) ⟨j, j, j, j, j, ?_⟩
    rw [nI_clamp (by omega)]
    refine yo_go (d := 0) hd (by omega) H (by rw [hA]; exact hv k (by omega)) ?_
    intro y_many1 y_pages1 y_styles1 y_styleOf1 y_markOf1 y_words1 y_width1 y_note1 y_status1 H1
    rw [hA, ← hD k (by omega)] at H1
    refine nm_r (nI_1 k) (ys_replay hd hm h20 hD hv n (k + 1) _ _ _ _ _ _ _ _ _ _ (by omega) H1 ya_ss ?_)
    rw [ya_s2]; exact h
theorem ys_st177 {post : Int32 → SY → Prop} (h : ∃ n, wY_step_204 post n 0 y_doc y_tracking y_view y_done y_steps y_lines y_columns y_rounds y_known y_many y_styleOf y_markOf y_words y_width y_note y_status y_styles (cp_b y_pages 3 0 3) y_stepKind y_stepA y_stepB y_stepC y_stepOn y_ofParagraph y_firstWord y_wordsOf y_slack y_begin y_needs y_notes y_columnOf y_topOf y_firstLine y_label y_labelWide y_counter y_refWide y_nextWide y_columnLine y_columnLines y_filled y_foot) : ∀ n i, i + n = 3 → wY_step_177 post y_doc y_tracking y_view y_done y_steps y_lines y_columns y_rounds y_known (n + 1) (nI i) y_many y_styleOf y_markOf y_words y_width y_note y_status y_styles (cp_b y_pages 3 0 i) y_stepKind y_stepA y_stepB y_stepC y_stepOn y_ofParagraph y_firstWord y_wordsOf y_slack y_begin y_needs y_notes y_columnOf y_topOf y_firstLine y_label y_labelWide y_counter y_refWide y_nextWide y_columnLine y_columnLines y_filled y_foot
  | 0, i, hi => by
    obtain rfl : i = 3 := by omega
    exact br_t (nI_le (a := 3) (b := 3) (by omega) (by omega)) h
  | n + 1, i, hi => by
    have e : (3 : Int32) + nI i = nI (3 + i) := nI_add 3 i
    refine br_f (nI_ge (b := 3) (by omega) (by omega)) ⟨ix_in e (by omega) (by omega), vp_in_nI (by omega) (by omega), nm_r (e' := cp_b y_pages 3 0 (i + 1)) ?_ (nm_r (nI_1 i) (ys_st177 h n (i + 1) (by omega)))⟩
    rw [ix_c e (by omega), nI_clamp (by omega)]
    have z := cp_s (g := y_pages) (s := 3) (t := 0) (n := i) (by omega)
    rw [Nat.zero_add] at z; exact z
theorem ys_st148 {post : Int32 → SY → Prop} (h : ∃ n, wY_step_204 post n 0 y_doc y_tracking y_view y_done y_steps y_lines y_columns y_rounds y_known y_many y_styleOf y_markOf y_words y_width y_note y_status (cp_b y_styles 72 0 72) (cp_b y_pages 3 0 3) y_stepKind y_stepA y_stepB y_stepC y_stepOn y_ofParagraph y_firstWord y_wordsOf y_slack y_begin y_needs y_notes y_columnOf y_topOf y_firstLine y_label y_labelWide y_counter y_refWide y_nextWide y_columnLine y_columnLines y_filled y_foot) : ∀ n i, i + n = 72 → wY_step_148 post y_doc y_tracking y_view y_done y_steps y_lines y_columns y_rounds y_known (n + 1) (nI i) y_many y_styleOf y_markOf y_words y_width y_note y_status (cp_b y_styles 72 0 i) y_pages y_stepKind y_stepA y_stepB y_stepC y_stepOn y_ofParagraph y_firstWord y_wordsOf y_slack y_begin y_needs y_notes y_columnOf y_topOf y_firstLine y_label y_labelWide y_counter y_refWide y_nextWide y_columnLine y_columnLines y_filled y_foot
  | 0, i, hi => by
    obtain rfl : i = 72 := by omega
    refine br_t (nI_le (a := 72) (b := 72) (by omega) (by omega)) ⟨4, ?_⟩
    have L := ys_st177 h 3 0 rfl
    rw [cp_0] at L
    exact L
  | n + 1, i, hi => by
    have e : (72 : Int32) + nI i = nI (72 + i) := nI_add 72 i
    refine br_f (nI_ge (b := 72) (by omega) (by omega)) ⟨ix_in e (by omega) (by omega), vp_in_nI (by omega) (by omega), nm_r (e' := cp_b y_styles 72 0 (i + 1)) ?_ (nm_r (nI_1 i) (ys_st148 h n (i + 1) (by omega)))⟩
    rw [ix_c e (by omega), nI_clamp (by omega)]
    have z := cp_s (g := y_styles) (s := 72) (t := 0) (n := i) (by omega)
    rw [Nat.zero_add] at z; exact z
theorem ys_st123 {post : Int32 → SY → Prop} (h : ∃ n, wY_step_204 post n 0 y_doc y_tracking y_view y_done y_steps y_lines y_columns y_rounds y_known y_many y_styleOf y_markOf y_words (cp_b y_width 384 0 384) (cp_b y_note 384 0 384) (cp_b y_status 384 0 384) (cp_b y_styles 72 0 72) (cp_b y_pages 3 0 3) y_stepKind y_stepA y_stepB y_stepC y_stepOn y_ofParagraph y_firstWord y_wordsOf y_slack y_begin y_needs y_notes y_columnOf y_topOf y_firstLine y_label y_labelWide y_counter y_refWide y_nextWide y_columnLine y_columnLines y_filled y_foot) : ∀ n i, i + n = 384 → wY_step_123 post (n + 1) (nI i) y_doc y_tracking y_view y_done y_steps y_lines y_columns y_rounds y_known y_many y_styleOf y_markOf y_words (cp_b y_width 384 0 i) (cp_b y_note 384 0 i) (cp_b y_status 384 0 i) y_styles y_pages y_stepKind y_stepA y_stepB y_stepC y_stepOn y_ofParagraph y_firstWord y_wordsOf y_slack y_begin y_needs y_notes y_columnOf y_topOf y_firstLine y_label y_labelWide y_counter y_refWide y_nextWide y_columnLine y_columnLines y_filled y_foot
  | 0, i, hi => by
    obtain rfl : i = 384 := by omega
    refine br_t (nI_le (a := 384) (b := 384) (by omega) (by omega)) ⟨73, ?_⟩
    have L := ys_st148 h 72 0 rfl
    rw [cp_0] at L
    exact L
  | n + 1, i, hi => by
    refine br_f (nI_ge (b := 384) (by omega) (by omega)) (ys_cw (f := 384 + i) (t := i) (nI_add 384 i) rfl (by omega) (by omega) (nm_r (nI_1 i) ?_))
    have cs : ∀ g : Nat → Int32, upd (cp_b g 384 0 i) i (cp_b g 384 0 i (384 + i)) = cp_b g 384 0 (i + 1) := fun g => by
      have z := cp_s (g := g) (s := 384) (t := 0) (n := i) (by omega)
      rw [Nat.zero_add] at z; exact z
    rw [cs, cs, cs]
    exact ys_st123 h n (i + 1) (by omega)
theorem ys_st64 {post : Int32 → SY → Prop} (h : ∃ n, wY_step_204 post n 0 y_doc y_tracking y_view y_done y_steps y_lines y_columns y_rounds y_known y_many (cp_b y_styleOf 24 0 24) (cp_b y_markOf 24 0 24) (cp_b y_words 24 0 24) (cp_b y_width 384 0 384) (cp_b y_note 384 0 384) (cp_b y_status 384 0 384) (cp_b y_styles 72 0 72) (cp_b y_pages 3 0 3) y_stepKind y_stepA y_stepB y_stepC y_stepOn y_ofParagraph y_firstWord y_wordsOf y_slack y_begin y_needs y_notes y_columnOf y_topOf y_firstLine y_label y_labelWide y_counter y_refWide y_nextWide y_columnLine y_columnLines y_filled y_foot) : ∀ n i, i + n = 24 → wY_step_64 post y_doc y_tracking y_view y_done y_steps y_lines y_columns y_rounds y_known (n + 1) (nI i) y_many (cp_b y_styleOf 24 0 i) (cp_b y_markOf 24 0 i) (cp_b y_words 24 0 i) y_width y_note y_status y_styles y_pages y_stepKind y_stepA y_stepB y_stepC y_stepOn y_ofParagraph y_firstWord y_wordsOf y_slack y_begin y_needs y_notes y_columnOf y_topOf y_firstLine y_label y_labelWide y_counter y_refWide y_nextWide y_columnLine y_columnLines y_filled y_foot
  | 0, i, hi => by
    obtain rfl : i = 24 := by omega
    refine br_t (nI_le (a := 24) (b := 24) (by omega) (by omega)) ⟨385, ?_⟩
    have L := ys_st123 h 384 0 rfl
    rw [cp_0, cp_0, cp_0] at L
    exact L
  | n + 1, i, hi => by
    have e : (24 : Int32) + nI i = nI (24 + i) := nI_add 24 i
    have j0 := vp_in_nI (n := i) (N := 48) (by omega) (by omega)
    have j1 := ix_in (N := 48) e (by omega) (by omega)
    have c1 := ix_c e (by omega)
    have c0 := nI_clamp (n := i) (by omega)
    have cs : ∀ g : Nat → Int32, upd (cp_b g 24 0 i) i (cp_b g 24 0 i (24 + i)) = cp_b g 24 0 (i + 1) := fun g => by
      have z := cp_s (g := g) (s := 24) (t := 0) (n := i) (by omega)
      rw [Nat.zero_add] at z; exact z
    refine br_f (nI_ge (b := 24) (by omega) (by omega)) ⟨j1, j0, nm_r (by rw [c0, c1, cs]) ⟨j1, j0, nm_r (by rw [c0, c1, cs]) ⟨j1, j0, nm_r (by rw [c0, c1, cs]) (nm_r (nI_1 i) ?_)⟩⟩⟩
    exact ys_st64 h n (i + 1) (by omega)
theorem ys_st46 {post : Int32 → SY → Prop} {m : Nat} {z0 z1 : Int32} {D : Nat → Nat → Int32} (hd : y_doc = 0) (hm : z1 + z0 = nI m) (h20 : m ≤ 20) (H : ya_A A y_many y_pages y_styles y_styleOf y_markOf y_words y_width y_note y_status) (hA : A 1 = D 0)
    (hD : ∀ j, j < m → D (j + 1) = (op_go (y_stepKind j) (y_stepA j) (y_stepB j) (y_stepC j) (y_stepOn j) (D j)).2) (hv : ∀ j, j ≤ m → dc_V (D j))
    (h : ∀ y_many1 y_pages1 y_styles1 y_styleOf1 y_markOf1 y_words1 y_width1 y_note1 y_status1, ya_A (ya_s A 0 (D m)) y_many1 y_pages1 y_styles1 y_styleOf1 y_markOf1 y_words1 y_width1 y_note1 y_status1 → post 1 (y_doc, y_tracking, y_view, (nI m), y_steps, y_lines, y_columns, y_rounds, y_known, y_many1, y_styleOf1, y_markOf1, y_words1, y_width1, y_note1, y_status1, y_styles1, y_pages1, y_stepKind, y_stepA, y_stepB, y_stepC, y_stepOn, y_ofParagraph, y_firstWord, y_wordsOf, y_slack, y_begin, y_needs, y_notes, y_columnOf, y_topOf, y_firstLine, y_label, y_labelWide, y_counter, y_refWide, y_nextWide, y_columnLine, y_columnLines, y_filled, y_foot)) : wY_step_46 post z0 z1 y_doc y_tracking y_view y_done y_steps y_lines y_columns y_rounds y_known y_many y_styleOf y_markOf y_words y_width y_note y_status y_styles y_pages y_stepKind y_stepA y_stepB y_stepC y_stepOn y_ofParagraph y_firstWord y_wordsOf y_slack y_begin y_needs y_notes y_columnOf y_topOf y_firstLine y_label y_labelWide y_counter y_refWide y_nextWide y_columnLine y_columnLines y_filled y_foot := by
  refine nm_r hm (nm_e ⟨25, ?_⟩)
  have H1 := yu_all H
  have L := ys_st64 (post := post) (y_many := upd y_many 0 (y_many 1)) (y_styleOf := y_styleOf) (y_markOf := y_markOf) (y_words := y_words) (y_done := nI m) ⟨m + 1, ys_replay hd rfl h20 hD hv m 0 _ _ _ _ _ _ _ _ _ _ (by omega) H1 (by rw [ya_ss]; exact hA) (by rw [ya_s2]; exact h)⟩ 24 0 rfl
  rw [cp_0, cp_0, cp_0] at L
  exact L
theorem yo_step {post : Int32 → SY → Prop} {b g : Nat} {bk : Int32} {D : Nat → Nat → Int32} (hd : y_doc = 0) (hb : y_done = nI b) (hg : y_steps = nI (b + g)) (h20 : b + g ≤ 20) (H : ya_A A y_many y_pages y_styles y_styleOf y_markOf y_words y_width y_note y_status) (hA : A 1 = D 0)
    (hD : ∀ j, j < b + g → D (j + 1) = (op_go (y_stepKind j) (y_stepA j) (y_stepB j) (y_stepC j) (y_stepOn j) (D j)).2) (hv : ∀ j, j ≤ b + g → dc_V (D j))
    (h0 : (bk = 0 → g = 0) → (¬ bk = 0 → b = 0) → post 0 (y_doc, y_tracking, y_view, y_done, y_steps, y_lines, y_columns, y_rounds, y_known, y_many, y_styleOf, y_markOf, y_words, y_width, y_note, y_status, y_styles, y_pages, y_stepKind, y_stepA, y_stepB, y_stepC, y_stepOn, y_ofParagraph, y_firstWord, y_wordsOf, y_slack, y_begin, y_needs, y_notes, y_columnOf, y_topOf, y_firstLine, y_label, y_labelWide, y_counter, y_refWide, y_nextWide, y_columnLine, y_columnLines, y_filled, y_foot))
    (h1 : bk = 0 → 0 < g → ∀ y_many1 y_pages1 y_styles1 y_styleOf1 y_markOf1 y_words1 y_width1 y_note1 y_status1, ya_A (ya_s A 0 (D (b + 1))) y_many1 y_pages1 y_styles1 y_styleOf1 y_markOf1 y_words1 y_width1 y_note1 y_status1 → post 1 (y_doc, y_tracking, y_view, (nI (b + 1)), y_steps, y_lines, y_columns, y_rounds, 0, y_many1, y_styleOf1, y_markOf1, y_words1, y_width1, y_note1, y_status1, y_styles1, y_pages1, y_stepKind, y_stepA, y_stepB, y_stepC, y_stepOn, y_ofParagraph, y_firstWord, y_wordsOf, y_slack, y_begin, y_needs, y_notes, y_columnOf, y_topOf, y_firstLine, y_label, y_labelWide, y_counter, y_refWide, y_nextWide, y_columnLine, y_columnLines, y_filled, y_foot))
    (h2 : ¬ bk = 0 → 0 < b → ∀ y_many1 y_pages1 y_styles1 y_styleOf1 y_markOf1 y_words1 y_width1 y_note1 y_status1, ya_A (ya_s A 0 (D (b - 1))) y_many1 y_pages1 y_styles1 y_styleOf1 y_markOf1 y_words1 y_width1 y_note1 y_status1 → post 1 (y_doc, y_tracking, y_view, (nI (b - 1)), y_steps, y_lines, y_columns, y_rounds, 0, y_many1, y_styleOf1, y_markOf1, y_words1, y_width1, y_note1, y_status1, y_styles1, y_pages1, y_stepKind, y_stepA, y_stepB, y_stepC, y_stepOn, y_ofParagraph, y_firstWord, y_wordsOf, y_slack, y_begin, y_needs, y_notes, y_columnOf, y_topOf, y_firstLine, y_label, y_labelWide, y_counter, y_refWide, y_nextWide, y_columnLine, y_columnLines, y_filled, y_foot)) : wpY_step post (y_doc, y_tracking, y_view, y_done, y_steps, y_lines, y_columns, y_rounds, y_known, y_many, y_styleOf, y_markOf, y_words, y_width, y_note, y_status, y_styles, y_pages, y_stepKind, y_stepA, y_stepB, y_stepC, y_stepOn, y_ofParagraph, y_firstWord, y_wordsOf, y_slack, y_begin, y_needs, y_notes, y_columnOf, y_topOf, y_firstLine, y_label, y_labelWide, y_counter, y_refWide, y_nextWide, y_columnLine, y_columnLines, y_filled, y_foot) bk := by
  refine br_c (fun z => pk_eq b (b + g) (fun y => h0 (fun _ => by omega) (fun q => absurd z q)) (fun y => br_t z ?_) hb hg) (fun z => pk_eq b 0 (fun y => h0 (fun q => absurd q z) (fun _ => y)) (fun y => br_f z ?_) hb rfl)
  · exact ys_st46 hd (by rw [hb, nI_1]) (by omega) H hA (fun j hj => hD j (by omega)) (fun j hj => hv j (by omega)) (h1 z (by omega))
  · refine ys_st46 (m := b - 1) hd ?_ (by omega) H hA (fun j hj => hD j (by omega)) (fun j hj => hv j (by omega)) (h2 z (by omega))
    obtain ⟨k, rfl⟩ : ∃ k, b = k + 1 := ⟨b - 1, by omega⟩
    rw [hb]; exact pk_m1 k
