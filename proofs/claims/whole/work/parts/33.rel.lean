def re_A (a b : Nat → Int32) : Nat → Nat → Int32 := fun d => if d = 0 then a else b
theorem re_As {a b c : Nat → Int32} : ya_s (re_A a b) 0 c = re_A c b := by
  funext d
  by_cases e : d = 0
  · subst e; exact ya_ss.trans rfl
  · rw [ya_sn e]; unfold re_A; rw [if_neg e, if_neg e]
theorem re_As1 {A : Nat → Nat → Int32} {a b c : Nat → Int32} (h : ∀ d, d < 2 → A d = re_A a b d) : ∀ d, d < 2 → ya_s A 1 c d = re_A a c d := fun d hd => by
  by_cases e : d = 1
  · subst e; exact ya_ss.trans rfl
  · obtain rfl : d = 0 := by omega
    rw [ya_sn e, h 0 hd]; rfl
theorem re_Ac {A B : Nat → Nat → Int32} {y_many y_pages y_styles y_styleOf y_markOf y_words y_width y_note y_status : Nat → Int32} (h : ∀ d, d < 2 → A d = B d) (H : ya_A A y_many y_pages y_styles y_styleOf y_markOf y_words y_width y_note y_status) : ya_A B y_many y_pages y_styles y_styleOf y_markOf y_words y_width y_note y_status := by
  obtain ⟨h1, h2, h3, h4, h5, h6, h7, h8, h9⟩ := H
  exact ⟨fun d hd => by rw [← h d hd]; exact h1 d hd, fun d j hd => by rw [← h d hd]; exact h2 d j hd, fun d j hd => by rw [← h d hd]; exact h3 d j hd, fun d j hd => by rw [← h d hd]; exact h4 d j hd, fun d j hd => by rw [← h d hd]; exact h5 d j hd, fun d j hd => by rw [← h d hd]; exact h6 d j hd, fun d j w hd => by rw [← h d hd]; exact h7 d j w hd, fun d j w hd => by rw [← h d hd]; exact h8 d j w hd, fun d j w hd => by rw [← h d hd]; exact h9 d j w hd⟩
/-- steps: X keeps the documents, Y how they came about -/
def re_S (b g s : Nat) (D : Nat → Nat → Int32) (x_slotNow x_stepsBack x_stepsAgain y_done y_steps : Int32) (x_doc x_kept y_many y_pages y_styles y_styleOf y_markOf y_words y_width y_note y_status y_stepKind y_stepA y_stepB y_stepC y_stepOn : Nat → Int32) : Prop :=
  (x_slotNow = nI s ∧ s < 21) ∧ (x_stepsBack = nI b ∧ x_stepsAgain = nI g ∧ y_done = nI b ∧ y_steps = nI (b + g) ∧ b + g ≤ 20)
  ∧ (∀ j, j < b + g → D (j + 1) = (op_go (y_stepKind j) (y_stepA j) (y_stepB j) (y_stepC j) (y_stepOn j) (D j)).2) ∧ (∀ j, j ≤ b + g → dc_V (D j))
  ∧ x_doc = D b ∧ (∀ j i, j ≤ b + g → i < 1300 → x_kept (1300 * ((s + 21 + j - b) % 21) + i) = D j i) ∧ ya_A (re_A (D b) (D 0)) y_many y_pages y_styles y_styleOf y_markOf y_words y_width y_note y_status ∧ (∀ j, j < 20 → y_stepOn j = 0 ∨ y_stepOn j = 1)
/-- what both are knowing of the layout -/
def re_L (x_view y_view x_stale y_known x_rounds x_columnCount y_rounds y_columns : Int32) (x_doc x_labelValue x_lineCount x_wordLine x_wordLeft x_lineFirst x_lineWords x_lineLeft x_lineSlack x_lineNotes x_lineColumn x_lineTop x_columnParagraph x_columnFirst x_columnLines x_columnNotes x_columnFilled y_label y_refWide y_firstLine y_ofParagraph y_firstWord y_wordsOf y_slack y_begin y_needs y_notes y_columnOf y_topOf y_columnLine y_columnLines y_filled y_foot : Nat → Int32) : Prop :=
  x_view = y_view ∧ (x_stale = 0 ∨ x_stale = 1) ∧ (y_known = 0 ∨ y_known = 1) ∧ (x_stale = 0 → lx_OK x_doc x_view x_rounds x_columnCount x_labelValue x_lineCount x_wordLine x_wordLeft x_lineFirst x_lineWords x_lineLeft x_lineSlack x_lineNotes x_lineColumn x_lineTop x_columnParagraph x_columnFirst x_columnLines x_columnNotes x_columnFilled) ∧ (y_known = 1 → ly_OK x_doc y_view y_rounds y_columns y_label y_refWide y_firstLine y_ofParagraph y_firstWord y_wordsOf y_slack y_begin y_needs y_notes y_columnOf y_topOf y_columnLine y_columnLines y_filled y_foot)
def i_Rel (k : Nat) (u : SX) (v : SY) : Prop := match u with
  | (x_tracking, x_view, x_slotNow, x_stepsBack, x_stepsAgain, x_stale, x_rounds, x_columnCount, x_doc, x_kept, x_referenceWidth, x_labelValue, x_labelWidth, x_lineCount, x_gapBefore, x_headNeeds, x_groupNeeds, x_wordLine, x_wordLeft, x_lineFirst, x_lineWords, x_lineLeft, x_lineSlack, x_lineNotes, x_lineColumn, x_lineTop, x_columnParagraph, x_columnFirst, x_columnLines, x_columnNotes, x_columnFilled) => match v with
    | (y_doc, y_tracking, y_view, y_done, y_steps, y_lines, y_columns, y_rounds, y_known, y_many, y_styleOf, y_markOf, y_words, y_width, y_note, y_status, y_styles, y_pages, y_stepKind, y_stepA, y_stepB, y_stepC, y_stepOn, y_ofParagraph, y_firstWord, y_wordsOf, y_slack, y_begin, y_needs, y_notes, y_columnOf, y_topOf, y_firstLine, y_label, y_labelWide, y_counter, y_refWide, y_nextWide, y_columnLine, y_columnLines, y_filled, y_foot) => (x_tracking = y_tracking ∧ (y_tracking = 0 ∨ y_tracking = 1) ∧ y_doc = 0)
      ∧ (∃ b g s D, re_S b g s D x_slotNow x_stepsBack x_stepsAgain y_done y_steps x_doc x_kept y_many y_pages y_styles y_styleOf y_markOf y_words y_width y_note y_status y_stepKind y_stepA y_stepB y_stepC y_stepOn)
      ∧ re_L x_view y_view x_stale y_known x_rounds x_columnCount y_rounds y_columns x_doc x_labelValue x_lineCount x_wordLine x_wordLeft x_lineFirst x_lineWords x_lineLeft x_lineSlack x_lineNotes x_lineColumn x_lineTop x_columnParagraph x_columnFirst x_columnLines x_columnNotes x_columnFilled y_label y_refWide y_firstLine y_ofParagraph y_firstWord y_wordsOf y_slack y_begin y_needs y_notes y_columnOf y_topOf y_columnLine y_columnLines y_filled y_foot
theorem i_up {k : Nat} {u : SX} {v : SY} (h : i_Rel k u v) : i_Rel (k + 4) u v := h
variable {x_tracking x_view x_slotNow x_stepsBack x_stepsAgain x_stale x_rounds x_columnCount : Int32} {x_doc x_kept x_referenceWidth x_labelValue x_labelWidth x_lineCount x_gapBefore x_headNeeds x_groupNeeds x_wordLine x_wordLeft x_lineFirst x_lineWords x_lineLeft x_lineSlack x_lineNotes x_lineColumn x_lineTop x_columnParagraph x_columnFirst x_columnLines x_columnNotes x_columnFilled : Nat → Int32} {y_doc y_tracking y_view y_done y_steps y_lines y_columns y_rounds y_known : Int32} {y_many y_styleOf y_markOf y_words y_width y_note y_status y_styles y_pages y_stepKind y_stepA y_stepB y_stepC y_stepOn y_ofParagraph y_firstWord y_wordsOf y_slack y_begin y_needs y_notes y_columnOf y_topOf y_firstLine y_label y_labelWide y_counter y_refWide y_nextWide y_columnLine y_columnLines y_filled y_foot : Nat → Int32}
/-- a call that is not kept -/
theorem re_no {k : Nat} {Q : Int32 → SY → Prop} {w p b c r : Int32} {a : Nat → Int32} (I : i_Rel k (x_tracking, x_view, x_slotNow, x_stepsBack, x_stepsAgain, x_stale, x_rounds, x_columnCount, x_doc, x_kept, x_referenceWidth, x_labelValue, x_labelWidth, x_lineCount, x_gapBefore, x_headNeeds, x_groupNeeds, x_wordLine, x_wordLeft, x_lineFirst, x_lineWords, x_lineLeft, x_lineSlack, x_lineNotes, x_lineColumn, x_lineTop, x_columnParagraph, x_columnFirst, x_columnLines, x_columnNotes, x_columnFilled) (y_doc, y_tracking, y_view, y_done, y_steps, y_lines, y_columns, y_rounds, y_known, y_many, y_styleOf, y_markOf, y_words, y_width, y_note, y_status, y_styles, y_pages, y_stepKind, y_stepA, y_stepB, y_stepC, y_stepOn, y_ofParagraph, y_firstWord, y_wordsOf, y_slack, y_begin, y_needs, y_notes, y_columnOf, y_topOf, y_firstLine, y_label, y_labelWide, y_counter, y_refWide, y_nextWide, y_columnLine, y_columnLines, y_filled, y_foot)) (e : op_go w p b c x_tracking x_doc = (r, a)) (hr : r < 0 ∨ (w = 8 ∧ r = 0)) (ha : a = x_doc)
    (h : ∀ y_many y_pages y_styles y_styleOf y_markOf y_words y_width y_note y_status, i_Rel (k + 4) (x_tracking, x_view, x_slotNow, x_stepsBack, x_stepsAgain, x_stale, x_rounds, x_columnCount, x_doc, x_kept, x_referenceWidth, x_labelValue, x_labelWidth, x_lineCount, x_gapBefore, x_headNeeds, x_groupNeeds, x_wordLine, x_wordLeft, x_lineFirst, x_lineWords, x_lineLeft, x_lineSlack, x_lineNotes, x_lineColumn, x_lineTop, x_columnParagraph, x_columnFirst, x_columnLines, x_columnNotes, x_columnFilled) (y_doc, y_tracking, y_view, y_done, y_steps, y_lines, y_columns, y_rounds, y_known, y_many, y_styleOf, y_markOf, y_words, y_width, y_note, y_status, y_styles, y_pages, y_stepKind, y_stepA, y_stepB, y_stepC, y_stepOn, y_ofParagraph, y_firstWord, y_wordsOf, y_slack, y_begin, y_needs, y_notes, y_columnOf, y_topOf, y_firstLine, y_label, y_labelWide, y_counter, y_refWide, y_nextWide, y_columnLine, y_columnLines, y_filled, y_foot) → Q r (y_doc, y_tracking, y_view, y_done, y_steps, y_lines, y_columns, y_rounds, y_known, y_many, y_styleOf, y_markOf, y_words, y_width, y_note, y_status, y_styles, y_pages, y_stepKind, y_stepA, y_stepB, y_stepC, y_stepOn, y_ofParagraph, y_firstWord, y_wordsOf, y_slack, y_begin, y_needs, y_notes, y_columnOf, y_topOf, y_firstLine, y_label, y_labelWide, y_counter, y_refWide, y_nextWide, y_columnLine, y_columnLines, y_filled, y_foot)) : wpY_go Q (y_doc, y_tracking, y_view, y_done, y_steps, y_lines, y_columns, y_rounds, y_known, y_many, y_styleOf, y_markOf, y_words, y_width, y_note, y_status, y_styles, y_pages, y_stepKind, y_stepA, y_stepB, y_stepC, y_stepOn, y_ofParagraph, y_firstWord, y_wordsOf, y_slack, y_begin, y_needs, y_notes, y_columnOf, y_topOf, y_firstLine, y_label, y_labelWide, y_counter, y_refWide, y_nextWide, y_columnLine, y_columnLines, y_filled, y_foot) w p b c := by
  obtain ⟨⟨i1, i2, i3⟩, ⟨b', g, s, D, S1, S2, S3, S4, S5, S6, S7, S8⟩, IL⟩ := I
  have eA : re_A (D b') (D 0) 0 = x_doc := S5.symm
  refine ys_no (A := re_A (D b') (D 0)) i3 S7 (by rw [eA, S5]; exact S4 b' (by omega)) (a := a) (by rw [eA, ← i1]; exact e) hr (by rw [eA]; exact ha) ?_
  intro y_many y_pages y_styles y_styleOf y_markOf y_words y_width y_note y_status H
  exact h _ _ _ _ _ _ _ _ _ ⟨⟨i1, i2, i3⟩, ⟨b', g, s, D, S1, S2, S3, S4, S5, S6, H, S8⟩, IL⟩
/-- a call that is kept -/
theorem re_ok {k : Nat} {Q : Int32 → SY → Prop} {w p b c r : Int32} {a : Nat → Int32} {s n : Nat} (hs : x_slotNow = nI s) (h21 : s < 21) (hn : x_stepsBack = nI n) (h20 : n ≤ 20) (I : i_Rel k (x_tracking, x_view, x_slotNow, x_stepsBack, x_stepsAgain, x_stale, x_rounds, x_columnCount, x_doc, x_kept, x_referenceWidth, x_labelValue, x_labelWidth, x_lineCount, x_gapBefore, x_headNeeds, x_groupNeeds, x_wordLine, x_wordLeft, x_lineFirst, x_lineWords, x_lineLeft, x_lineSlack, x_lineNotes, x_lineColumn, x_lineTop, x_columnParagraph, x_columnFirst, x_columnLines, x_columnNotes, x_columnFilled) (y_doc, y_tracking, y_view, y_done, y_steps, y_lines, y_columns, y_rounds, y_known, y_many, y_styleOf, y_markOf, y_words, y_width, y_note, y_status, y_styles, y_pages, y_stepKind, y_stepA, y_stepB, y_stepC, y_stepOn, y_ofParagraph, y_firstWord, y_wordsOf, y_slack, y_begin, y_needs, y_notes, y_columnOf, y_topOf, y_firstLine, y_label, y_labelWide, y_counter, y_refWide, y_nextWide, y_columnLine, y_columnLines, y_filled, y_foot)) (e : op_go w p b c x_tracking x_doc = (r, a)) (hr : ¬ (r < 0 ∨ (w = 8 ∧ r = 0)))
    (h : ∀ y_doc y_done y_steps y_known y_many y_pages y_styles y_styleOf y_markOf y_words y_width y_note y_status y_stepKind y_stepA y_stepB y_stepC y_stepOn, i_Rel (k + 4) (x_tracking, x_view, (nI ((s + 1) % 21)), (nI (if n < 20 then n + 1 else n)), 0, 1, x_rounds, x_columnCount, a, (st_b x_kept (1300 * ((s + 1) % 21)) 1300 a), x_referenceWidth, x_labelValue, x_labelWidth, x_lineCount, x_gapBefore, x_headNeeds, x_groupNeeds, x_wordLine, x_wordLeft, x_lineFirst, x_lineWords, x_lineLeft, x_lineSlack, x_lineNotes, x_lineColumn, x_lineTop, x_columnParagraph, x_columnFirst, x_columnLines, x_columnNotes, x_columnFilled) (y_doc, y_tracking, y_view, y_done, y_steps, y_lines, y_columns, y_rounds, y_known, y_many, y_styleOf, y_markOf, y_words, y_width, y_note, y_status, y_styles, y_pages, y_stepKind, y_stepA, y_stepB, y_stepC, y_stepOn, y_ofParagraph, y_firstWord, y_wordsOf, y_slack, y_begin, y_needs, y_notes, y_columnOf, y_topOf, y_firstLine, y_label, y_labelWide, y_counter, y_refWide, y_nextWide, y_columnLine, y_columnLines, y_filled, y_foot) → Q r (y_doc, y_tracking, y_view, y_done, y_steps, y_lines, y_columns, y_rounds, y_known, y_many, y_styleOf, y_markOf, y_words, y_width, y_note, y_status, y_styles, y_pages, y_stepKind, y_stepA, y_stepB, y_stepC, y_stepOn, y_ofParagraph, y_firstWord, y_wordsOf, y_slack, y_begin, y_needs, y_notes, y_columnOf, y_topOf, y_firstLine, y_label, y_labelWide, y_counter, y_refWide, y_nextWide, y_columnLine, y_columnLines, y_filled, y_foot)) : wpY_go Q (y_doc, y_tracking, y_view, y_done, y_steps, y_lines, y_columns, y_rounds, y_known, y_many, y_styleOf, y_markOf, y_words, y_width, y_note, y_status, y_styles, y_pages, y_stepKind, y_stepA, y_stepB, y_stepC, y_stepOn, y_ofParagraph, y_firstWord, y_wordsOf, y_slack, y_begin, y_needs, y_notes, y_columnOf, y_topOf, y_firstLine, y_label, y_labelWide, y_counter, y_refWide, y_nextWide, y_columnLine, y_columnLines, y_filled, y_foot) w p b c := by
  obtain ⟨⟨i1, i2, i3⟩, ⟨b', g, s', D, S1, S2, S3, S4, S5, S6, S7, S8⟩, IL1, IL2, IL3, IL4, IL5⟩ := I
  obtain ⟨T1, T2, T3, T4, T5⟩ := S2
  obtain rfl : s = s' := (nI_eq (by omega) (by omega)).mp (hs.symm.trans S1.1)
  obtain rfl : n = b' := (nI_eq (by omega) (by omega)).mp (hn.symm.trans T1)
  have eA : re_A (D n) (D 0) 0 = x_doc := S5.symm
  have hv : dc_V (re_A (D n) (D 0) 0) := by rw [eA, S5]; exact S4 n (by omega)
  have hva : dc_V a := by have := op_goV (w := w) (p := p) (b := b) (c := c) (on := x_tracking) (a := x_doc) (by rw [S5]; exact S4 n (by omega)); rw [e] at this; exact this
  have e' : op_go w p b c y_tracking (re_A (D n) (D 0) 0) = (r, a) := by rw [eA, ← i1]; exact e
  have e2 : a = (op_go w p b c y_tracking (D n)).2 := by rw [← S5, ← i1, e]
  have fresh : re_L x_view y_view 1 0 x_rounds x_columnCount y_rounds y_columns a x_labelValue x_lineCount x_wordLine x_wordLeft x_lineFirst x_lineWords x_lineLeft x_lineSlack x_lineNotes x_lineColumn x_lineTop x_columnParagraph x_columnFirst x_columnLines x_columnNotes x_columnFilled y_label y_refWide y_firstLine y_ofParagraph y_firstWord y_wordsOf y_slack y_begin y_needs y_notes y_columnOf y_topOf y_columnLine y_columnLines y_filled y_foot :=
    ⟨IL1, Or.inr rfl, Or.inl rfl, fun z => absurd z (by decide), fun z => absurd z (by decide)⟩
  by_cases hlt : n < 20
  · refine ys_go1 (A := re_A (D n) (D 0)) (m := n) i3 S7 hv e' hr i2 T3 hlt ?_
    intro y_many y_pages y_styles y_styleOf y_markOf y_words y_width y_note y_status H
    rw [re_As] at H
    refine h _ _ _ _ _ _ _ _ _ _ _ _ _ _ _ _ _ _ ⟨⟨i1, i2, i3⟩, ⟨n + 1, 0, (s + 1) % 21, fun j => if j ≤ n then D j else a, ⟨rfl, by omega⟩, ⟨by rw [if_pos hlt], rfl, rfl, rfl, by omega⟩, fun j hj => ?_, fun j hj => ?_, ?_, fun j i hj hi => ?_, ?_, fun j hj => ?_⟩, fresh⟩
    · by_cases q : j = n
      · subst q
        rw [pk_us, pk_us, pk_us, pk_us, pk_us]
        show (if j + 1 ≤ j then D (j + 1) else a) = (op_go w p b c y_tracking (if j ≤ j then D j else a)).2
        rw [if_neg (by omega), if_pos (Nat.le_refl _)]; exact e2
      · rw [pk_un q, pk_un q, pk_un q, pk_un q, pk_un q]
        show (if j + 1 ≤ n then D (j + 1) else a) = (op_go _ _ _ _ _ (if j ≤ n then D j else a)).2
        rw [if_pos (by omega), if_pos (by omega)]; exact S3 j (by omega)
    · show dc_V (if j ≤ n then D j else a)
      split
      · exact S4 j (by omega)
      · exact hva
    · show a = if n + 1 ≤ n then D (n + 1) else a
      rw [if_neg (by omega)]
    · show _ = (if j ≤ n then D j else a) i
      by_cases q : j ≤ n
      · rw [if_pos q, st_out (by omega), show ((s + 1) % 21 + 21 + j - (n + 1)) % 21 = (s + 21 + j - n) % 21 from by omega]
        exact S6 j i (by omega) hi
      · obtain rfl : j = n + 1 := by omega
        rw [if_neg q, show ((s + 1) % 21 + 21 + (n + 1) - (n + 1)) % 21 = (s + 1) % 21 from by omega, st_in (by omega) (by omega)]
        exact congrArg a (by omega)
    · show ya_A (re_A (if n + 1 ≤ n then D (n + 1) else a) (if 0 ≤ n then D 0 else a)) y_many y_pages y_styles y_styleOf y_markOf y_words y_width y_note y_status
      rw [if_neg (by omega), if_pos (by omega)]; exact H
    · by_cases q : j = n
      · subst q; rw [pk_us]; exact i2
      · rw [pk_un q]; exact S8 j hj
  · obtain rfl : n = 20 := by omega
    obtain rfl : g = 0 := by omega
    refine ys_go2 (A := re_A (D 20) (D 0)) i3 S7 hv (S4 0 (by omega)) e' hr i2 T3 S8 ?_
    intro y_many y_pages y_styles y_styleOf y_markOf y_words y_width y_note y_status H
    have H2 : ya_A (re_A a (D 1)) y_many y_pages y_styles y_styleOf y_markOf y_words y_width y_note y_status := by
      rw [re_As] at H
      refine re_Ac ?_ H
      have q := re_As1 (A := re_A a (D 0)) (a := a) (b := D 0) (c := (op_go (y_stepKind 0) (y_stepA 0) (y_stepB 0) (y_stepC 0) (y_stepOn 0) (D 0)).2) (fun d hd => rfl)
      rw [← S3 0 (by omega)] at q
      have e1 : re_A (D 20) (D 0) 1 = D 0 := rfl
      rw [e1, ← S3 0 (by omega)]
      exact q
    have cpv : ∀ (f : Nat → Int32) (v : Int32) (j : Nat), j < 19 → upd (cp_b f 1 0 19) 19 v j = f (j + 1) := fun f v j hj => by
      rw [pk_un (by omega), cp_in (by omega) (by omega)]; exact congrArg f (by omega)
    refine h _ _ _ _ _ _ _ _ _ _ _ _ _ _ _ _ _ _ ⟨⟨i1, i2, rfl⟩, ⟨20, 0, (s + 1) % 21, fun j => if j ≤ 19 then D (j + 1) else a, ⟨rfl, by omega⟩, ⟨rfl, rfl, rfl, rfl, by omega⟩, fun j hj => ?_, fun j hj => ?_, rfl, fun j i hj hi => ?_, H2, fun j hj => ?_⟩, fresh⟩
    · by_cases q : j = 19
      · subst q
        rw [pk_us, pk_us, pk_us, pk_us, pk_us]
        show a = (op_go w p b c y_tracking (D 20)).2
        exact e2
      · rw [cpv _ _ j (by omega), cpv _ _ j (by omega), cpv _ _ j (by omega), cpv _ _ j (by omega), cpv _ _ j (by omega)]
        show (if j + 1 ≤ 19 then D (j + 1 + 1) else a) = (op_go _ _ _ _ _ (if j ≤ 19 then D (j + 1) else a)).2
        rw [if_pos (by omega), if_pos (by omega)]; exact S3 (j + 1) (by omega)
    · show dc_V (if j ≤ 19 then D (j + 1) else a)
      split
      · exact S4 (j + 1) (by omega)
      · exact hva
    · show _ = (if j ≤ 19 then D (j + 1) else a) i
      by_cases q : j ≤ 19
      · rw [if_pos q, st_out (by omega), show ((s + 1) % 21 + 21 + j - 20) % 21 = (s + 21 + (j + 1) - 20) % 21 from by omega]
        exact S6 (j + 1) i (by omega) hi
      · obtain rfl : j = 20 := by omega
        rw [if_neg q, show ((s + 1) % 21 + 21 + 20 - 20) % 21 = (s + 1) % 21 from by omega, st_in (by omega) (by omega)]
        exact congrArg a (by omega)
    · by_cases q : j = 19
      · subst q; rw [pk_us]; exact i2
      · rw [cpv _ _ j (by omega)]; exact S8 (j + 1) (by omega)
