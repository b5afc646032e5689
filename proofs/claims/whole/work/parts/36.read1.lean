variable {x_tracking x_view x_slotNow x_stepsBack x_stepsAgain x_stale x_rounds x_columnCount : Int32} {x_doc x_kept x_referenceWidth x_labelValue x_labelWidth x_lineCount x_gapBefore x_headNeeds x_groupNeeds x_wordLine x_wordLeft x_lineFirst x_lineWords x_lineLeft x_lineSlack x_lineNotes x_lineColumn x_lineTop x_columnParagraph x_columnFirst x_columnLines x_columnNotes x_columnFilled : Nat → Int32} {y_doc y_tracking y_view y_done y_steps y_lines y_columns y_rounds y_known : Int32} {y_many y_styleOf y_markOf y_words y_width y_note y_status y_styles y_pages y_stepKind y_stepA y_stepB y_stepC y_stepOn y_ofParagraph y_firstWord y_wordsOf y_slack y_begin y_needs y_notes y_columnOf y_topOf y_firstLine y_label y_labelWide y_counter y_refWide y_nextWide y_columnLine y_columnLines y_filled y_foot : Nat → Int32}
theorem re_x {k : Nat} {post : SX → Prop} (I : i_Rel k (x_tracking, x_view, x_slotNow, x_stepsBack, x_stepsAgain, x_stale, x_rounds, x_columnCount, x_doc, x_kept, x_referenceWidth, x_labelValue, x_labelWidth, x_lineCount, x_gapBefore, x_headNeeds, x_groupNeeds, x_wordLine, x_wordLeft, x_lineFirst, x_lineWords, x_lineLeft, x_lineSlack, x_lineNotes, x_lineColumn, x_lineTop, x_columnParagraph, x_columnFirst, x_columnLines, x_columnNotes, x_columnFilled) (y_doc, y_tracking, y_view, y_done, y_steps, y_lines, y_columns, y_rounds, y_known, y_many, y_styleOf, y_markOf, y_words, y_width, y_note, y_status, y_styles, y_pages, y_stepKind, y_stepA, y_stepB, y_stepC, y_stepOn, y_ofParagraph, y_firstWord, y_wordsOf, y_slack, y_begin, y_needs, y_notes, y_columnOf, y_topOf, y_firstLine, y_label, y_labelWide, y_counter, y_refWide, y_nextWide, y_columnLine, y_columnLines, y_filled, y_foot)) (h : ∀ x_rounds x_columnCount x_referenceWidth x_labelValue x_labelWidth x_lineCount x_wordLine x_wordLeft x_lineFirst x_lineWords x_lineLeft x_lineSlack x_lineNotes x_gapBefore x_headNeeds x_groupNeeds x_lineColumn x_lineTop x_columnParagraph x_columnFirst x_columnLines x_columnNotes x_columnFilled, lx_OK x_doc x_view x_rounds x_columnCount x_labelValue x_lineCount x_wordLine x_wordLeft x_lineFirst x_lineWords x_lineLeft x_lineSlack x_lineNotes x_lineColumn x_lineTop x_columnParagraph x_columnFirst x_columnLines x_columnNotes x_columnFilled → i_Rel k (x_tracking, x_view, x_slotNow, x_stepsBack, x_stepsAgain, 0, x_rounds, x_columnCount, x_doc, x_kept, x_referenceWidth, x_labelValue, x_labelWidth, x_lineCount, x_gapBefore, x_headNeeds, x_groupNeeds, x_wordLine, x_wordLeft, x_lineFirst, x_lineWords, x_lineLeft, x_lineSlack, x_lineNotes, x_lineColumn, x_lineTop, x_columnParagraph, x_columnFirst, x_columnLines, x_columnNotes, x_columnFilled) (y_doc, y_tracking, y_view, y_done, y_steps, y_lines, y_columns, y_rounds, y_known, y_many, y_styleOf, y_markOf, y_words, y_width, y_note, y_status, y_styles, y_pages, y_stepKind, y_stepA, y_stepB, y_stepC, y_stepOn, y_ofParagraph, y_firstWord, y_wordsOf, y_slack, y_begin, y_needs, y_notes, y_columnOf, y_topOf, y_firstLine, y_label, y_labelWide, y_counter, y_refWide, y_nextWide, y_columnLine, y_columnLines, y_filled, y_foot) → post (x_tracking, x_view, x_slotNow, x_stepsBack, x_stepsAgain, 0, x_rounds, x_columnCount, x_doc, x_kept, x_referenceWidth, x_labelValue, x_labelWidth, x_lineCount, x_gapBefore, x_headNeeds, x_groupNeeds, x_wordLine, x_wordLeft, x_lineFirst, x_lineWords, x_lineLeft, x_lineSlack, x_lineNotes, x_lineColumn, x_lineTop, x_columnParagraph, x_columnFirst, x_columnLines, x_columnNotes, x_columnFilled)) : wpX_layOutIfStale post (x_tracking, x_view, x_slotNow, x_stepsBack, x_stepsAgain, x_stale, x_rounds, x_columnCount, x_doc, x_kept, x_referenceWidth, x_labelValue, x_labelWidth, x_lineCount, x_gapBefore, x_headNeeds, x_groupNeeds, x_wordLine, x_wordLeft, x_lineFirst, x_lineWords, x_lineLeft, x_lineSlack, x_lineNotes, x_lineColumn, x_lineTop, x_columnParagraph, x_columnFirst, x_columnLines, x_columnNotes, x_columnFilled) := by
  obtain ⟨s, n, _, _, _, _, hv⟩ := re_f I
  obtain ⟨I1, I2, IL1, IL2, IL3, IL4, IL5⟩ := I
  refine xs_lay hv IL2 IL4 ?_
  intro x_rounds x_columnCount x_referenceWidth x_labelValue x_labelWidth x_lineCount x_wordLine x_wordLeft x_lineFirst x_lineWords x_lineLeft x_lineSlack x_lineNotes x_gapBefore x_headNeeds x_groupNeeds x_lineColumn x_lineTop x_columnParagraph x_columnFirst x_columnLines x_columnNotes x_columnFilled G
  exact h _ _ _ _ _ _ _ _ _ _ _ _ _ _ _ _ _ _ _ _ _ _ _ G ⟨I1, I2, IL1, Or.inl rfl, IL3, fun _ => G, IL5⟩
theorem re_z {k : Nat} (I : i_Rel k (x_tracking, x_view, x_slotNow, x_stepsBack, x_stepsAgain, x_stale, x_rounds, x_columnCount, x_doc, x_kept, x_referenceWidth, x_labelValue, x_labelWidth, x_lineCount, x_gapBefore, x_headNeeds, x_groupNeeds, x_wordLine, x_wordLeft, x_lineFirst, x_lineWords, x_lineLeft, x_lineSlack, x_lineNotes, x_lineColumn, x_lineTop, x_columnParagraph, x_columnFirst, x_columnLines, x_columnNotes, x_columnFilled) (y_doc, y_tracking, y_view, y_done, y_steps, y_lines, y_columns, y_rounds, y_known, y_many, y_styleOf, y_markOf, y_words, y_width, y_note, y_status, y_styles, y_pages, y_stepKind, y_stepA, y_stepB, y_stepC, y_stepOn, y_ofParagraph, y_firstWord, y_wordsOf, y_slack, y_begin, y_needs, y_notes, y_columnOf, y_topOf, y_firstLine, y_label, y_labelWide, y_counter, y_refWide, y_nextWide, y_columnLine, y_columnLines, y_filled, y_foot)) : yz_Z x_doc y_many y_pages y_styles y_styleOf y_markOf y_words y_width y_note y_status := by
  obtain ⟨I1, ⟨b, g, s, D, S1, S2, S3, S4, S5, S6, S7, S8⟩, IL⟩ := I
  have z := yz_of S7
  have e : re_A (D b) (D 0) 0 = x_doc := S5.symm
  rw [e] at z; exact z
theorem re_k {k : Nat} {post : SY → Prop} (I : i_Rel k (x_tracking, x_view, x_slotNow, x_stepsBack, x_stepsAgain, x_stale, x_rounds, x_columnCount, x_doc, x_kept, x_referenceWidth, x_labelValue, x_labelWidth, x_lineCount, x_gapBefore, x_headNeeds, x_groupNeeds, x_wordLine, x_wordLeft, x_lineFirst, x_lineWords, x_lineLeft, x_lineSlack, x_lineNotes, x_lineColumn, x_lineTop, x_columnParagraph, x_columnFirst, x_columnLines, x_columnNotes, x_columnFilled) (y_doc, y_tracking, y_view, y_done, y_steps, y_lines, y_columns, y_rounds, y_known, y_many, y_styleOf, y_markOf, y_words, y_width, y_note, y_status, y_styles, y_pages, y_stepKind, y_stepA, y_stepB, y_stepC, y_stepOn, y_ofParagraph, y_firstWord, y_wordsOf, y_slack, y_begin, y_needs, y_notes, y_columnOf, y_topOf, y_firstLine, y_label, y_labelWide, y_counter, y_refWide, y_nextWide, y_columnLine, y_columnLines, y_filled, y_foot)) (h : ∀ y_lines y_columns y_rounds y_label y_labelWide y_counter y_refWide y_nextWide y_firstLine y_ofParagraph y_firstWord y_wordsOf y_slack y_begin y_needs y_notes y_columnOf y_topOf y_columnLine y_columnLines y_filled y_foot, ly_OK x_doc x_view y_rounds y_columns y_label y_refWide y_firstLine y_ofParagraph y_firstWord y_wordsOf y_slack y_begin y_needs y_notes y_columnOf y_topOf y_columnLine y_columnLines y_filled y_foot → i_Rel k (x_tracking, x_view, x_slotNow, x_stepsBack, x_stepsAgain, x_stale, x_rounds, x_columnCount, x_doc, x_kept, x_referenceWidth, x_labelValue, x_labelWidth, x_lineCount, x_gapBefore, x_headNeeds, x_groupNeeds, x_wordLine, x_wordLeft, x_lineFirst, x_lineWords, x_lineLeft, x_lineSlack, x_lineNotes, x_lineColumn, x_lineTop, x_columnParagraph, x_columnFirst, x_columnLines, x_columnNotes, x_columnFilled) (y_doc, y_tracking, y_view, y_done, y_steps, y_lines, y_columns, y_rounds, 1, y_many, y_styleOf, y_markOf, y_words, y_width, y_note, y_status, y_styles, y_pages, y_stepKind, y_stepA, y_stepB, y_stepC, y_stepOn, y_ofParagraph, y_firstWord, y_wordsOf, y_slack, y_begin, y_needs, y_notes, y_columnOf, y_topOf, y_firstLine, y_label, y_labelWide, y_counter, y_refWide, y_nextWide, y_columnLine, y_columnLines, y_filled, y_foot) → post (y_doc, y_tracking, y_view, y_done, y_steps, y_lines, y_columns, y_rounds, 1, y_many, y_styleOf, y_markOf, y_words, y_width, y_note, y_status, y_styles, y_pages, y_stepKind, y_stepA, y_stepB, y_stepC, y_stepOn, y_ofParagraph, y_firstWord, y_wordsOf, y_slack, y_begin, y_needs, y_notes, y_columnOf, y_topOf, y_firstLine, y_label, y_labelWide, y_counter, y_refWide, y_nextWide, y_columnLine, y_columnLines, y_filled, y_foot)) : wpY_know post (y_doc, y_tracking, y_view, y_done, y_steps, y_lines, y_columns, y_rounds, y_known, y_many, y_styleOf, y_markOf, y_words, y_width, y_note, y_status, y_styles, y_pages, y_stepKind, y_stepA, y_stepB, y_stepC, y_stepOn, y_ofParagraph, y_firstWord, y_wordsOf, y_slack, y_begin, y_needs, y_notes, y_columnOf, y_topOf, y_firstLine, y_label, y_labelWide, y_counter, y_refWide, y_nextWide, y_columnLine, y_columnLines, y_filled, y_foot) := by
  obtain ⟨s, n, _, _, _, _, hv⟩ := re_f I
  have Z := re_z I
  obtain ⟨I1, I2, IL1, IL2, IL3, IL4, IL5⟩ := I
  refine ys_know hv Z IL3 IL5 ?_
  intro y_lines y_columns y_rounds y_label y_labelWide y_counter y_refWide y_nextWide y_firstLine y_ofParagraph y_firstWord y_wordsOf y_slack y_begin y_needs y_notes y_columnOf y_topOf y_columnLine y_columnLines y_filled y_foot G
  exact h _ _ _ _ _ _ _ _ _ _ _ _ _ _ _ _ _ _ _ _ _ _ (by rw [IL1]; exact G) ⟨I1, I2, IL1, IL2, Or.inr rfl, IL4, fun _ => G⟩
theorem re_isT {k : Nat} {post : Int32 → Prop} {x : Int32} (I : i_Rel k (x_tracking, x_view, x_slotNow, x_stepsBack, x_stepsAgain, x_stale, x_rounds, x_columnCount, x_doc, x_kept, x_referenceWidth, x_labelValue, x_labelWidth, x_lineCount, x_gapBefore, x_headNeeds, x_groupNeeds, x_wordLine, x_wordLeft, x_lineFirst, x_lineWords, x_lineLeft, x_lineSlack, x_lineNotes, x_lineColumn, x_lineTop, x_columnParagraph, x_columnFirst, x_columnLines, x_columnNotes, x_columnFilled) (y_doc, y_tracking, y_view, y_done, y_steps, y_lines, y_columns, y_rounds, y_known, y_many, y_styleOf, y_markOf, y_words, y_width, y_note, y_status, y_styles, y_pages, y_stepKind, y_stepA, y_stepB, y_stepC, y_stepOn, y_ofParagraph, y_firstWord, y_wordsOf, y_slack, y_begin, y_needs, y_notes, y_columnOf, y_topOf, y_firstLine, y_label, y_labelWide, y_counter, y_refWide, y_nextWide, y_columnLine, y_columnLines, y_filled, y_foot)) (h0 : ¬ (0 ≤ x ∧ x < x_doc 0) → post 0) (h1 : 0 ≤ x → x < x_doc 0 → post 1) : wpY_isThere post (y_doc, y_tracking, y_view, y_done, y_steps, y_lines, y_columns, y_rounds, y_known, y_many, y_styleOf, y_markOf, y_words, y_width, y_note, y_status, y_styles, y_pages, y_stepKind, y_stepA, y_stepB, y_stepC, y_stepOn, y_ofParagraph, y_firstWord, y_wordsOf, y_slack, y_begin, y_needs, y_notes, y_columnOf, y_topOf, y_firstLine, y_label, y_labelWide, y_counter, y_refWide, y_nextWide, y_columnLine, y_columnLines, y_filled, y_foot) x := by
  obtain ⟨s, n, _, _, _, _, hv⟩ := re_f I
  obtain ⟨⟨i1, i2, i3⟩, ⟨b, g, s, D, S1, S2, S3, S4, S5, S6, S7, S8⟩, IL⟩ := I
  have e : re_A (D b) (D 0) 0 = x_doc := S5.symm
  refine yr_isT (A := re_A (D b) (D 0)) (d := 0) i3 (by omega) S7 (by rw [e]; exact hv) ?_ ?_
  · rw [e]; exact h0
  · rw [e]; exact h1
theorem i_vc_total {k : Nat} {u : SX} {v : SY} (I : i_Rel k u v) (hk : k + 4 ≤ 2048) (v1 : Int32) : wpX_total (fun r u' => wpY_total (fun r' v' => r' = r ∧ i_Rel (k + 4) u' v') v v1) u v1 := by
  obtain ⟨x_tracking, x_view, x_slotNow, x_stepsBack, x_stepsAgain, x_stale, x_rounds, x_columnCount, x_doc, x_kept, x_referenceWidth, x_labelValue, x_labelWidth, x_lineCount, x_gapBefore, x_headNeeds, x_groupNeeds, x_wordLine, x_wordLeft, x_lineFirst, x_lineWords, x_lineLeft, x_lineSlack, x_lineNotes, x_lineColumn, x_lineTop, x_columnParagraph, x_columnFirst, x_columnLines, x_columnNotes, x_columnFilled⟩ := u
  obtain ⟨y_doc, y_tracking, y_view, y_done, y_steps, y_lines, y_columns, y_rounds, y_known, y_many, y_styleOf, y_markOf, y_words, y_width, y_note, y_status, y_styles, y_pages, y_stepKind, y_stepA, y_stepB, y_stepC, y_stepOn, y_ofParagraph, y_firstWord, y_wordsOf, y_slack, y_begin, y_needs, y_notes, y_columnOf, y_topOf, y_firstLine, y_label, y_labelWide, y_counter, y_refWide, y_nextWide, y_columnLine, y_columnLines, y_filled, y_foot⟩ := v
  unfold wpX_total
  refine re_x I ?_
  intro x_rounds x_columnCount x_referenceWidth x_labelValue x_labelWidth x_lineCount x_wordLine x_wordLeft x_lineFirst x_lineWords x_lineLeft x_lineSlack x_lineNotes x_gapBefore x_headNeeds x_groupNeeds x_lineColumn x_lineTop x_columnParagraph x_columnFirst x_columnLines x_columnNotes x_columnFilled GX I
  have fin : ∀ r : Int32, (∀ y_lines y_columns y_rounds y_label y_labelWide y_counter y_refWide y_nextWide y_firstLine y_ofParagraph y_firstWord y_wordsOf y_slack y_begin y_needs y_notes y_columnOf y_topOf y_columnLine y_columnLines y_filled y_foot, ly_OK x_doc x_view y_rounds y_columns y_label y_refWide y_firstLine y_ofParagraph y_firstWord y_wordsOf y_slack y_begin y_needs y_notes y_columnOf y_topOf y_columnLine y_columnLines y_filled y_foot →
      r = (if v1 = 0 then y_columns else if v1 = 1 then y_rounds else if v1 = 2 then y_many 0 else if v1 = 3 then y_done else if v1 = 4 then y_steps - y_done else -1)) → wpY_total (fun r' v' => r' = r ∧ i_Rel (k + 4) (x_tracking, x_view, x_slotNow, x_stepsBack, x_stepsAgain, 0, x_rounds, x_columnCount, x_doc, x_kept, x_referenceWidth, x_labelValue, x_labelWidth, x_lineCount, x_gapBefore, x_headNeeds, x_groupNeeds, x_wordLine, x_wordLeft, x_lineFirst, x_lineWords, x_lineLeft, x_lineSlack, x_lineNotes, x_lineColumn, x_lineTop, x_columnParagraph, x_columnFirst, x_columnLines, x_columnNotes, x_columnFilled) v') (y_doc, y_tracking, y_view, y_done, y_steps, y_lines, y_columns, y_rounds, y_known, y_many, y_styleOf, y_markOf, y_words, y_width, y_note, y_status, y_styles, y_pages, y_stepKind, y_stepA, y_stepB, y_stepC, y_stepOn, y_ofParagraph, y_firstWord, y_wordsOf, y_slack, y_begin, y_needs, y_notes, y_columnOf, y_topOf, y_firstLine, y_label, y_labelWide, y_counter, y_refWide, y_nextWide, y_columnLine, y_columnLines, y_filled, y_foot) v1 := fun r hr => by
    unfold wpY_total
    refine re_k I ?_
    intro y_lines y_columns y_rounds y_label y_labelWide y_counter y_refWide y_nextWide y_firstLine y_ofParagraph y_firstWord y_wordsOf y_slack y_begin y_needs y_notes y_columnOf y_topOf y_columnLine y_columnLines y_filled y_foot GY I
    have e := hr y_lines y_columns y_rounds _ y_labelWide y_counter _ y_nextWide _ _ _ _ _ _ _ _ _ _ _ _ _ _ GY
    exact br_c (fun q => ⟨by rw [e, if_pos q], I⟩) (fun q0 => br_c (fun q => ⟨by rw [e, if_neg q0, if_pos q], I⟩) (fun q1 => br_c (fun q => ⟨by rw [e, if_neg q0, if_neg q1, if_pos q], I⟩) (fun q2 => br_c (fun q => ⟨by rw [e, if_neg q0, if_neg q1, if_neg q2, if_pos q], I⟩) (fun q3 => br_c (fun q => ⟨by rw [e, if_neg q0, if_neg q1, if_neg q2, if_neg q3, if_pos q], I⟩) (fun q4 => ⟨by rw [e, if_neg q0, if_neg q1, if_neg q2, if_neg q3, if_neg q4], I⟩)))))
  have bad : ¬ (0 ≤ v1 ∧ v1 ≤ 4) → wpY_total (fun r' v' => r' = -1 ∧ i_Rel (k + 4) (x_tracking, x_view, x_slotNow, x_stepsBack, x_stepsAgain, 0, x_rounds, x_columnCount, x_doc, x_kept, x_referenceWidth, x_labelValue, x_labelWidth, x_lineCount, x_gapBefore, x_headNeeds, x_groupNeeds, x_wordLine, x_wordLeft, x_lineFirst, x_lineWords, x_lineLeft, x_lineSlack, x_lineNotes, x_lineColumn, x_lineTop, x_columnParagraph, x_columnFirst, x_columnLines, x_columnNotes, x_columnFilled) v') (y_doc, y_tracking, y_view, y_done, y_steps, y_lines, y_columns, y_rounds, y_known, y_many, y_styleOf, y_markOf, y_words, y_width, y_note, y_status, y_styles, y_pages, y_stepKind, y_stepA, y_stepB, y_stepC, y_stepOn, y_ofParagraph, y_firstWord, y_wordsOf, y_slack, y_begin, y_needs, y_notes, y_columnOf, y_topOf, y_firstLine, y_label, y_labelWide, y_counter, y_refWide, y_nextWide, y_columnLine, y_columnLines, y_filled, y_foot) v1 := fun z => fin (-1) fun _ _ _ _ _ _ _ _ _ _ _ _ _ _ _ _ _ _ _ _ _ _ _ => by
    have ne : ∀ m : Int32, 0 ≤ m ∧ m ≤ 4 → ¬ v1 = m := fun m hm e => z (e ▸ hm)
    rw [if_neg (ne 0 (by decide)), if_neg (ne 1 (by decide)), if_neg (ne 2 (by decide)), if_neg (ne 3 (by decide)), if_neg (ne 4 (by decide))]
  obtain ⟨r, fr, ro, _, _, fC⟩ := GX
  have Z := re_z I
  have J := I
  obtain ⟨_, ⟨b, g, s, D, S1, ⟨T1, T2, T3, T4, T5⟩, _⟩, _⟩ := J
  refine br_c (fun z => bad fun q => Int32.not_lt.mpr q.1 z) (fun z => br_c (fun y => bad fun q => Int32.not_lt.mpr q.2 y) (fun y => br_c (fun q => fin _ ?_) (fun q0 => br_c (fun q => fin _ ?_) (fun q1 => br_c (fun q => fin _ ?_) (fun q2 => br_c (fun q => fin _ ?_) (fun q3 => br_c (fun q => fin _ ?_) (fun q4 => trivial)))))))
  · intro _ _ _ _ _ _ _ _ _ _ _ _ _ _ _ _ _ _ _ _ _ _ ⟨r', fr', ro', _, _, _, _, fC'⟩
    rw [if_pos q, fC.1, fC'.1, la_finU fr fr']
  · intro _ _ _ _ _ _ _ _ _ _ _ _ _ _ _ _ _ _ _ _ _ _ ⟨r', fr', ro', _, _, _, _, fC'⟩
    rw [if_neg q0, if_pos q, ro, ro', la_finU fr fr']
  · intro _ _ _ _ _ _ _ _ _ _ _ _ _ _ _ _ _ _ _ _ _ _ _
    rw [if_neg q0, if_neg q1, if_pos q, Z.1]
  · intro _ _ _ _ _ _ _ _ _ _ _ _ _ _ _ _ _ _ _ _ _ _ _
    rw [if_neg q0, if_neg q1, if_neg q2, if_pos q, T1, T3]
  · intro _ _ _ _ _ _ _ _ _ _ _ _ _ _ _ _ _ _ _ _ _ _ _
    rw [if_neg q0, if_neg q1, if_neg q2, if_neg q3, if_pos q, T2, T3, T4, pk_sub (by omega)]
    exact congrArg nI (by omega)
theorem i_vc_column {k : Nat} {u : SX} {v : SY} (I : i_Rel k u v) (hk : k + 4 ≤ 2048) (v1 : Int32) (v2 : Int32) : wpX_column (fun r u' => wpY_column (fun r' v' => r' = r ∧ i_Rel (k + 4) u' v') v v1 v2) u v1 v2 := by
  obtain ⟨x_tracking, x_view, x_slotNow, x_stepsBack, x_stepsAgain, x_stale, x_rounds, x_columnCount, x_doc, x_kept, x_referenceWidth, x_labelValue, x_labelWidth, x_lineCount, x_gapBefore, x_headNeeds, x_groupNeeds, x_wordLine, x_wordLeft, x_lineFirst, x_lineWords, x_lineLeft, x_lineSlack, x_lineNotes, x_lineColumn, x_lineTop, x_columnParagraph, x_columnFirst, x_columnLines, x_columnNotes, x_columnFilled⟩ := u
  obtain ⟨y_doc, y_tracking, y_view, y_done, y_steps, y_lines, y_columns, y_rounds, y_known, y_many, y_styleOf, y_markOf, y_words, y_width, y_note, y_status, y_styles, y_pages, y_stepKind, y_stepA, y_stepB, y_stepC, y_stepOn, y_ofParagraph, y_firstWord, y_wordsOf, y_slack, y_begin, y_needs, y_notes, y_columnOf, y_topOf, y_firstLine, y_label, y_labelWide, y_counter, y_refWide, y_nextWide, y_columnLine, y_columnLines, y_filled, y_foot⟩ := v
  obtain ⟨s, n, _, _, _, _, hv⟩ := re_f I
  unfold wpX_column
  refine re_x I ?_
  intro x_rounds x_columnCount x_referenceWidth x_labelValue x_labelWidth x_lineCount x_wordLine x_wordLeft x_lineFirst x_lineWords x_lineLeft x_lineSlack x_lineNotes x_gapBefore x_headNeeds x_groupNeeds x_lineColumn x_lineTop x_columnParagraph x_columnFirst x_columnLines x_columnNotes x_columnFilled GX I
  obtain ⟨r, fr, ro, _, _, fC⟩ := GX
  have h24 := (dc_Vn hv).2
  obtain ⟨gJ, _⟩ := la_flI (rw := la_rk x_doc x_view (r - 1)) (vw := x_view) hv (dc_n x_doc) h24
  have gb := gJ.1
  have bad : (¬ (0 ≤ v1 ∧ v1 ≤ x_columnCount - 1) ∨ ¬ (0 ≤ v2 ∧ v2 ≤ 4)) → wpY_column (fun r' v' => r' = -1 ∧ i_Rel (k + 4) (x_tracking, x_view, x_slotNow, x_stepsBack, x_stepsAgain, 0, x_rounds, x_columnCount, x_doc, x_kept, x_referenceWidth, x_labelValue, x_labelWidth, x_lineCount, x_gapBefore, x_headNeeds, x_groupNeeds, x_wordLine, x_wordLeft, x_lineFirst, x_lineWords, x_lineLeft, x_lineSlack, x_lineNotes, x_lineColumn, x_lineTop, x_columnParagraph, x_columnFirst, x_columnLines, x_columnNotes, x_columnFilled) v') (y_doc, y_tracking, y_view, y_done, y_steps, y_lines, y_columns, y_rounds, y_known, y_many, y_styleOf, y_markOf, y_words, y_width, y_note, y_status, y_styles, y_pages, y_stepKind, y_stepA, y_stepB, y_stepC, y_stepOn, y_ofParagraph, y_firstWord, y_wordsOf, y_slack, y_begin, y_needs, y_notes, y_columnOf, y_topOf, y_firstLine, y_label, y_labelWide, y_counter, y_refWide, y_nextWide, y_columnLine, y_columnLines, y_filled, y_foot) v1 v2 := fun z => by
    unfold wpY_column
    refine re_k I ?_
    intro y_lines y_columns y_rounds y_label y_labelWide y_counter y_refWide y_nextWide y_firstLine y_ofParagraph y_firstWord y_wordsOf y_slack y_begin y_needs y_notes y_columnOf y_topOf y_columnLine y_columnLines y_filled y_foot ⟨r', fr', _, _, _, _, _, fC'⟩ I
    obtain rfl := la_finU fr fr'
    have ec : y_columns = x_columnCount := fC'.1.trans fC.1.symm
    rw [ec]
    rw [ec] at I
    refine yr_in (fun q => br_t rfl ⟨rfl, I⟩) (fun q1 q2 => br_f (by decide) (br_c (fun _ => ⟨rfl, I⟩) (fun w1 => br_c (fun _ => ⟨rfl, I⟩) (fun w2 => ?_))))
    rcases z with z | z
    · exact absurd ⟨q1, q2⟩ z
    · exact absurd ⟨Int32.not_lt.mp w1, Int32.not_lt.mp w2⟩ z
  refine xr_in (fun z => br_t rfl (bad (Or.inl z))) (fun z1 z2 => br_f (by decide) (br_c (fun w => bad (Or.inr fun q => Int32.not_lt.mpr q.1 w)) (fun w1 => br_c (fun w => bad (Or.inr fun q => Int32.not_lt.mpr q.2 w)) (fun w2 => ?_))))
  have z2' := z2
  rw [fC.1, op_m1 (by omega) z1] at z2'
  obtain ⟨c, hc, rfl⟩ := op_ix z1 z2' (by omega)
  obtain ⟨f1, f2, f3, f4, f5⟩ := fC.2.1 c hc
  have jc := vp_in_nI (n := c) (N := 384) (by omega) (by omega)
  have cc := nI_clamp (n := c) (by omega)
  have go : ∀ val : Int32, (∀ (q j : Nat), (la_fl x_doc x_view (la_rk x_doc x_view (r - 1)) (dc_n x_doc)).2.1 c = nI q → (la_fl x_doc x_view (la_rk x_doc x_view (r - 1)) (dc_n x_doc)).2.2.1 c = nI j →
      val = (if v2 = 0 then nI q else if v2 = 1 then nI j else if v2 = 2 then (la_fl x_doc x_view (la_rk x_doc x_view (r - 1)) (dc_n x_doc)).2.2.2.1 c else if v2 = 3 then (la_fl x_doc x_view (la_rk x_doc x_view (r - 1)) (dc_n x_doc)).2.2.2.2.1 c else (la_fl x_doc x_view (la_rk x_doc x_view (r - 1)) (dc_n x_doc)).2.2.2.2.2.1 c)) →
      wpY_column (fun r' v' => r' = val ∧ i_Rel (k + 4) (x_tracking, x_view, x_slotNow, x_stepsBack, x_stepsAgain, 0, x_rounds, x_columnCount, x_doc, x_kept, x_referenceWidth, x_labelValue, x_labelWidth, x_lineCount, x_gapBefore, x_headNeeds, x_groupNeeds, x_wordLine, x_wordLeft, x_lineFirst, x_lineWords, x_lineLeft, x_lineSlack, x_lineNotes, x_lineColumn, x_lineTop, x_columnParagraph, x_columnFirst, x_columnLines, x_columnNotes, x_columnFilled) v') (y_doc, y_tracking, y_view, y_done, y_steps, y_lines, y_columns, y_rounds, y_known, y_many, y_styleOf, y_markOf, y_words, y_width, y_note, y_status, y_styles, y_pages, y_stepKind, y_stepA, y_stepB, y_stepC, y_stepOn, y_ofParagraph, y_firstWord, y_wordsOf, y_slack, y_begin, y_needs, y_notes, y_columnOf, y_topOf, y_firstLine, y_label, y_labelWide, y_counter, y_refWide, y_nextWide, y_columnLine, y_columnLines, y_filled, y_foot) (nI c) v2 := fun val hval => by
    unfold wpY_column
    refine re_k I ?_
    intro y_lines y_columns y_rounds y_label y_labelWide y_counter y_refWide y_nextWide y_firstLine y_ofParagraph y_firstWord y_wordsOf y_slack y_begin y_needs y_notes y_columnOf y_topOf y_columnLine y_columnLines y_filled y_foot ⟨r', fr', _, _, _, hB, hF, fC'⟩ I
    obtain rfl := la_finU fr fr'
    have ec : y_columns = x_columnCount := fC'.1.trans fC.1.symm
    rw [ec]
    rw [ec] at I
    obtain ⟨t1, t2, t3, q, j, t4, t5, t6, t7, t8⟩ := fC'.2.1 c hc
    have e := hval q j t6 t7
    have hFs := la_FsB (rw := la_rk x_doc x_view (r - 1)) (vw := x_view) hv (p := q) (by omega)
    have hnl := (la_nlP (a := x_doc) (rw := la_rk x_doc x_view (r - 1)) (vw := x_view) (dc_Vw hv (p := q) (by omega)).2).2.1
    have el : y_columnLine (nI c).toNatClampNeg = nI (la_Fs x_doc x_view (la_rk x_doc x_view (r - 1)) q + j) := by rw [cc, t8]
    have eo := (hB q j (Or.inl ⟨t4, t5⟩)).1
    refine yr_in (fun z => absurd ⟨z1, z2⟩ z) (fun _ _ => br_f (by decide) (br_f w1 (br_f w2 (br_c (fun s => ⟨jc, ?_⟩) (fun s0 => br_c (fun s => ⟨jc, jc, ?_⟩) (fun s1 => br_c (fun s => ⟨jc, ?_⟩) (fun s2 => br_c (fun s => ⟨jc, ?_⟩) (fun s3 => br_c (fun s => ⟨jc, ?_⟩) (fun s4 => trivial)))))))))
    · rw [el]
      refine ⟨vp_in_nI (by omega) (by omega), ?_, I⟩
      rw [nI_clamp (by omega), eo, e, if_pos s]
    · rw [el]
      refine ⟨vp_in_nI (by omega) (by omega), ?_⟩
      rw [nI_clamp (by omega), eo]
      refine ⟨vp_in_nI (by omega) (by omega), ?_, I⟩
      rw [nI_clamp (by omega), hF q (by omega), pk_sub (by omega), e, if_neg s0, if_pos s]
      exact congrArg nI (by omega)
    · exact ⟨by rw [cc, t1, e, if_neg s0, if_neg s1, if_pos s], I⟩
    · exact ⟨by rw [cc, t2, e, if_neg s0, if_neg s1, if_neg s2, if_pos s], I⟩
    · exact ⟨by rw [cc, t3, e, if_neg s0, if_neg s1, if_neg s2, if_neg s3], I⟩
  refine br_c (fun s => ⟨jc, go _ fun q j e1 e2 => ?_⟩) (fun s0 => br_c (fun s => ⟨jc, go _ fun q j e1 e2 => ?_⟩) (fun s1 => br_c (fun s => ⟨jc, go _ fun q j e1 e2 => ?_⟩) (fun s2 => br_c (fun s => ⟨jc, go _ fun q j e1 e2 => ?_⟩) (fun s3 => br_c (fun s => ⟨jc, go _ fun q j e1 e2 => ?_⟩) (fun s4 => trivial)))))
  · rw [cc, f1, e1, if_pos s]
  · rw [cc, f2, e2, if_neg s0, if_pos s]
  · rw [cc, f3, if_neg s0, if_neg s1, if_pos s]
  · rw [cc, f4, if_neg s0, if_neg s1, if_neg s2, if_pos s]
  · rw [cc, f5, if_neg s0, if_neg s1, if_neg s2, if_neg s3]
