variable {y_doc y_tracking y_view y_done y_steps y_lines y_columns y_rounds y_known : Int32} {y_many y_styleOf y_markOf y_words y_width y_note y_status y_styles y_pages y_stepKind y_stepA y_stepB y_stepC y_stepOn y_ofParagraph y_firstWord y_wordsOf y_slack y_begin y_needs y_notes y_columnOf y_topOf y_firstLine y_label y_labelWide y_counter y_refWide y_nextWide y_columnLine y_columnLines y_filled y_foot : Nat → Int32} {A : Nat → Nat → Int32} {d : Nat}
theorem yh_0 {r : Int32} {P : Int32 × (Nat → Int32)} (e : P = (r, A d)) (H : ya_A A y_many y_pages y_styles y_styleOf y_markOf y_words y_width y_note y_status) : ya_A (ya_s A d P.2) y_many y_pages y_styles y_styleOf y_markOf y_words y_width y_note y_status := by
  rw [e]; show ya_A (ya_s A d (A d)) y_many y_pages y_styles y_styleOf y_markOf y_words y_width y_note y_status; rw [ya_sI]; exact H
theorem yo_ins {post : Int32 → SY → Prop} {p s : Int32} (hd : y_doc = nI d) (h2 : d < 2) (H : ya_A A y_many y_pages y_styles y_styleOf y_markOf y_words y_width y_note y_status) (hv : dc_V (A d))
    (h : ∀ y_many1 y_pages1 y_styles1 y_styleOf1 y_markOf1 y_words1 y_width1 y_note1 y_status1, ya_A (ya_s A d (op_ins (A d) p s).2) y_many1 y_pages1 y_styles1 y_styleOf1 y_markOf1 y_words1 y_width1 y_note1 y_status1 → post (op_ins (A d) p s).1 (y_doc, y_tracking, y_view, y_done, y_steps, y_lines, y_columns, y_rounds, y_known, y_many1, y_styleOf1, y_markOf1, y_words1, y_width1, y_note1, y_status1, y_styles1, y_pages1, y_stepKind, y_stepA, y_stepB, y_stepC, y_stepOn, y_ofParagraph, y_firstWord, y_wordsOf, y_slack, y_begin, y_needs, y_notes, y_columnOf, y_topOf, y_firstLine, y_label, y_labelWide, y_counter, y_refWide, y_nextWide, y_columnLine, y_columnLines, y_filled, y_foot)) : wpY_doInsert post (y_doc, y_tracking, y_view, y_done, y_steps, y_lines, y_columns, y_rounds, y_known, y_many, y_styleOf, y_markOf, y_words, y_width, y_note, y_status, y_styles, y_pages, y_stepKind, y_stepA, y_stepB, y_stepC, y_stepOn, y_ofParagraph, y_firstWord, y_wordsOf, y_slack, y_begin, y_needs, y_notes, y_columnOf, y_topOf, y_firstLine, y_label, y_labelWide, y_counter, y_refWide, y_nextWide, y_columnLine, y_columnLines, y_filled, y_foot) p s := by
  obtain ⟨e0, h24⟩ := dc_Vn hv
  have em := ya_many H h2
  have id := ix_c hd (by omega)
  have jd := ix_in (N := 2) hd h2 (by omega)
  have no : ∀ r : Int32, op_ins (A d) p s = (r, A d) → post r (y_doc, y_tracking, y_view, y_done, y_steps, y_lines, y_columns, y_rounds, y_known, y_many, y_styleOf, y_markOf, y_words, y_width, y_note, y_status, y_styles, y_pages, y_stepKind, y_stepA, y_stepB, y_stepC, y_stepOn, y_ofParagraph, y_firstWord, y_wordsOf, y_slack, y_begin, y_needs, y_notes, y_columnOf, y_topOf, y_firstLine, y_label, y_labelWide, y_counter, y_refWide, y_nextWide, y_columnLine, y_columnLines, y_filled, y_foot) := fun r e => by
    have q := h _ _ _ _ _ _ _ _ _ (yh_0 e H); rw [e] at q; exact q
  refine ⟨jd, ?_⟩
  rw [id, ← em]
  refine yr_in (fun z => br_t rfl ?_) (fun z1 z2 => br_f (by decide) (yr_in (fun z => br_t rfl ?_) (fun z3 z4 => br_f (by decide) ⟨jd, br_c (fun z => ?_) (fun z => ⟨jd, ?_⟩)⟩)))
  · exact no _ (if_neg fun q => z q.1)
  · exact no _ (if_neg fun q => z q.2)
  · exact no (-2) ((if_pos ⟨⟨z1, z2⟩, ⟨z3, z4⟩⟩).trans (if_pos z))
  · obtain ⟨j, hj, rfl⟩ := op_ix2 z1 (e0 ▸ z2) (by omega)
    have hn : dc_n (A d) < 24 := by
      rcases Nat.lt_or_eq_of_le h24 with q | q
      · exact q
      · exact absurd (by rw [e0, q]; rfl) z
    have e : op_ins (A d) (nI j) s = _ := (if_pos ⟨⟨z1, z2⟩, ⟨z3, z4⟩⟩).trans (if_neg z)
    rw [nI_clamp (by omega), e0] at e
    refine nm_r (e' := nI (j + (dc_n (A d) - j))) (by rw [e0]; exact congrArg nI (by omega)) ⟨dc_n (A d) - j + 1, ?_⟩
    refine ys_insL (n := dc_n (A d)) hd h2 hj hn (dc_n (A d) - j) A _ _ _ _ _ _ _ _ _ (by omega) e0 H (fun a1 a2 a3 a4 a5 a6 a7 a8 a9 H1 => ?_)
    have q := h a1 a2 a3 a4 a5 a6 a7 a8 a9 (by rw [e]; exact H1); rw [e] at q; exact q
theorem ys_remL {post : Int32 → SY → Prop} {m : Nat} (hd : y_doc = nI d) (h2 : d < 2) (hm : m < 24) : ∀ (k q : Nat) (A : Nat → Nat → Int32) (y_many y_pages y_styles y_styleOf y_markOf y_words y_width y_note y_status : Nat → Int32), q + k = m → A d 0 = nI m → ya_A A y_many y_pages y_styles y_styleOf y_markOf y_words y_width y_note y_status →
    (∀ y_many1 y_pages1 y_styles1 y_styleOf1 y_markOf1 y_words1 y_width1 y_note1 y_status1, ya_A (ya_s A d (dc_rL (A d) q k)) y_many1 y_pages1 y_styles1 y_styleOf1 y_markOf1 y_words1 y_width1 y_note1 y_status1 → post (nI m) (y_doc, y_tracking, y_view, y_done, y_steps, y_lines, y_columns, y_rounds, y_known, y_many1, y_styleOf1, y_markOf1, y_words1, y_width1, y_note1, y_status1, y_styles1, y_pages1, y_stepKind, y_stepA, y_stepB, y_stepC, y_stepOn, y_ofParagraph, y_firstWord, y_wordsOf, y_slack, y_begin, y_needs, y_notes, y_columnOf, y_topOf, y_firstLine, y_label, y_labelWide, y_counter, y_refWide, y_nextWide, y_columnLine, y_columnLines, y_filled, y_foot)) → wY_doRemove_25 post (k + 1) (nI q) y_doc y_tracking y_view y_done y_steps y_lines y_columns y_rounds y_known y_many y_styleOf y_markOf y_words y_width y_note y_status y_styles y_pages y_stepKind y_stepA y_stepB y_stepC y_stepOn y_ofParagraph y_firstWord y_wordsOf y_slack y_begin y_needs y_notes y_columnOf y_topOf y_firstLine y_label y_labelWide y_counter y_refWide y_nextWide y_columnLine y_columnLines y_filled y_foot
  | 0, q, A, y_many, y_pages, y_styles, y_styleOf, y_markOf, y_words, y_width, y_note, y_status, hq, h0, H, h => by
    have em := ya_many H h2
    have id := ix_c hd (by omega)
    have jd := ix_in (N := 2) hd h2 (by omega)
    unfold wY_doRemove_25
    refine ⟨jd, ?_⟩
    rw [id, ← em, h0]
    exact br_t (nI_le (by omega) (by omega)) ⟨jd, h _ _ _ _ _ _ _ _ _ (by show ya_A (ya_s A d (A d)) y_many y_pages y_styles y_styleOf y_markOf y_words y_width y_note y_status; rw [ya_sI]; exact H)⟩
  | k + 1, q, A, y_many, y_pages, y_styles, y_styleOf, y_markOf, y_words, y_width, y_note, y_status, hq, h0, H, h => by
    have em := ya_many H h2
    have id := ix_c hd (by omega)
    have jd := ix_in (N := 2) hd h2 (by omega)
    refine ⟨jd, ?_⟩
    rw [id, ← em, h0]
    refine br_f (nI_ge (by omega) (by omega)) (ys_cp (f := q + 1) (t := q) (nI_1 _) rfl hd h2 (by omega) (by omega) (by omega) H ?_)
    intro y_many1 y_pages1 y_styles1 y_styleOf1 y_markOf1 y_words1 y_width1 y_note1 y_status1 H1
    refine nm_r (nI_1 _) (ys_remL hd h2 hm k (q + 1) _ _ _ _ _ _ _ _ _ _ (by omega) ?_ H1 ?_)
    · rw [ya_ss, dc_cp0]; exact h0
    · rw [ya_ss, ya_s2]; exact h
theorem yo_rem {post : Int32 → SY → Prop} {p : Int32} (hd : y_doc = nI d) (h2 : d < 2) (H : ya_A A y_many y_pages y_styles y_styleOf y_markOf y_words y_width y_note y_status) (hv : dc_V (A d))
    (h : ∀ y_many1 y_pages1 y_styles1 y_styleOf1 y_markOf1 y_words1 y_width1 y_note1 y_status1, ya_A (ya_s A d (op_rem (A d) p).2) y_many1 y_pages1 y_styles1 y_styleOf1 y_markOf1 y_words1 y_width1 y_note1 y_status1 → post (op_rem (A d) p).1 (y_doc, y_tracking, y_view, y_done, y_steps, y_lines, y_columns, y_rounds, y_known, y_many1, y_styleOf1, y_markOf1, y_words1, y_width1, y_note1, y_status1, y_styles1, y_pages1, y_stepKind, y_stepA, y_stepB, y_stepC, y_stepOn, y_ofParagraph, y_firstWord, y_wordsOf, y_slack, y_begin, y_needs, y_notes, y_columnOf, y_topOf, y_firstLine, y_label, y_labelWide, y_counter, y_refWide, y_nextWide, y_columnLine, y_columnLines, y_filled, y_foot)) : wpY_doRemove post (y_doc, y_tracking, y_view, y_done, y_steps, y_lines, y_columns, y_rounds, y_known, y_many, y_styleOf, y_markOf, y_words, y_width, y_note, y_status, y_styles, y_pages, y_stepKind, y_stepA, y_stepB, y_stepC, y_stepOn, y_ofParagraph, y_firstWord, y_wordsOf, y_slack, y_begin, y_needs, y_notes, y_columnOf, y_topOf, y_firstLine, y_label, y_labelWide, y_counter, y_refWide, y_nextWide, y_columnLine, y_columnLines, y_filled, y_foot) p := by
  obtain ⟨e0, h24⟩ := dc_Vn hv
  have em := ya_many H h2
  have id := ix_c hd (by omega)
  have jd := ix_in (N := 2) hd h2 (by omega)
  have no : ∀ r : Int32, op_rem (A d) p = (r, A d) → post r (y_doc, y_tracking, y_view, y_done, y_steps, y_lines, y_columns, y_rounds, y_known, y_many, y_styleOf, y_markOf, y_words, y_width, y_note, y_status, y_styles, y_pages, y_stepKind, y_stepA, y_stepB, y_stepC, y_stepOn, y_ofParagraph, y_firstWord, y_wordsOf, y_slack, y_begin, y_needs, y_notes, y_columnOf, y_topOf, y_firstLine, y_label, y_labelWide, y_counter, y_refWide, y_nextWide, y_columnLine, y_columnLines, y_filled, y_foot) := fun r e => by
    have q := h _ _ _ _ _ _ _ _ _ (yh_0 e H); rw [e] at q; exact q
  unfold wpY_doRemove
  refine yr_isT hd h2 H hv (fun z => br_t rfl (no _ (if_neg z))) (fun z1 z2 => br_f (by decide) ?_)
  obtain ⟨j, hj, rfl⟩ := op_ix z1 (e0 ▸ z2) (by omega)
  have e : op_rem (A d) (nI j) = _ := if_pos ⟨z1, z2⟩
  obtain ⟨m, hm⟩ : ∃ m, dc_n (A d) = m + 1 := ⟨dc_n (A d) - 1, by omega⟩
  have e1 : A d 0 - 1 = nI m := by rw [e0, hm, nI_pred]
  rw [nI_clamp (by omega), e1, hm, show m + 1 - 1 - j = m - j from by omega] at e
  refine ⟨jd, jd, nm_r (e' := upd y_many d (nI m)) (by rw [id, ← em, e1]) ⟨m - j + 1, ?_⟩⟩
  have H1 := yu_many (v := nI m) H h2
  refine ys_remL (m := m) hd h2 (by omega) (m - j) j _ _ _ _ _ _ _ _ _ _ (by omega) ?_ H1 ?_
  · rw [ya_ss, pk_us]
  · intro y_many1 y_pages1 y_styles1 y_styleOf1 y_markOf1 y_words1 y_width1 y_note1 y_status1 H2
    rw [ya_ss, ya_s2, dc_rLc] at H2
    have q := h _ _ _ _ _ _ _ _ _ (by rw [e]; exact H2); rw [e] at q; exact q
theorem yo_sty {post : Int32 → SY → Prop} {p s : Int32} (hd : y_doc = nI d) (h2 : d < 2) (H : ya_A A y_many y_pages y_styles y_styleOf y_markOf y_words y_width y_note y_status) (hv : dc_V (A d))
    (h : ∀ y_many1 y_pages1 y_styles1 y_styleOf1 y_markOf1 y_words1 y_width1 y_note1 y_status1, ya_A (ya_s A d (op_sty (A d) p s).2) y_many1 y_pages1 y_styles1 y_styleOf1 y_markOf1 y_words1 y_width1 y_note1 y_status1 → post (op_sty (A d) p s).1 (y_doc, y_tracking, y_view, y_done, y_steps, y_lines, y_columns, y_rounds, y_known, y_many1, y_styleOf1, y_markOf1, y_words1, y_width1, y_note1, y_status1, y_styles1, y_pages1, y_stepKind, y_stepA, y_stepB, y_stepC, y_stepOn, y_ofParagraph, y_firstWord, y_wordsOf, y_slack, y_begin, y_needs, y_notes, y_columnOf, y_topOf, y_firstLine, y_label, y_labelWide, y_counter, y_refWide, y_nextWide, y_columnLine, y_columnLines, y_filled, y_foot)) : wpY_doRestyle post (y_doc, y_tracking, y_view, y_done, y_steps, y_lines, y_columns, y_rounds, y_known, y_many, y_styleOf, y_markOf, y_words, y_width, y_note, y_status, y_styles, y_pages, y_stepKind, y_stepA, y_stepB, y_stepC, y_stepOn, y_ofParagraph, y_firstWord, y_wordsOf, y_slack, y_begin, y_needs, y_notes, y_columnOf, y_topOf, y_firstLine, y_label, y_labelWide, y_counter, y_refWide, y_nextWide, y_columnLine, y_columnLines, y_filled, y_foot) p s := by
  obtain ⟨e0, h24⟩ := dc_Vn hv
  have no : ∀ r : Int32, op_sty (A d) p s = (r, A d) → post r (y_doc, y_tracking, y_view, y_done, y_steps, y_lines, y_columns, y_rounds, y_known, y_many, y_styleOf, y_markOf, y_words, y_width, y_note, y_status, y_styles, y_pages, y_stepKind, y_stepA, y_stepB, y_stepC, y_stepOn, y_ofParagraph, y_firstWord, y_wordsOf, y_slack, y_begin, y_needs, y_notes, y_columnOf, y_topOf, y_firstLine, y_label, y_labelWide, y_counter, y_refWide, y_nextWide, y_columnLine, y_columnLines, y_filled, y_foot) := fun r e => by
    have q := h _ _ _ _ _ _ _ _ _ (yh_0 e H); rw [e] at q; exact q
  unfold wpY_doRestyle
  refine yr_isT hd h2 H hv (fun z => br_t rfl (no _ (if_neg fun q => z q.1))) (fun z1 z2 => br_f (by decide) (yr_in (fun z => br_t rfl (no _ (if_neg fun q => z q.2))) (fun z3 z4 => br_f (by decide) ?_)))
  obtain ⟨j, hj, rfl⟩ := op_ix z1 (e0 ▸ z2) (by omega)
  have e : op_sty (A d) (nI j) s = _ := if_pos ⟨⟨z1, z2⟩, ⟨z3, z4⟩⟩
  rw [nI_clamp (by omega)] at e
  have ep : (24 : Int32) * y_doc + nI j = nI (24 * d + j) := by rw [hd]; exact ad_yp _ _
  refine ⟨ix_in ep (by omega) (by omega), nm_r (by rw [ix_c ep (by omega)]) ?_⟩
  have q := h _ _ _ _ _ _ _ _ _ (by rw [e]; exact yu_styleOf (v := s) H h2 (p := j) (by omega)); rw [e] at q; exact q
theorem yo_mrk {post : Int32 → SY → Prop} {p s : Int32} (hd : y_doc = nI d) (h2 : d < 2) (H : ya_A A y_many y_pages y_styles y_styleOf y_markOf y_words y_width y_note y_status) (hv : dc_V (A d))
    (h : ∀ y_many1 y_pages1 y_styles1 y_styleOf1 y_markOf1 y_words1 y_width1 y_note1 y_status1, ya_A (ya_s A d (op_mrk (A d) p s).2) y_many1 y_pages1 y_styles1 y_styleOf1 y_markOf1 y_words1 y_width1 y_note1 y_status1 → post (op_mrk (A d) p s).1 (y_doc, y_tracking, y_view, y_done, y_steps, y_lines, y_columns, y_rounds, y_known, y_many1, y_styleOf1, y_markOf1, y_words1, y_width1, y_note1, y_status1, y_styles1, y_pages1, y_stepKind, y_stepA, y_stepB, y_stepC, y_stepOn, y_ofParagraph, y_firstWord, y_wordsOf, y_slack, y_begin, y_needs, y_notes, y_columnOf, y_topOf, y_firstLine, y_label, y_labelWide, y_counter, y_refWide, y_nextWide, y_columnLine, y_columnLines, y_filled, y_foot)) : wpY_doMark post (y_doc, y_tracking, y_view, y_done, y_steps, y_lines, y_columns, y_rounds, y_known, y_many, y_styleOf, y_markOf, y_words, y_width, y_note, y_status, y_styles, y_pages, y_stepKind, y_stepA, y_stepB, y_stepC, y_stepOn, y_ofParagraph, y_firstWord, y_wordsOf, y_slack, y_begin, y_needs, y_notes, y_columnOf, y_topOf, y_firstLine, y_label, y_labelWide, y_counter, y_refWide, y_nextWide, y_columnLine, y_columnLines, y_filled, y_foot) p s := by
  obtain ⟨e0, h24⟩ := dc_Vn hv
  have no : ∀ r : Int32, op_mrk (A d) p s = (r, A d) → post r (y_doc, y_tracking, y_view, y_done, y_steps, y_lines, y_columns, y_rounds, y_known, y_many, y_styleOf, y_markOf, y_words, y_width, y_note, y_status, y_styles, y_pages, y_stepKind, y_stepA, y_stepB, y_stepC, y_stepOn, y_ofParagraph, y_firstWord, y_wordsOf, y_slack, y_begin, y_needs, y_notes, y_columnOf, y_topOf, y_firstLine, y_label, y_labelWide, y_counter, y_refWide, y_nextWide, y_columnLine, y_columnLines, y_filled, y_foot) := fun r e => by
    have q := h _ _ _ _ _ _ _ _ _ (yh_0 e H); rw [e] at q; exact q
  unfold wpY_doMark
  refine yr_isT hd h2 H hv (fun z => br_t rfl (no _ (if_neg fun q => z q.1))) (fun z1 z2 => br_f (by decide) (yr_in (fun z => br_t rfl (no _ (if_neg fun q => z q.2))) (fun z3 z4 => br_f (by decide) ?_)))
  obtain ⟨j, hj, rfl⟩ := op_ix z1 (e0 ▸ z2) (by omega)
  have e : op_mrk (A d) (nI j) s = _ := if_pos ⟨⟨z1, z2⟩, ⟨z3, z4⟩⟩
  rw [nI_clamp (by omega)] at e
  have ep : (24 : Int32) * y_doc + nI j = nI (24 * d + j) := by rw [hd]; exact ad_yp _ _
  refine ⟨ix_in ep (by omega) (by omega), nm_r (by rw [ix_c ep (by omega)]) ?_⟩
  have q := h _ _ _ _ _ _ _ _ _ (by rw [e]; exact yu_markOf (v := s) H h2 (p := j) (by omega)); rw [e] at q; exact q
theorem yo_pag {post : Int32 → SY → Prop} {p s c : Int32} (hd : y_doc = nI d) (h2 : d < 2) (H : ya_A A y_many y_pages y_styles y_styleOf y_markOf y_words y_width y_note y_status)
    (h : ∀ y_many1 y_pages1 y_styles1 y_styleOf1 y_markOf1 y_words1 y_width1 y_note1 y_status1, ya_A (ya_s A d (op_pag (A d) p s c).2) y_many1 y_pages1 y_styles1 y_styleOf1 y_markOf1 y_words1 y_width1 y_note1 y_status1 → post (op_pag (A d) p s c).1 (y_doc, y_tracking, y_view, y_done, y_steps, y_lines, y_columns, y_rounds, y_known, y_many1, y_styleOf1, y_markOf1, y_words1, y_width1, y_note1, y_status1, y_styles1, y_pages1, y_stepKind, y_stepA, y_stepB, y_stepC, y_stepOn, y_ofParagraph, y_firstWord, y_wordsOf, y_slack, y_begin, y_needs, y_notes, y_columnOf, y_topOf, y_firstLine, y_label, y_labelWide, y_counter, y_refWide, y_nextWide, y_columnLine, y_columnLines, y_filled, y_foot)) : wpY_doPage post (y_doc, y_tracking, y_view, y_done, y_steps, y_lines, y_columns, y_rounds, y_known, y_many, y_styleOf, y_markOf, y_words, y_width, y_note, y_status, y_styles, y_pages, y_stepKind, y_stepA, y_stepB, y_stepC, y_stepOn, y_ofParagraph, y_firstWord, y_wordsOf, y_slack, y_begin, y_needs, y_notes, y_columnOf, y_topOf, y_firstLine, y_label, y_labelWide, y_counter, y_refWide, y_nextWide, y_columnLine, y_columnLines, y_filled, y_foot) p s c := by
  have no : ∀ r : Int32, op_pag (A d) p s c = (r, A d) → post r (y_doc, y_tracking, y_view, y_done, y_steps, y_lines, y_columns, y_rounds, y_known, y_many, y_styleOf, y_markOf, y_words, y_width, y_note, y_status, y_styles, y_pages, y_stepKind, y_stepA, y_stepB, y_stepC, y_stepOn, y_ofParagraph, y_firstWord, y_wordsOf, y_slack, y_begin, y_needs, y_notes, y_columnOf, y_topOf, y_firstLine, y_label, y_labelWide, y_counter, y_refWide, y_nextWide, y_columnLine, y_columnLines, y_filled, y_foot) := fun r e => by
    have q := h _ _ _ _ _ _ _ _ _ (yh_0 e H); rw [e] at q; exact q
  unfold wpY_doPage
  refine yr_in (fun z => br_t rfl (no _ (if_neg fun q => z q.1))) (fun z1 z2 => br_f (by decide) (yr_in (fun z => br_t rfl (no _ (if_neg fun q => z q.2.1))) (fun z3 z4 => br_f (by decide) (yr_in (fun z => br_t rfl (no _ (if_neg fun q => z q.2.2))) (fun z5 z6 => br_f (by decide) ?_)))))
  have e : op_pag (A d) p s c = _ := if_pos ⟨⟨z1, z2⟩, ⟨z3, z4⟩, ⟨z5, z6⟩⟩
  have e0 : (3 : Int32) * y_doc = nI (3 * d + 0) := by rw [hd]; exact pk_mul 3 d
  have e1 : (3 : Int32) * y_doc + 1 = nI (3 * d + 1) := by rw [e0]; exact nI_1 _
  have e2 : (3 : Int32) * y_doc + 2 = nI (3 * d + 2) := by rw [e0]; exact ad_2 _
  have H1 := yu_pages (v := p) H h2 (j := 0) (by omega)
  have H2 := yu_pages (v := s) H1 h2 (j := 1) (by omega)
  rw [ya_s2, ya_ss] at H2
  have H3 := yu_pages (v := c) H2 h2 (j := 2) (by omega)
  rw [ya_s2, ya_ss] at H3
  refine ⟨ix_in e0 (by omega) (by omega), nm_r (by rw [ix_c e0 (by omega)]) ⟨ix_in e1 (by omega) (by omega), nm_r (by rw [ix_c e1 (by omega)]) ⟨ix_in e2 (by omega) (by omega), nm_r (by rw [ix_c e2 (by omega)]) ?_⟩⟩⟩
  have q := h _ _ _ _ _ _ _ _ _ (by rw [e]; exact H3); rw [e] at q; exact q
theorem yr_lo {post : Int32 → Prop} {j : Nat} (hj : j < 12) (h : post (op_lo j)) : wpY_leastOf post (nI j) := by
  refine pk_eq j 2 (fun z => ?_) (fun z => pk_eq j 5 (fun y => ?_) (fun y => ?_))
  · subst z; exact h
  · subst y; exact h
  · unfold op_lo at h; rw [if_neg z, if_neg y] at h; exact h
theorem yr_hi {post : Int32 → Prop} {j : Nat} (hj : j < 12) (h : post (op_hi j)) : wpY_mostOf post (nI j) := by
  unfold op_hi at h
  refine pk_le 3 j (fun z => pk_le 5 j (fun y => pk_eq j 5 (fun w => ?_) (fun w => pk_le 8 j (fun x => ?_) (fun x => ?_))) (fun y => ?_)) (fun z => ?_)
  · rw [if_neg (by omega), if_neg (by omega), if_pos w] at h; exact h
  · rw [if_neg (by omega), if_neg (by omega), if_neg w, if_neg (by omega)] at h; exact h
  · rw [if_neg (by omega), if_neg (by omega), if_neg w, if_pos (by omega)] at h; exact h
  · rw [if_neg (by omega), if_pos (by omega)] at h; exact h
  · rw [if_pos (by omega)] at h; exact h
theorem yo_stl {post : Int32 → SY → Prop} {p t v : Int32} (hd : y_doc = nI d) (h2 : d < 2) (H : ya_A A y_many y_pages y_styles y_styleOf y_markOf y_words y_width y_note y_status)
    (h : ∀ y_many1 y_pages1 y_styles1 y_styleOf1 y_markOf1 y_words1 y_width1 y_note1 y_status1, ya_A (ya_s A d (op_stl (A d) p t v).2) y_many1 y_pages1 y_styles1 y_styleOf1 y_markOf1 y_words1 y_width1 y_note1 y_status1 → post (op_stl (A d) p t v).1 (y_doc, y_tracking, y_view, y_done, y_steps, y_lines, y_columns, y_rounds, y_known, y_many1, y_styleOf1, y_markOf1, y_words1, y_width1, y_note1, y_status1, y_styles1, y_pages1, y_stepKind, y_stepA, y_stepB, y_stepC, y_stepOn, y_ofParagraph, y_firstWord, y_wordsOf, y_slack, y_begin, y_needs, y_notes, y_columnOf, y_topOf, y_firstLine, y_label, y_labelWide, y_counter, y_refWide, y_nextWide, y_columnLine, y_columnLines, y_filled, y_foot)) : wpY_doStyle post (y_doc, y_tracking, y_view, y_done, y_steps, y_lines, y_columns, y_rounds, y_known, y_many, y_styleOf, y_markOf, y_words, y_width, y_note, y_status, y_styles, y_pages, y_stepKind, y_stepA, y_stepB, y_stepC, y_stepOn, y_ofParagraph, y_firstWord, y_wordsOf, y_slack, y_begin, y_needs, y_notes, y_columnOf, y_topOf, y_firstLine, y_label, y_labelWide, y_counter, y_refWide, y_nextWide, y_columnLine, y_columnLines, y_filled, y_foot) p t v := by
  have no : ∀ r : Int32, op_stl (A d) p t v = (r, A d) → post r (y_doc, y_tracking, y_view, y_done, y_steps, y_lines, y_columns, y_rounds, y_known, y_many, y_styleOf, y_markOf, y_words, y_width, y_note, y_status, y_styles, y_pages, y_stepKind, y_stepA, y_stepB, y_stepC, y_stepOn, y_ofParagraph, y_firstWord, y_wordsOf, y_slack, y_begin, y_needs, y_notes, y_columnOf, y_topOf, y_firstLine, y_label, y_labelWide, y_counter, y_refWide, y_nextWide, y_columnLine, y_columnLines, y_filled, y_foot) := fun r e => by
    have q := h _ _ _ _ _ _ _ _ _ (yh_0 e H); rw [e] at q; exact q
  unfold wpY_doStyle
  refine yr_in (fun z => br_t rfl (no _ (if_neg fun q => z q.1))) (fun z1 z2 => br_f (by decide) (yr_in (fun z => br_t rfl (no _ (if_neg fun q => z q.2.1))) (fun z3 z4 => br_f (by decide) ?_)))
  obtain ⟨j, hj, rfl⟩ := op_ix2 (n := 5) z1 z2 (by omega)
  obtain ⟨k, hk, rfl⟩ := op_ix2 (n := 11) z3 z4 (by omega)
  refine yr_lo (by omega) (yr_hi (by omega) (yr_in (fun z => br_t rfl ?_) (fun z5 z6 => br_f (by decide) ?_)))
  · exact no _ (if_neg fun q => z (by have q2 := q.2.2; rw [nI_clamp (by omega)] at q2; exact q2))
  · have e : op_stl (A d) (nI j) (nI k) v = _ := if_pos ⟨⟨z1, z2⟩, ⟨z3, z4⟩, by rw [nI_clamp (by omega)]; exact ⟨z5, z6⟩⟩
    rw [nI_clamp (by omega), nI_clamp (by omega)] at e
    have ea : (72 : Int32) * y_doc + 12 * nI j + nI k = nI (72 * d + (12 * j + k)) := by rw [hd]; exact (ad_ys _ _ _).trans (congrArg nI (by omega))
    have H1 := yu_styles (v := v) H h2 (j := 12 * j + k) (by omega)
    rw [show 4 + (12 * j + k) = 4 + 12 * j + k from by omega] at H1
    refine ⟨ix_in ea (by omega) (by omega), nm_r (by rw [ix_c ea (by omega)]) ?_⟩
    have q := h _ _ _ _ _ _ _ _ _ (by rw [e]; exact H1); rw [e] at q; exact q
