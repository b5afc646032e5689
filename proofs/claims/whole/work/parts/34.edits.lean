theorem op_g0 {p b c on : Int32} {a : Nat → Int32} : op_go 0 p b c on a = op_ins a p b := if_pos rfl
theorem op_g1 {p b c on : Int32} {a : Nat → Int32} : op_go 1 p b c on a = op_rem a p := (if_neg (by decide)).trans (if_pos rfl)
theorem op_g2 {p b c on : Int32} {a : Nat → Int32} : op_go 2 p b c on a = op_sty a p b := (if_neg (by decide)).trans ((if_neg (by decide)).trans (if_pos rfl))
theorem op_g3 {p b c on : Int32} {a : Nat → Int32} : op_go 3 p b c on a = op_mrk a p b := (if_neg (by decide)).trans ((if_neg (by decide)).trans ((if_neg (by decide)).trans (if_pos rfl)))
theorem op_g4 {p b c on : Int32} {a : Nat → Int32} : op_go 4 p b c on a = op_add a p b c on := (if_neg (by decide)).trans ((if_neg (by decide)).trans ((if_neg (by decide)).trans ((if_neg (by decide)).trans (if_pos rfl))))
theorem op_g5 {p b c on : Int32} {a : Nat → Int32} : op_go 5 p b c on a = op_drp a p on := (if_neg (by decide)).trans ((if_neg (by decide)).trans ((if_neg (by decide)).trans ((if_neg (by decide)).trans ((if_neg (by decide)).trans (if_pos rfl)))))
theorem op_g6 {p b c on : Int32} {a : Nat → Int32} : op_go 6 p b c on a = op_stl a p b c := (if_neg (by decide)).trans ((if_neg (by decide)).trans ((if_neg (by decide)).trans ((if_neg (by decide)).trans ((if_neg (by decide)).trans ((if_neg (by decide)).trans (if_pos rfl))))))
theorem op_g7 {p b c on : Int32} {a : Nat → Int32} : op_go 7 p b c on a = op_pag a p b c := (if_neg (by decide)).trans ((if_neg (by decide)).trans ((if_neg (by decide)).trans ((if_neg (by decide)).trans ((if_neg (by decide)).trans ((if_neg (by decide)).trans ((if_neg (by decide)).trans (if_pos rfl)))))))
theorem op_g8 {p b c on : Int32} {a : Nat → Int32} : op_go 8 p b c on a = op_res a p (if b = 1 then 1 else 0) := (if_neg (by decide)).trans ((if_neg (by decide)).trans ((if_neg (by decide)).trans ((if_neg (by decide)).trans ((if_neg (by decide)).trans ((if_neg (by decide)).trans ((if_neg (by decide)).trans (if_neg (by decide))))))))
theorem dc_rs0 {p : Nat} {un : Int32} (hu : ¬ (0 : Int32) = un) : ∀ {w : Nat} {a : Nat → Int32}, dc_cg a p w = 0 → dc_rs p un w a = a
  | 0, _, _ => rfl
  | w + 1, a, h => by
    have h' : dc_cg a p w + (if a (81 + 51 * p + 3 * w) = 0 then 0 else 1) = 0 := h
    have z : a (81 + 51 * p + 3 * w) = 0 := by
      by_cases q : a (81 + 51 * p + 3 * w) = 0
      · exact q
      · rw [if_neg q] at h'; omega
    show dc_rs p un w (if a (81 + 51 * p + 3 * w) = un then dc_tk a p w else upd a (81 + 51 * p + 3 * w) 0) = a
    rw [if_neg (by rw [z]; exact hu), op_upd2 z]
    exact dc_rs0 hu (by omega)
theorem dc_cgL {a : Nat → Int32} {p : Nat} : ∀ {w : Nat}, dc_cg a p w ≤ w
  | 0 => Nat.le_refl _
  | w + 1 => by have := dc_cgL (a := a) (p := p) (w := w); unfold dc_cg; split <;> omega
theorem op_res0 {a : Nat → Int32} {p ac r : Int32} {e : Nat → Int32} (hv : dc_V a) (h : op_res a p ac = (r, e)) (hr : r < 0 ∨ r = 0) : e = a := by
  unfold op_res at h
  obtain ⟨e0, h24⟩ := dc_Vn hv
  split at h
  · rename_i c
    obtain ⟨j, hj, rfl⟩ := op_ix c.1 (e0 ▸ c.2) (by omega)
    rw [nI_clamp (by omega)] at h
    have h16 := (dc_Vw hv (p := j) (by omega)).2
    have hc := dc_cgL (a := a) (p := j) (w := dc_w a j)
    have h1 := congrArg Prod.fst h
    have h2 := congrArg Prod.snd h
    have h1' : nI (dc_cg a j (dc_w a j)) = r := h1
    have z : dc_cg a j (dc_w a j) = 0 := by
      rw [← h1'] at hr
      rcases hr with q | q
      · exact absurd q (nI_pos (by omega))
      · exact (nI_eq (b := 0) (by omega) (by omega)).mp q
    have h2' : dc_rs j (if ac = 0 then 1 else 2) (dc_w a j) a = e := h2
    rw [← h2']
    exact dc_rs0 (by split <;> decide) z
  · exact (congrArg Prod.snd h).symm
variable {x_tracking x_view x_slotNow x_stepsBack x_stepsAgain x_stale x_rounds x_columnCount : Int32} {x_doc x_kept x_referenceWidth x_labelValue x_labelWidth x_lineCount x_gapBefore x_headNeeds x_groupNeeds x_wordLine x_wordLeft x_lineFirst x_lineWords x_lineLeft x_lineSlack x_lineNotes x_lineColumn x_lineTop x_columnParagraph x_columnFirst x_columnLines x_columnNotes x_columnFilled : Nat → Int32} {y_doc y_tracking y_view y_done y_steps y_lines y_columns y_rounds y_known : Int32} {y_many y_styleOf y_markOf y_words y_width y_note y_status y_styles y_pages y_stepKind y_stepA y_stepB y_stepC y_stepOn y_ofParagraph y_firstWord y_wordsOf y_slack y_begin y_needs y_notes y_columnOf y_topOf y_firstLine y_label y_labelWide y_counter y_refWide y_nextWide y_columnLine y_columnLines y_filled y_foot : Nat → Int32}
theorem re_f {k : Nat} (I : i_Rel k (x_tracking, x_view, x_slotNow, x_stepsBack, x_stepsAgain, x_stale, x_rounds, x_columnCount, x_doc, x_kept, x_referenceWidth, x_labelValue, x_labelWidth, x_lineCount, x_gapBefore, x_headNeeds, x_groupNeeds, x_wordLine, x_wordLeft, x_lineFirst, x_lineWords, x_lineLeft, x_lineSlack, x_lineNotes, x_lineColumn, x_lineTop, x_columnParagraph, x_columnFirst, x_columnLines, x_columnNotes, x_columnFilled) (y_doc, y_tracking, y_view, y_done, y_steps, y_lines, y_columns, y_rounds, y_known, y_many, y_styleOf, y_markOf, y_words, y_width, y_note, y_status, y_styles, y_pages, y_stepKind, y_stepA, y_stepB, y_stepC, y_stepOn, y_ofParagraph, y_firstWord, y_wordsOf, y_slack, y_begin, y_needs, y_notes, y_columnOf, y_topOf, y_firstLine, y_label, y_labelWide, y_counter, y_refWide, y_nextWide, y_columnLine, y_columnLines, y_filled, y_foot)) : ∃ s n, x_slotNow = nI s ∧ s < 21 ∧ x_stepsBack = nI n ∧ n ≤ 20 ∧ dc_V x_doc := by
  obtain ⟨_, ⟨b, g, s, D, S1, S2, S3, S4, S5, _⟩, _⟩ := I
  exact ⟨s, b, S1.1, S1.2, S2.1, by omega, by rw [S5]; exact S4 b (by omega)⟩
theorem i_vc_insert {k : Nat} {u : SX} {v : SY} (I : i_Rel k u v) (hk : k + 4 ≤ 2048) (v1 : Int32) (v2 : Int32) : wpX_insert (fun r u' => wpY_insert (fun r' v' => r' = r ∧ i_Rel (k + 4) u' v') v v1 v2) u v1 v2 := by
  obtain ⟨x_tracking, x_view, x_slotNow, x_stepsBack, x_stepsAgain, x_stale, x_rounds, x_columnCount, x_doc, x_kept, x_referenceWidth, x_labelValue, x_labelWidth, x_lineCount, x_gapBefore, x_headNeeds, x_groupNeeds, x_wordLine, x_wordLeft, x_lineFirst, x_lineWords, x_lineLeft, x_lineSlack, x_lineNotes, x_lineColumn, x_lineTop, x_columnParagraph, x_columnFirst, x_columnLines, x_columnNotes, x_columnFilled⟩ := u
  obtain ⟨y_doc, y_tracking, y_view, y_done, y_steps, y_lines, y_columns, y_rounds, y_known, y_many, y_styleOf, y_markOf, y_words, y_width, y_note, y_status, y_styles, y_pages, y_stepKind, y_stepA, y_stepB, y_stepC, y_stepOn, y_ofParagraph, y_firstWord, y_wordsOf, y_slack, y_begin, y_needs, y_notes, y_columnOf, y_topOf, y_firstLine, y_label, y_labelWide, y_counter, y_refWide, y_nextWide, y_columnLine, y_columnLines, y_filled, y_foot⟩ := v
  obtain ⟨s, n, hs, h21, hn, h20, hv⟩ := re_f I
  refine xo_ins hs h21 hn h20 hv (fun r e hr => ?_) (fun r a e hr => ?_)
  · unfold wpY_insert
    exact re_no I (op_g0.trans e) (Or.inl hr) rfl (fun _ _ _ _ _ _ _ _ _ J => ⟨rfl, J⟩)
  · unfold wpY_insert
    exact re_ok hs h21 hn h20 I (op_g0.trans e) (fun q => q.elim hr (fun q => absurd q.1 (by decide))) (fun _ _ _ _ _ _ _ _ _ _ _ _ _ _ _ _ _ _ J => ⟨rfl, J⟩)
theorem i_vc_remove {k : Nat} {u : SX} {v : SY} (I : i_Rel k u v) (hk : k + 4 ≤ 2048) (v1 : Int32) : wpX_remove (fun r u' => wpY_remove (fun r' v' => r' = r ∧ i_Rel (k + 4) u' v') v v1) u v1 := by
  obtain ⟨x_tracking, x_view, x_slotNow, x_stepsBack, x_stepsAgain, x_stale, x_rounds, x_columnCount, x_doc, x_kept, x_referenceWidth, x_labelValue, x_labelWidth, x_lineCount, x_gapBefore, x_headNeeds, x_groupNeeds, x_wordLine, x_wordLeft, x_lineFirst, x_lineWords, x_lineLeft, x_lineSlack, x_lineNotes, x_lineColumn, x_lineTop, x_columnParagraph, x_columnFirst, x_columnLines, x_columnNotes, x_columnFilled⟩ := u
  obtain ⟨y_doc, y_tracking, y_view, y_done, y_steps, y_lines, y_columns, y_rounds, y_known, y_many, y_styleOf, y_markOf, y_words, y_width, y_note, y_status, y_styles, y_pages, y_stepKind, y_stepA, y_stepB, y_stepC, y_stepOn, y_ofParagraph, y_firstWord, y_wordsOf, y_slack, y_begin, y_needs, y_notes, y_columnOf, y_topOf, y_firstLine, y_label, y_labelWide, y_counter, y_refWide, y_nextWide, y_columnLine, y_columnLines, y_filled, y_foot⟩ := v
  obtain ⟨s, n, hs, h21, hn, h20, hv⟩ := re_f I
  refine xo_rem hs h21 hn h20 hv (fun r e hr => ?_) (fun r a e hr => ?_)
  · unfold wpY_remove
    exact re_no I (op_g1.trans e) (Or.inl hr) rfl (fun _ _ _ _ _ _ _ _ _ J => ⟨rfl, J⟩)
  · unfold wpY_remove
    exact re_ok hs h21 hn h20 I (op_g1.trans e) (fun q => q.elim hr (fun q => absurd q.1 (by decide))) (fun _ _ _ _ _ _ _ _ _ _ _ _ _ _ _ _ _ _ J => ⟨rfl, J⟩)
theorem i_vc_add {k : Nat} {u : SX} {v : SY} (I : i_Rel k u v) (hk : k + 4 ≤ 2048) (v1 : Int32) (v2 : Int32) (v3 : Int32) : wpX_add (fun r u' => wpY_add (fun r' v' => r' = r ∧ i_Rel (k + 4) u' v') v v1 v2 v3) u v1 v2 v3 := by
  obtain ⟨x_tracking, x_view, x_slotNow, x_stepsBack, x_stepsAgain, x_stale, x_rounds, x_columnCount, x_doc, x_kept, x_referenceWidth, x_labelValue, x_labelWidth, x_lineCount, x_gapBefore, x_headNeeds, x_groupNeeds, x_wordLine, x_wordLeft, x_lineFirst, x_lineWords, x_lineLeft, x_lineSlack, x_lineNotes, x_lineColumn, x_lineTop, x_columnParagraph, x_columnFirst, x_columnLines, x_columnNotes, x_columnFilled⟩ := u
  obtain ⟨y_doc, y_tracking, y_view, y_done, y_steps, y_lines, y_columns, y_rounds, y_known, y_many, y_styleOf, y_markOf, y_words, y_width, y_note, y_status, y_styles, y_pages, y_stepKind, y_stepA, y_stepB, y_stepC, y_stepOn, y_ofParagraph, y_firstWord, y_wordsOf, y_slack, y_begin, y_needs, y_notes, y_columnOf, y_topOf, y_firstLine, y_label, y_labelWide, y_counter, y_refWide, y_nextWide, y_columnLine, y_columnLines, y_filled, y_foot⟩ := v
  obtain ⟨s, n, hs, h21, hn, h20, hv⟩ := re_f I
  refine xo_add hs h21 hn h20 hv (fun r e hr => ?_) (fun r a e hr => ?_)
  · unfold wpY_add
    exact re_no I (op_g4.trans e) (Or.inl hr) rfl (fun _ _ _ _ _ _ _ _ _ J => ⟨rfl, J⟩)
  · unfold wpY_add
    exact re_ok hs h21 hn h20 I (op_g4.trans e) (fun q => q.elim hr (fun q => absurd q.1 (by decide))) (fun _ _ _ _ _ _ _ _ _ _ _ _ _ _ _ _ _ _ J => ⟨rfl, J⟩)
theorem i_vc_drop {k : Nat} {u : SX} {v : SY} (I : i_Rel k u v) (hk : k + 4 ≤ 2048) (v1 : Int32) : wpX_drop (fun r u' => wpY_drop (fun r' v' => r' = r ∧ i_Rel (k + 4) u' v') v v1) u v1 := by
  obtain ⟨x_tracking, x_view, x_slotNow, x_stepsBack, x_stepsAgain, x_stale, x_rounds, x_columnCount, x_doc, x_kept, x_referenceWidth, x_labelValue, x_labelWidth, x_lineCount, x_gapBefore, x_headNeeds, x_groupNeeds, x_wordLine, x_wordLeft, x_lineFirst, x_lineWords, x_lineLeft, x_lineSlack, x_lineNotes, x_lineColumn, x_lineTop, x_columnParagraph, x_columnFirst, x_columnLines, x_columnNotes, x_columnFilled⟩ := u
  obtain ⟨y_doc, y_tracking, y_view, y_done, y_steps, y_lines, y_columns, y_rounds, y_known, y_many, y_styleOf, y_markOf, y_words, y_width, y_note, y_status, y_styles, y_pages, y_stepKind, y_stepA, y_stepB, y_stepC, y_stepOn, y_ofParagraph, y_firstWord, y_wordsOf, y_slack, y_begin, y_needs, y_notes, y_columnOf, y_topOf, y_firstLine, y_label, y_labelWide, y_counter, y_refWide, y_nextWide, y_columnLine, y_columnLines, y_filled, y_foot⟩ := v
  obtain ⟨s, n, hs, h21, hn, h20, hv⟩ := re_f I
  refine xo_drp hs h21 hn h20 hv (fun r e hr => ?_) (fun r a e hr => ?_)
  · unfold wpY_drop
    exact re_no I (op_g5.trans e) (Or.inl hr) rfl (fun _ _ _ _ _ _ _ _ _ J => ⟨rfl, J⟩)
  · unfold wpY_drop
    exact re_ok hs h21 hn h20 I (op_g5.trans e) (fun q => q.elim hr (fun q => absurd q.1 (by decide))) (fun _ _ _ _ _ _ _ _ _ _ _ _ _ _ _ _ _ _ J => ⟨rfl, J⟩)
theorem i_vc_restyle {k : Nat} {u : SX} {v : SY} (I : i_Rel k u v) (hk : k + 4 ≤ 2048) (v1 : Int32) (v2 : Int32) : wpX_restyle (fun r u' => wpY_restyle (fun r' v' => r' = r ∧ i_Rel (k + 4) u' v') v v1 v2) u v1 v2 := by
  obtain ⟨x_tracking, x_view, x_slotNow, x_stepsBack, x_stepsAgain, x_stale, x_rounds, x_columnCount, x_doc, x_kept, x_referenceWidth, x_labelValue, x_labelWidth, x_lineCount, x_gapBefore, x_headNeeds, x_groupNeeds, x_wordLine, x_wordLeft, x_lineFirst, x_lineWords, x_lineLeft, x_lineSlack, x_lineNotes, x_lineColumn, x_lineTop, x_columnParagraph, x_columnFirst, x_columnLines, x_columnNotes, x_columnFilled⟩ := u
  obtain ⟨y_doc, y_tracking, y_view, y_done, y_steps, y_lines, y_columns, y_rounds, y_known, y_many, y_styleOf, y_markOf, y_words, y_width, y_note, y_status, y_styles, y_pages, y_stepKind, y_stepA, y_stepB, y_stepC, y_stepOn, y_ofParagraph, y_firstWord, y_wordsOf, y_slack, y_begin, y_needs, y_notes, y_columnOf, y_topOf, y_firstLine, y_label, y_labelWide, y_counter, y_refWide, y_nextWide, y_columnLine, y_columnLines, y_filled, y_foot⟩ := v
  obtain ⟨s, n, hs, h21, hn, h20, hv⟩ := re_f I
  refine xo_sty hs h21 hn h20 hv (fun e => ?_) (fun a e => ?_)
  · unfold wpY_restyle
    exact re_no I (op_g2.trans e) (Or.inl (by decide)) rfl (fun _ _ _ _ _ _ _ _ _ J => br_f (by decide) ⟨rfl, J⟩)
  · unfold wpY_restyle
    exact re_ok hs h21 hn h20 I (op_g2.trans e) (by decide) (fun _ _ _ _ _ _ _ _ _ _ _ _ _ _ _ _ _ _ J => br_t rfl ⟨rfl, J⟩)
theorem i_vc_mark {k : Nat} {u : SX} {v : SY} (I : i_Rel k u v) (hk : k + 4 ≤ 2048) (v1 : Int32) (v2 : Int32) : wpX_mark (fun r u' => wpY_mark (fun r' v' => r' = r ∧ i_Rel (k + 4) u' v') v v1 v2) u v1 v2 := by
  obtain ⟨x_tracking, x_view, x_slotNow, x_stepsBack, x_stepsAgain, x_stale, x_rounds, x_columnCount, x_doc, x_kept, x_referenceWidth, x_labelValue, x_labelWidth, x_lineCount, x_gapBefore, x_headNeeds, x_groupNeeds, x_wordLine, x_wordLeft, x_lineFirst, x_lineWords, x_lineLeft, x_lineSlack, x_lineNotes, x_lineColumn, x_lineTop, x_columnParagraph, x_columnFirst, x_columnLines, x_columnNotes, x_columnFilled⟩ := u
  obtain ⟨y_doc, y_tracking, y_view, y_done, y_steps, y_lines, y_columns, y_rounds, y_known, y_many, y_styleOf, y_markOf, y_words, y_width, y_note, y_status, y_styles, y_pages, y_stepKind, y_stepA, y_stepB, y_stepC, y_stepOn, y_ofParagraph, y_firstWord, y_wordsOf, y_slack, y_begin, y_needs, y_notes, y_columnOf, y_topOf, y_firstLine, y_label, y_labelWide, y_counter, y_refWide, y_nextWide, y_columnLine, y_columnLines, y_filled, y_foot⟩ := v
  obtain ⟨s, n, hs, h21, hn, h20, hv⟩ := re_f I
  refine xo_mrk hs h21 hn h20 hv (fun e => ?_) (fun a e => ?_)
  · unfold wpY_mark
    exact re_no I (op_g3.trans e) (Or.inl (by decide)) rfl (fun _ _ _ _ _ _ _ _ _ J => br_f (by decide) ⟨rfl, J⟩)
  · unfold wpY_mark
    exact re_ok hs h21 hn h20 I (op_g3.trans e) (by decide) (fun _ _ _ _ _ _ _ _ _ _ _ _ _ _ _ _ _ _ J => br_t rfl ⟨rfl, J⟩)
theorem i_vc_style {k : Nat} {u : SX} {v : SY} (I : i_Rel k u v) (hk : k + 4 ≤ 2048) (v1 : Int32) (v2 : Int32) (v3 : Int32) : wpX_style (fun r u' => wpY_style (fun r' v' => r' = r ∧ i_Rel (k + 4) u' v') v v1 v2 v3) u v1 v2 v3 := by
  obtain ⟨x_tracking, x_view, x_slotNow, x_stepsBack, x_stepsAgain, x_stale, x_rounds, x_columnCount, x_doc, x_kept, x_referenceWidth, x_labelValue, x_labelWidth, x_lineCount, x_gapBefore, x_headNeeds, x_groupNeeds, x_wordLine, x_wordLeft, x_lineFirst, x_lineWords, x_lineLeft, x_lineSlack, x_lineNotes, x_lineColumn, x_lineTop, x_columnParagraph, x_columnFirst, x_columnLines, x_columnNotes, x_columnFilled⟩ := u
  obtain ⟨y_doc, y_tracking, y_view, y_done, y_steps, y_lines, y_columns, y_rounds, y_known, y_many, y_styleOf, y_markOf, y_words, y_width, y_note, y_status, y_styles, y_pages, y_stepKind, y_stepA, y_stepB, y_stepC, y_stepOn, y_ofParagraph, y_firstWord, y_wordsOf, y_slack, y_begin, y_needs, y_notes, y_columnOf, y_topOf, y_firstLine, y_label, y_labelWide, y_counter, y_refWide, y_nextWide, y_columnLine, y_columnLines, y_filled, y_foot⟩ := v
  obtain ⟨s, n, hs, h21, hn, h20, hv⟩ := re_f I
  refine xo_stl hs h21 hn h20 (fun e => ?_) (fun a e => ?_)
  · unfold wpY_style
    exact re_no I (op_g6.trans e) (Or.inl (by decide)) rfl (fun _ _ _ _ _ _ _ _ _ J => br_f (by decide) ⟨rfl, J⟩)
  · unfold wpY_style
    exact re_ok hs h21 hn h20 I (op_g6.trans e) (by decide) (fun _ _ _ _ _ _ _ _ _ _ _ _ _ _ _ _ _ _ J => br_t rfl ⟨rfl, J⟩)
theorem i_vc_page {k : Nat} {u : SX} {v : SY} (I : i_Rel k u v) (hk : k + 4 ≤ 2048) (v1 : Int32) (v2 : Int32) (v3 : Int32) : wpX_page (fun r u' => wpY_page (fun r' v' => r' = r ∧ i_Rel (k + 4) u' v') v v1 v2 v3) u v1 v2 v3 := by
  obtain ⟨x_tracking, x_view, x_slotNow, x_stepsBack, x_stepsAgain, x_stale, x_rounds, x_columnCount, x_doc, x_kept, x_referenceWidth, x_labelValue, x_labelWidth, x_lineCount, x_gapBefore, x_headNeeds, x_groupNeeds, x_wordLine, x_wordLeft, x_lineFirst, x_lineWords, x_lineLeft, x_lineSlack, x_lineNotes, x_lineColumn, x_lineTop, x_columnParagraph, x_columnFirst, x_columnLines, x_columnNotes, x_columnFilled⟩ := u
  obtain ⟨y_doc, y_tracking, y_view, y_done, y_steps, y_lines, y_columns, y_rounds, y_known, y_many, y_styleOf, y_markOf, y_words, y_width, y_note, y_status, y_styles, y_pages, y_stepKind, y_stepA, y_stepB, y_stepC, y_stepOn, y_ofParagraph, y_firstWord, y_wordsOf, y_slack, y_begin, y_needs, y_notes, y_columnOf, y_topOf, y_firstLine, y_label, y_labelWide, y_counter, y_refWide, y_nextWide, y_columnLine, y_columnLines, y_filled, y_foot⟩ := v
  obtain ⟨s, n, hs, h21, hn, h20, hv⟩ := re_f I
  refine xo_pag hs h21 hn h20 (fun e => ?_) (fun a e => ?_)
  · unfold wpY_page
    exact re_no I (op_g7.trans e) (Or.inl (by decide)) rfl (fun _ _ _ _ _ _ _ _ _ J => br_f (by decide) ⟨rfl, J⟩)
  · unfold wpY_page
    exact re_ok hs h21 hn h20 I (op_g7.trans e) (by decide) (fun _ _ _ _ _ _ _ _ _ _ _ _ _ _ _ _ _ _ J => br_t rfl ⟨rfl, J⟩)
theorem i_vc_resolve {k : Nat} {u : SX} {v : SY} (I : i_Rel k u v) (hk : k + 4 ≤ 2048) (v1 : Int32) (v2 : Int32) : wpX_resolve (fun r u' => wpY_resolve (fun r' v' => r' = r ∧ i_Rel (k + 4) u' v') v v1 (lw_bz v2)) u v1 (lw_bz v2) := by
  obtain ⟨x_tracking, x_view, x_slotNow, x_stepsBack, x_stepsAgain, x_stale, x_rounds, x_columnCount, x_doc, x_kept, x_referenceWidth, x_labelValue, x_labelWidth, x_lineCount, x_gapBefore, x_headNeeds, x_groupNeeds, x_wordLine, x_wordLeft, x_lineFirst, x_lineWords, x_lineLeft, x_lineSlack, x_lineNotes, x_lineColumn, x_lineTop, x_columnParagraph, x_columnFirst, x_columnLines, x_columnNotes, x_columnFilled⟩ := u
  obtain ⟨y_doc, y_tracking, y_view, y_done, y_steps, y_lines, y_columns, y_rounds, y_known, y_many, y_styleOf, y_markOf, y_words, y_width, y_note, y_status, y_styles, y_pages, y_stepKind, y_stepA, y_stepB, y_stepC, y_stepOn, y_ofParagraph, y_firstWord, y_wordsOf, y_slack, y_begin, y_needs, y_notes, y_columnOf, y_topOf, y_firstLine, y_label, y_labelWide, y_counter, y_refWide, y_nextWide, y_columnLine, y_columnLines, y_filled, y_foot⟩ := v
  obtain ⟨s, n, hs, h21, hn, h20, hv⟩ := re_f I
  have go : ∀ z0 : Int32, (if z0 = 1 then (1 : Int32) else 0) = lw_bz v2 → ∀ r a, op_res x_doc v1 (lw_bz v2) = (r, a) → op_go 8 v1 z0 0 x_tracking x_doc = (r, a) := fun z0 ez r a e => by
    rw [op_g8, ez]; exact e
  refine xo_res hs h21 hn h20 hv (fun r a e hr => ?_) (fun r a e hr => ?_)
  · have no : ∀ z0 : Int32, (if z0 = 1 then (1 : Int32) else 0) = lw_bz v2 → wpY_go (fun r' v' => r' = r ∧ i_Rel (k + 4) (x_tracking, x_view, x_slotNow, x_stepsBack, x_stepsAgain, x_stale, x_rounds, x_columnCount, x_doc, x_kept, x_referenceWidth, x_labelValue, x_labelWidth, x_lineCount, x_gapBefore, x_headNeeds, x_groupNeeds, x_wordLine, x_wordLeft, x_lineFirst, x_lineWords, x_lineLeft, x_lineSlack, x_lineNotes, x_lineColumn, x_lineTop, x_columnParagraph, x_columnFirst, x_columnLines, x_columnNotes, x_columnFilled) v') (y_doc, y_tracking, y_view, y_done, y_steps, y_lines, y_columns, y_rounds, y_known, y_many, y_styleOf, y_markOf, y_words, y_width, y_note, y_status, y_styles, y_pages, y_stepKind, y_stepA, y_stepB, y_stepC, y_stepOn, y_ofParagraph, y_firstWord, y_wordsOf, y_slack, y_begin, y_needs, y_notes, y_columnOf, y_topOf, y_firstLine, y_label, y_labelWide, y_counter, y_refWide, y_nextWide, y_columnLine, y_columnLines, y_filled, y_foot) 8 v1 z0 0 := fun z0 ez =>
      re_no I (go z0 ez r a e) (hr.imp id (fun q => ⟨rfl, q⟩)) (op_res0 hv e hr) (fun _ _ _ _ _ _ _ _ _ J => ⟨rfl, J⟩)
    exact br_c (fun z => no 0 (by rw [z]; rfl)) (fun z => no 1 (by rw [(lw_bz_01 v2).resolve_left z]; rfl))
  · have ok : ∀ z0 : Int32, (if z0 = 1 then (1 : Int32) else 0) = lw_bz v2 → wpY_go (fun r' v' => r' = r ∧ i_Rel (k + 4) (x_tracking, x_view, (nI ((s + 1) % 21)), (nI (if n < 20 then n + 1 else n)), 0, 1, x_rounds, x_columnCount, a, (st_b x_kept (1300 * ((s + 1) % 21)) 1300 a), x_referenceWidth, x_labelValue, x_labelWidth, x_lineCount, x_gapBefore, x_headNeeds, x_groupNeeds, x_wordLine, x_wordLeft, x_lineFirst, x_lineWords, x_lineLeft, x_lineSlack, x_lineNotes, x_lineColumn, x_lineTop, x_columnParagraph, x_columnFirst, x_columnLines, x_columnNotes, x_columnFilled) v') (y_doc, y_tracking, y_view, y_done, y_steps, y_lines, y_columns, y_rounds, y_known, y_many, y_styleOf, y_markOf, y_words, y_width, y_note, y_status, y_styles, y_pages, y_stepKind, y_stepA, y_stepB, y_stepC, y_stepOn, y_ofParagraph, y_firstWord, y_wordsOf, y_slack, y_begin, y_needs, y_notes, y_columnOf, y_topOf, y_firstLine, y_label, y_labelWide, y_counter, y_refWide, y_nextWide, y_columnLine, y_columnLines, y_filled, y_foot) 8 v1 z0 0 := fun z0 ez =>
      re_ok hs h21 hn h20 I (go z0 ez r a e) (fun q => hr (q.imp id (fun q => q.2))) (fun _ _ _ _ _ _ _ _ _ _ _ _ _ _ _ _ _ _ J => ⟨rfl, J⟩)
    exact br_c (fun z => ok 0 (by rw [z]; rfl)) (fun z => ok 1 (by rw [(lw_bz_01 v2).resolve_left z]; rfl))
theorem i_vc_track {k : Nat} {u : SX} {v : SY} (I : i_Rel k u v) (hk : k + 4 ≤ 2048) (v1 : Int32) (v2 : Int32) : wpX_track (fun r u' => wpY_track (fun r' v' => r' = r ∧ i_Rel (k + 4) u' v') v (lw_bz v1) v2) u (lw_bz v1) v2 := by
  obtain ⟨x_tracking, x_view, x_slotNow, x_stepsBack, x_stepsAgain, x_stale, x_rounds, x_columnCount, x_doc, x_kept, x_referenceWidth, x_labelValue, x_labelWidth, x_lineCount, x_gapBefore, x_headNeeds, x_groupNeeds, x_wordLine, x_wordLeft, x_lineFirst, x_lineWords, x_lineLeft, x_lineSlack, x_lineNotes, x_lineColumn, x_lineTop, x_columnParagraph, x_columnFirst, x_columnLines, x_columnNotes, x_columnFilled⟩ := u
  obtain ⟨y_doc, y_tracking, y_view, y_done, y_steps, y_lines, y_columns, y_rounds, y_known, y_many, y_styleOf, y_markOf, y_words, y_width, y_note, y_status, y_styles, y_pages, y_stepKind, y_stepA, y_stepB, y_stepC, y_stepOn, y_ofParagraph, y_firstWord, y_wordsOf, y_slack, y_begin, y_needs, y_notes, y_columnOf, y_topOf, y_firstLine, y_label, y_labelWide, y_counter, y_refWide, y_nextWide, y_columnLine, y_columnLines, y_filled, y_foot⟩ := v
  have hb := lw_bz_01 v1
  refine xo_track hb (fun z => ?_) (fun z => ?_)
  · unfold wpY_track
    exact yr_in (fun _ => br_t rfl ⟨rfl, I⟩) (fun z1 z2 => absurd ⟨z1, z2⟩ z)
  · unfold wpY_track
    refine yr_in (fun q => absurd z q) (fun z1 z2 => br_f (by decide) ⟨?_, ?_, rfl, ?_⟩)
    · rcases hb with q | q <;> (rw [q]; rfl)
    · rcases hb with q | q <;> (rw [q]; rfl)
    · obtain ⟨⟨i1, i2, i3⟩, S, _⟩ := I
      exact ⟨⟨rfl, hb, i3⟩, S, rfl, Or.inr rfl, Or.inl rfl, fun q => absurd q (by decide), fun q => absurd q (by decide)⟩
