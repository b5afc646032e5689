variable {x_tracking x_view x_slotNow x_stepsBack x_stepsAgain x_stale x_rounds x_columnCount : Int32} {x_doc x_kept x_referenceWidth x_labelValue x_labelWidth x_lineCount x_gapBefore x_headNeeds x_groupNeeds x_wordLine x_wordLeft x_lineFirst x_lineWords x_lineLeft x_lineSlack x_lineNotes x_lineColumn x_lineTop x_columnParagraph x_columnFirst x_columnLines x_columnNotes x_columnFilled : Nat → Int32}
/-- remove -/
theorem xs_remL {post : Int32 → SX → Prop} {b s m : Nat} (hs : x_slotNow = nI s) (h21 : s < 21) (hb : x_stepsBack = nI b) (h20 : b ≤ 20) (hm : m < 24) : ∀ (d q : Nat) (x_doc : Nat → Int32), q + d = m →
    (∀ e, e = upd (dc_rL x_doc q d) 0 (nI m) →
      post (nI m) (x_tracking, x_view, (nI ((s + 1) % 21)), (nI (if b < 20 then b + 1 else b)), 0, 1, x_rounds, x_columnCount, e, (st_b x_kept (1300 * ((s + 1) % 21)) 1300 e), x_referenceWidth, x_labelValue, x_labelWidth, x_lineCount, x_gapBefore, x_headNeeds, x_groupNeeds, x_wordLine, x_wordLeft, x_lineFirst, x_lineWords, x_lineLeft, x_lineSlack, x_lineNotes, x_lineColumn, x_lineTop, x_columnParagraph, x_columnFirst, x_columnLines, x_columnNotes, x_columnFilled)) →
    wX_remove_21 post (nI m) (d + 1) (nI q) x_tracking x_view x_slotNow x_stepsBack x_stepsAgain x_stale x_rounds x_columnCount x_doc x_kept x_referenceWidth x_labelValue x_labelWidth x_lineCount x_gapBefore x_headNeeds x_groupNeeds x_wordLine x_wordLeft x_lineFirst x_lineWords x_lineLeft x_lineSlack x_lineNotes x_lineColumn x_lineTop x_columnParagraph x_columnFirst x_columnLines x_columnNotes x_columnFilled
  | 0, q, x_doc, hd, h => by
    exact br_t (nI_le (by omega) (by omega)) (nm_e (xs_keep hs h21 hb h20 (h _ rfl)))
  | d + 1, q, x_doc, hd, h => by
    refine br_f (nI_ge (by omega) (by omega)) (xs_cp (f := q + 1) (t := q) (nI_1 _) rfl (by omega) (by omega) (by omega) (nm_r (nI_1 _) ?_))
    exact xs_remL hs h21 hb h20 hm d (q + 1) _ (by omega) h
theorem xo_rem {post : Int32 → SX → Prop} {p : Int32} {b s : Nat} (hs : x_slotNow = nI s) (h21 : s < 21) (hb : x_stepsBack = nI b) (h20 : b ≤ 20) (hv : dc_V x_doc)
    (h0 : ∀ r, op_rem x_doc p = (r, x_doc) → r < 0 → post r (x_tracking, x_view, x_slotNow, x_stepsBack, x_stepsAgain, x_stale, x_rounds, x_columnCount, x_doc, x_kept, x_referenceWidth, x_labelValue, x_labelWidth, x_lineCount, x_gapBefore, x_headNeeds, x_groupNeeds, x_wordLine, x_wordLeft, x_lineFirst, x_lineWords, x_lineLeft, x_lineSlack, x_lineNotes, x_lineColumn, x_lineTop, x_columnParagraph, x_columnFirst, x_columnLines, x_columnNotes, x_columnFilled))
    (h1 : ∀ r e, op_rem x_doc p = (r, e) → ¬ r < 0 → post r (x_tracking, x_view, (nI ((s + 1) % 21)), (nI (if b < 20 then b + 1 else b)), 0, 1, x_rounds, x_columnCount, e, (st_b x_kept (1300 * ((s + 1) % 21)) 1300 e), x_referenceWidth, x_labelValue, x_labelWidth, x_lineCount, x_gapBefore, x_headNeeds, x_groupNeeds, x_wordLine, x_wordLeft, x_lineFirst, x_lineWords, x_lineLeft, x_lineSlack, x_lineNotes, x_lineColumn, x_lineTop, x_columnParagraph, x_columnFirst, x_columnLines, x_columnNotes, x_columnFilled)) :
    wpX_remove post (x_tracking, x_view, x_slotNow, x_stepsBack, x_stepsAgain, x_stale, x_rounds, x_columnCount, x_doc, x_kept, x_referenceWidth, x_labelValue, x_labelWidth, x_lineCount, x_gapBefore, x_headNeeds, x_groupNeeds, x_wordLine, x_wordLeft, x_lineFirst, x_lineWords, x_lineLeft, x_lineSlack, x_lineNotes, x_lineColumn, x_lineTop, x_columnParagraph, x_columnFirst, x_columnLines, x_columnNotes, x_columnFilled) p := by
  unfold wpX_remove
  obtain ⟨e0, h24⟩ := dc_Vn hv
  refine xr_isP (fun z => br_t rfl ?_) (fun z1 z2 => br_f (by decide) ?_)
  · exact h0 _ (if_neg z) (by decide)
  · obtain ⟨j, hj, rfl⟩ := op_ix z1 (e0 ▸ z2) (by omega)
    have e : op_rem x_doc (nI j) = _ := if_pos ⟨z1, z2⟩
    obtain ⟨m, hm⟩ : ∃ m, dc_n x_doc = m + 1 := ⟨dc_n x_doc - 1, by omega⟩
    have e1 : x_doc 0 - 1 = nI m := by rw [e0, hm, nI_pred]
    rw [nI_clamp (by omega), e1, hm, show m + 1 - 1 - j = m - j from by omega] at e
    refine nm_r e1 ⟨m - j + 1, xs_remL hs h21 hb h20 (by omega) (m - j) j x_doc (by omega) (fun e' he => ?_)⟩
    subst he
    exact h1 _ _ e (nI_pos (by omega))
/-- restyle, mark: X answers 1 or 0 -/
theorem xo_sty {post : Int32 → SX → Prop} {p st : Int32} {b s : Nat} (hs : x_slotNow = nI s) (h21 : s < 21) (hb : x_stepsBack = nI b) (h20 : b ≤ 20) (hv : dc_V x_doc)
    (h0 : op_sty x_doc p st = (-1, x_doc) → post 0 (x_tracking, x_view, x_slotNow, x_stepsBack, x_stepsAgain, x_stale, x_rounds, x_columnCount, x_doc, x_kept, x_referenceWidth, x_labelValue, x_labelWidth, x_lineCount, x_gapBefore, x_headNeeds, x_groupNeeds, x_wordLine, x_wordLeft, x_lineFirst, x_lineWords, x_lineLeft, x_lineSlack, x_lineNotes, x_lineColumn, x_lineTop, x_columnParagraph, x_columnFirst, x_columnLines, x_columnNotes, x_columnFilled))
    (h1 : ∀ e, op_sty x_doc p st = (0, e) → post 1 (x_tracking, x_view, (nI ((s + 1) % 21)), (nI (if b < 20 then b + 1 else b)), 0, 1, x_rounds, x_columnCount, e, (st_b x_kept (1300 * ((s + 1) % 21)) 1300 e), x_referenceWidth, x_labelValue, x_labelWidth, x_lineCount, x_gapBefore, x_headNeeds, x_groupNeeds, x_wordLine, x_wordLeft, x_lineFirst, x_lineWords, x_lineLeft, x_lineSlack, x_lineNotes, x_lineColumn, x_lineTop, x_columnParagraph, x_columnFirst, x_columnLines, x_columnNotes, x_columnFilled)) :
    wpX_restyle post (x_tracking, x_view, x_slotNow, x_stepsBack, x_stepsAgain, x_stale, x_rounds, x_columnCount, x_doc, x_kept, x_referenceWidth, x_labelValue, x_labelWidth, x_lineCount, x_gapBefore, x_headNeeds, x_groupNeeds, x_wordLine, x_wordLeft, x_lineFirst, x_lineWords, x_lineLeft, x_lineSlack, x_lineNotes, x_lineColumn, x_lineTop, x_columnParagraph, x_columnFirst, x_columnLines, x_columnNotes, x_columnFilled) p st := by
  unfold wpX_restyle
  obtain ⟨e0, h24⟩ := dc_Vn hv
  refine xr_isP (fun z => br_t rfl ?_) (fun z1 z2 => br_f (by decide) (xr_in (fun z => br_t rfl ?_) (fun z3 z4 => br_f (by decide) ?_)))
  · exact h0 (if_neg fun q => z q.1)
  · exact h0 (if_neg fun q => z q.2)
  · obtain ⟨j, hj, rfl⟩ := op_ix z1 (e0 ▸ z2) (by omega)
    have e : op_sty x_doc (nI j) st = _ := if_pos ⟨⟨z1, z2⟩, ⟨z3, z4⟩⟩
    rw [nI_clamp (by omega)] at e
    refine xr_rec rfl ⟨ix_in (nI_add _ 0) (by omega) (by omega), nm_r (e' := upd x_doc (76 + 51 * j) st) ?_ (xs_keep hs h21 hb h20 (h1 _ e))⟩
    rw [ix_c (ad_0 _) (by omega)]
theorem xo_mrk {post : Int32 → SX → Prop} {p st : Int32} {b s : Nat} (hs : x_slotNow = nI s) (h21 : s < 21) (hb : x_stepsBack = nI b) (h20 : b ≤ 20) (hv : dc_V x_doc)
    (h0 : op_mrk x_doc p st = (-1, x_doc) → post 0 (x_tracking, x_view, x_slotNow, x_stepsBack, x_stepsAgain, x_stale, x_rounds, x_columnCount, x_doc, x_kept, x_referenceWidth, x_labelValue, x_labelWidth, x_lineCount, x_gapBefore, x_headNeeds, x_groupNeeds, x_wordLine, x_wordLeft, x_lineFirst, x_lineWords, x_lineLeft, x_lineSlack, x_lineNotes, x_lineColumn, x_lineTop, x_columnParagraph, x_columnFirst, x_columnLines, x_columnNotes, x_columnFilled))
    (h1 : ∀ e, op_mrk x_doc p st = (0, e) → post 1 (x_tracking, x_view, (nI ((s + 1) % 21)), (nI (if b < 20 then b + 1 else b)), 0, 1, x_rounds, x_columnCount, e, (st_b x_kept (1300 * ((s + 1) % 21)) 1300 e), x_referenceWidth, x_labelValue, x_labelWidth, x_lineCount, x_gapBefore, x_headNeeds, x_groupNeeds, x_wordLine, x_wordLeft, x_lineFirst, x_lineWords, x_lineLeft, x_lineSlack, x_lineNotes, x_lineColumn, x_lineTop, x_columnParagraph, x_columnFirst, x_columnLines, x_columnNotes, x_columnFilled)) :
    wpX_mark post (x_tracking, x_view, x_slotNow, x_stepsBack, x_stepsAgain, x_stale, x_rounds, x_columnCount, x_doc, x_kept, x_referenceWidth, x_labelValue, x_labelWidth, x_lineCount, x_gapBefore, x_headNeeds, x_groupNeeds, x_wordLine, x_wordLeft, x_lineFirst, x_lineWords, x_lineLeft, x_lineSlack, x_lineNotes, x_lineColumn, x_lineTop, x_columnParagraph, x_columnFirst, x_columnLines, x_columnNotes, x_columnFilled) p st := by
  unfold wpX_mark
  obtain ⟨e0, h24⟩ := dc_Vn hv
  refine xr_isP (fun z => br_t rfl ?_) (fun z1 z2 => br_f (by decide) (xr_in (fun z => br_t rfl ?_) (fun z3 z4 => br_f (by decide) ?_)))
  · exact h0 (if_neg fun q => z q.1)
  · exact h0 (if_neg fun q => z q.2)
  · obtain ⟨j, hj, rfl⟩ := op_ix z1 (e0 ▸ z2) (by omega)
    have e : op_mrk x_doc (nI j) st = _ := if_pos ⟨⟨z1, z2⟩, ⟨z3, z4⟩⟩
    rw [nI_clamp (by omega)] at e
    refine xr_rec rfl ⟨ix_in (nI_add _ 1) (by omega) (by omega), nm_r (e' := upd x_doc (77 + 51 * j) st) ?_ (xs_keep hs h21 hb h20 (h1 _ e))⟩
    rw [ix_c (nI_1 _) (by omega)]; exact congrArg (fun i => upd _ i _) (by omega)
/-- style, page -/
theorem xr_lo {post : Int32 → Prop} {j : Nat} (hj : j < 12) (h : post (op_lo j)) : wpX_leastOf post (nI j) := by
  refine pk_eq j 2 (fun z => ?_) (fun z => pk_eq j 5 (fun y => ?_) (fun y => ?_))
  · subst z; exact h
  · subst y; exact h
  · unfold op_lo at h; rw [if_neg z, if_neg y] at h; exact h
theorem xr_hi {post : Int32 → Prop} {j : Nat} (hj : j < 12) (h : post (op_hi j)) : wpX_greatestOf post (nI j) := by
  refine br_f (nI_pos (by omega)) (pk_lt 7 j (fun z => ?_) (fun z => ?_))
  · unfold op_hi at h; rw [if_neg (by omega), if_neg (by omega), if_neg (by omega), if_neg (by omega)] at h; exact h
  · refine pk_eq j 0 (fun z => ?_) (fun z0 => pk_eq j 1 (fun z => ?_) (fun z1 => pk_eq j 2 (fun z => ?_) (fun z2 => pk_eq j 3 (fun z => ?_) (fun z3 => pk_eq j 4 (fun z => ?_) (fun z4 => pk_eq j 5 (fun z => ?_) (fun z5 => pk_eq j 6 (fun z => ?_) (fun z6 => pk_eq j 7 (fun z => ?_) (fun z7 => trivial))))))))
      <;> (subst z; exact h)
theorem xo_stl {post : Int32 → SX → Prop} {p t v : Int32} {b s : Nat} (hs : x_slotNow = nI s) (h21 : s < 21) (hb : x_stepsBack = nI b) (h20 : b ≤ 20)
    (h0 : op_stl x_doc p t v = (-1, x_doc) → post 0 (x_tracking, x_view, x_slotNow, x_stepsBack, x_stepsAgain, x_stale, x_rounds, x_columnCount, x_doc, x_kept, x_referenceWidth, x_labelValue, x_labelWidth, x_lineCount, x_gapBefore, x_headNeeds, x_groupNeeds, x_wordLine, x_wordLeft, x_lineFirst, x_lineWords, x_lineLeft, x_lineSlack, x_lineNotes, x_lineColumn, x_lineTop, x_columnParagraph, x_columnFirst, x_columnLines, x_columnNotes, x_columnFilled))
    (h1 : ∀ e, op_stl x_doc p t v = (0, e) → post 1 (x_tracking, x_view, (nI ((s + 1) % 21)), (nI (if b < 20 then b + 1 else b)), 0, 1, x_rounds, x_columnCount, e, (st_b x_kept (1300 * ((s + 1) % 21)) 1300 e), x_referenceWidth, x_labelValue, x_labelWidth, x_lineCount, x_gapBefore, x_headNeeds, x_groupNeeds, x_wordLine, x_wordLeft, x_lineFirst, x_lineWords, x_lineLeft, x_lineSlack, x_lineNotes, x_lineColumn, x_lineTop, x_columnParagraph, x_columnFirst, x_columnLines, x_columnNotes, x_columnFilled)) :
    wpX_style post (x_tracking, x_view, x_slotNow, x_stepsBack, x_stepsAgain, x_stale, x_rounds, x_columnCount, x_doc, x_kept, x_referenceWidth, x_labelValue, x_labelWidth, x_lineCount, x_gapBefore, x_headNeeds, x_groupNeeds, x_wordLine, x_wordLeft, x_lineFirst, x_lineWords, x_lineLeft, x_lineSlack, x_lineNotes, x_lineColumn, x_lineTop, x_columnParagraph, x_columnFirst, x_columnLines, x_columnNotes, x_columnFilled) p t v := by
  unfold wpX_style
  refine xr_in (fun z => br_t rfl ?_) (fun z1 z2 => br_f (by decide) (xr_in (fun z => br_t rfl ?_) (fun z3 z4 => br_f (by decide) ?_)))
  · exact h0 (if_neg fun q => z q.1)
  · exact h0 (if_neg fun q => z q.2.1)
  · obtain ⟨j, hj, rfl⟩ := op_ix2 (n := 5) z1 z2 (by omega)
    obtain ⟨k, hk, rfl⟩ := op_ix2 (n := 11) z3 z4 (by omega)
    refine xr_lo (by omega) (xr_hi (by omega) (xr_in (fun z => br_t rfl ?_) (fun z5 z6 => br_f (by decide) ?_)))
    · exact h0 (if_neg fun q => z (by have q2 := q.2.2; rw [nI_clamp (by omega)] at q2; exact q2))
    · have e : op_stl x_doc (nI j) (nI k) v = _ := if_pos ⟨⟨z1, z2⟩, ⟨z3, z4⟩, by rw [nI_clamp (by omega)]; exact ⟨z5, z6⟩⟩
      rw [nI_clamp (by omega), nI_clamp (by omega)] at e
      refine ⟨ix_in (ad_s j k) (by omega) (by omega), nm_r (e' := upd x_doc (4 + 12 * j + k) v) ?_ (xs_keep hs h21 hb h20 (h1 _ e))⟩
      rw [ix_c (ad_s j k) (by omega)]
theorem xo_pag {post : Int32 → SX → Prop} {p t v : Int32} {b s : Nat} (hs : x_slotNow = nI s) (h21 : s < 21) (hb : x_stepsBack = nI b) (h20 : b ≤ 20)
    (h0 : op_pag x_doc p t v = (-1, x_doc) → post 0 (x_tracking, x_view, x_slotNow, x_stepsBack, x_stepsAgain, x_stale, x_rounds, x_columnCount, x_doc, x_kept, x_referenceWidth, x_labelValue, x_labelWidth, x_lineCount, x_gapBefore, x_headNeeds, x_groupNeeds, x_wordLine, x_wordLeft, x_lineFirst, x_lineWords, x_lineLeft, x_lineSlack, x_lineNotes, x_lineColumn, x_lineTop, x_columnParagraph, x_columnFirst, x_columnLines, x_columnNotes, x_columnFilled))
    (h1 : ∀ e, op_pag x_doc p t v = (0, e) → post 1 (x_tracking, x_view, (nI ((s + 1) % 21)), (nI (if b < 20 then b + 1 else b)), 0, 1, x_rounds, x_columnCount, e, (st_b x_kept (1300 * ((s + 1) % 21)) 1300 e), x_referenceWidth, x_labelValue, x_labelWidth, x_lineCount, x_gapBefore, x_headNeeds, x_groupNeeds, x_wordLine, x_wordLeft, x_lineFirst, x_lineWords, x_lineLeft, x_lineSlack, x_lineNotes, x_lineColumn, x_lineTop, x_columnParagraph, x_columnFirst, x_columnLines, x_columnNotes, x_columnFilled)) :
    wpX_page post (x_tracking, x_view, x_slotNow, x_stepsBack, x_stepsAgain, x_stale, x_rounds, x_columnCount, x_doc, x_kept, x_referenceWidth, x_labelValue, x_labelWidth, x_lineCount, x_gapBefore, x_headNeeds, x_groupNeeds, x_wordLine, x_wordLeft, x_lineFirst, x_lineWords, x_lineLeft, x_lineSlack, x_lineNotes, x_lineColumn, x_lineTop, x_columnParagraph, x_columnFirst, x_columnLines, x_columnNotes, x_columnFilled) p t v := by
  unfold wpX_page
  refine xr_in (fun z => br_t rfl ?_) (fun z1 z2 => br_f (by decide) (xr_in (fun z => br_t rfl ?_) (fun z3 z4 => br_f (by decide) (xr_in (fun z => br_t rfl ?_) (fun z5 z6 => br_f (by decide) ?_)))))
  · exact h0 (if_neg fun q => z q.1)
  · exact h0 (if_neg fun q => z q.2.1)
  · exact h0 (if_neg fun q => z q.2.2)
  · exact nm_e (nm_e (nm_e (xs_keep hs h21 hb h20 (h1 _ (if_pos ⟨⟨z1, z2⟩, ⟨z3, z4⟩, ⟨z5, z6⟩⟩)))))
