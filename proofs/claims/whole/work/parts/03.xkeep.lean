variable {x_tracking x_view x_slotNow x_stepsBack x_stepsAgain x_stale x_rounds x_columnCount : Int32} {x_doc x_kept x_referenceWidth x_labelValue x_labelWidth x_lineCount x_gapBefore x_headNeeds x_groupNeeds x_wordLine x_wordLeft x_lineFirst x_lineWords x_lineLeft x_lineSlack x_lineNotes x_lineColumn x_lineTop x_columnParagraph x_columnFirst x_columnLines x_columnNotes x_columnFilled : Nat → Int32}
theorem xs_saveL {post : SX → Prop} {s : Nat} (h21 : s < 21) (h : post (x_tracking, x_view, x_slotNow, x_stepsBack, x_stepsAgain, x_stale, x_rounds, x_columnCount, x_doc, (st_b x_kept (1300 * s) 1300 x_doc), x_referenceWidth, x_labelValue, x_labelWidth, x_lineCount, x_gapBefore, x_headNeeds, x_groupNeeds, x_wordLine, x_wordLeft, x_lineFirst, x_lineWords, x_lineLeft, x_lineSlack, x_lineNotes, x_lineColumn, x_lineTop, x_columnParagraph, x_columnFirst, x_columnLines, x_columnNotes, x_columnFilled)) : ∀ n i, i + n = 1300 →
    wX_saveState_11 post (nI (1300 * s)) x_tracking x_view x_slotNow x_stepsBack x_stepsAgain x_stale x_rounds x_columnCount (n + 1) (nI i) x_doc (st_b x_kept (1300 * s) i x_doc) x_referenceWidth x_labelValue x_labelWidth x_lineCount x_gapBefore x_headNeeds x_groupNeeds x_wordLine x_wordLeft x_lineFirst x_lineWords x_lineLeft x_lineSlack x_lineNotes x_lineColumn x_lineTop x_columnParagraph x_columnFirst x_columnLines x_columnNotes x_columnFilled
  | 0, i, hi => by
    obtain rfl : i = 1300 := by omega
    exact br_t (nI_le (a := 1300) (b := 1300) (by omega) (by omega)) h
  | n + 1, i, hi => by
    refine br_f (nI_ge (b := 1300) (by omega) (by omega)) ⟨vp_in_nI (by omega) (by omega), ix_in (nI_add _ _) (by omega) (by omega), nm_r (e' := st_b x_kept (1300 * s) (i + 1) x_doc) ?_ (nm_r (nI_1 i) (xs_saveL h21 h n (i + 1) (by omega)))⟩
    rw [nI_add, nI_clamp (by omega), nI_clamp (by omega)]
    exact st_s
theorem xs_save {post : SX → Prop} {s : Nat} (hs : x_slotNow = nI s) (h21 : s < 21) (h : post (x_tracking, x_view, x_slotNow, x_stepsBack, x_stepsAgain, x_stale, x_rounds, x_columnCount, x_doc, (st_b x_kept (1300 * s) 1300 x_doc), x_referenceWidth, x_labelValue, x_labelWidth, x_lineCount, x_gapBefore, x_headNeeds, x_groupNeeds, x_wordLine, x_wordLeft, x_lineFirst, x_lineWords, x_lineLeft, x_lineSlack, x_lineNotes, x_lineColumn, x_lineTop, x_columnParagraph, x_columnFirst, x_columnLines, x_columnNotes, x_columnFilled)) : wpX_saveState post (x_tracking, x_view, x_slotNow, x_stepsBack, x_stepsAgain, x_stale, x_rounds, x_columnCount, x_doc, x_kept, x_referenceWidth, x_labelValue, x_labelWidth, x_lineCount, x_gapBefore, x_headNeeds, x_groupNeeds, x_wordLine, x_wordLeft, x_lineFirst, x_lineWords, x_lineLeft, x_lineSlack, x_lineNotes, x_lineColumn, x_lineTop, x_columnParagraph, x_columnFirst, x_columnLines, x_columnNotes, x_columnFilled) := by
  refine nm_r (e' := nI (1300 * s)) ?_ ⟨1301, ?_⟩
  · subst hs; simp only [li_, pk_mul]; exact congrArg nI (by omega)
  · have z := xs_saveL (post := post) h21 h 1300 0 rfl
    rw [st_0] at z
    exact z
theorem xs_keep {post : SX → Prop} {s b : Nat} (hs : x_slotNow = nI s) (h21 : s < 21) (hb : x_stepsBack = nI b) (h20 : b ≤ 20)
    (h : post (x_tracking, x_view, (nI ((s + 1) % 21)), (nI (if b < 20 then b + 1 else b)), 0, 1, x_rounds, x_columnCount, x_doc, (st_b x_kept (1300 * ((s + 1) % 21)) 1300 x_doc), x_referenceWidth, x_labelValue, x_labelWidth, x_lineCount, x_gapBefore, x_headNeeds, x_groupNeeds, x_wordLine, x_wordLeft, x_lineFirst, x_lineWords, x_lineLeft, x_lineSlack, x_lineNotes, x_lineColumn, x_lineTop, x_columnParagraph, x_columnFirst, x_columnLines, x_columnNotes, x_columnFilled)) : wpX_keepStep post (x_tracking, x_view, x_slotNow, x_stepsBack, x_stepsAgain, x_stale, x_rounds, x_columnCount, x_doc, x_kept, x_referenceWidth, x_labelValue, x_labelWidth, x_lineCount, x_gapBefore, x_headNeeds, x_groupNeeds, x_wordLine, x_wordLeft, x_lineFirst, x_lineWords, x_lineLeft, x_lineSlack, x_lineNotes, x_lineColumn, x_lineTop, x_columnParagraph, x_columnFirst, x_columnLines, x_columnNotes, x_columnFilled) := by
  refine ⟨by decide, nm_r (e' := nI ((s + 1) % 21)) ?_ (xs_save rfl (by omega) ?_)⟩
  · subst hs; rw [nI_1]; exact pk_rem (d := 21) (by omega) (by omega) (by omega)
  · subst hb
    refine pk_le 20 b (fun z => ?_) (fun z => nm_r (nI_1 b) ?_)
    · rw [if_neg (by omega)] at h; exact h
    · rw [if_pos (by omega)] at h; exact h
theorem xs_loadL {post : SX → Prop} {s : Nat} (h21 : s < 21) (h : post (x_tracking, x_view, x_slotNow, x_stepsBack, x_stepsAgain, x_stale, x_rounds, x_columnCount, (st_b x_doc 0 1300 (fun i => x_kept (1300 * s + i))), x_kept, x_referenceWidth, x_labelValue, x_labelWidth, x_lineCount, x_gapBefore, x_headNeeds, x_groupNeeds, x_wordLine, x_wordLeft, x_lineFirst, x_lineWords, x_lineLeft, x_lineSlack, x_lineNotes, x_lineColumn, x_lineTop, x_columnParagraph, x_columnFirst, x_columnLines, x_columnNotes, x_columnFilled)) : ∀ n i, i + n = 1300 →
    wX_loadState_11 post (nI (1300 * s)) x_tracking x_view x_slotNow x_stepsBack x_stepsAgain x_stale x_rounds x_columnCount (n + 1) (nI i) (st_b x_doc 0 i (fun i => x_kept (1300 * s + i))) x_kept x_referenceWidth x_labelValue x_labelWidth x_lineCount x_gapBefore x_headNeeds x_groupNeeds x_wordLine x_wordLeft x_lineFirst x_lineWords x_lineLeft x_lineSlack x_lineNotes x_lineColumn x_lineTop x_columnParagraph x_columnFirst x_columnLines x_columnNotes x_columnFilled
  | 0, i, hi => by
    obtain rfl : i = 1300 := by omega
    exact br_t (nI_le (a := 1300) (b := 1300) (by omega) (by omega)) h
  | n + 1, i, hi => by
    refine br_f (nI_ge (b := 1300) (by omega) (by omega)) ⟨ix_in (nI_add _ _) (by omega) (by omega), vp_in_nI (by omega) (by omega), nm_r (e' := st_b x_doc 0 (i + 1) (fun i => x_kept (1300 * s + i))) ?_ (nm_r (nI_1 i) (xs_loadL h21 h n (i + 1) (by omega)))⟩
    rw [nI_add, nI_clamp (by omega), nI_clamp (by omega)]
    have z := st_s (k := x_doc) (g := fun i => x_kept (1300 * s + i)) (t := 0) (n := i)
    rw [Nat.zero_add] at z
    exact z
theorem xs_load {post : SX → Prop} {s : Nat} (hs : x_slotNow = nI s) (h21 : s < 21) (h : post (x_tracking, x_view, x_slotNow, x_stepsBack, x_stepsAgain, x_stale, x_rounds, x_columnCount, (st_b x_doc 0 1300 (fun i => x_kept (1300 * s + i))), x_kept, x_referenceWidth, x_labelValue, x_labelWidth, x_lineCount, x_gapBefore, x_headNeeds, x_groupNeeds, x_wordLine, x_wordLeft, x_lineFirst, x_lineWords, x_lineLeft, x_lineSlack, x_lineNotes, x_lineColumn, x_lineTop, x_columnParagraph, x_columnFirst, x_columnLines, x_columnNotes, x_columnFilled)) : wpX_loadState post (x_tracking, x_view, x_slotNow, x_stepsBack, x_stepsAgain, x_stale, x_rounds, x_columnCount, x_doc, x_kept, x_referenceWidth, x_labelValue, x_labelWidth, x_lineCount, x_gapBefore, x_headNeeds, x_groupNeeds, x_wordLine, x_wordLeft, x_lineFirst, x_lineWords, x_lineLeft, x_lineSlack, x_lineNotes, x_lineColumn, x_lineTop, x_columnParagraph, x_columnFirst, x_columnLines, x_columnNotes, x_columnFilled) := by
  refine nm_r (e' := nI (1300 * s)) ?_ ⟨1301, ?_⟩
  · subst hs; simp only [li_, pk_mul]; exact congrArg nI (by omega)
  · have z := xs_loadL (post := post) h21 h 1300 0 rfl
    rw [st_0] at z
    exact z
