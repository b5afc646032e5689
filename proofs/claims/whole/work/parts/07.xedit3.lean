variable {x_tracking x_view x_slotNow x_stepsBack x_stepsAgain x_stale x_rounds x_columnCount : Int32} {x_doc x_kept x_referenceWidth x_labelValue x_labelWidth x_lineCount x_gapBefore x_headNeeds x_groupNeeds x_wordLine x_wordLeft x_lineFirst x_lineWords x_lineLeft x_lineSlack x_lineNotes x_lineColumn x_lineTop x_columnParagraph x_columnFirst x_columnLines x_columnNotes x_columnFilled : Nat → Int32}
/-- add -/
theorem xs_add109 {post : Int32 → SX → Prop} {b s p n : Nat} {x z0 z1 x5 : Int32} (hs : x_slotNow = nI s) (h21 : s < 21) (hb : x_stepsBack = nI b) (h20 : b ≤ 20) (hx : x = nI p) (hp : p < 24) (hn : n < 16) (hz : z1 = nI (81 + 51 * p + 3 * n)) (h5 : x5 = nI n)
    (h : ∀ e, e = upd (upd x_doc (81 + 51 * p + 3 * n) z0) (78 + 51 * p) (x5 + 1) → post (x5 + 1) (x_tracking, x_view, (nI ((s + 1) % 21)), (nI (if b < 20 then b + 1 else b)), 0, 1, x_rounds, x_columnCount, e, (st_b x_kept (1300 * ((s + 1) % 21)) 1300 e), x_referenceWidth, x_labelValue, x_labelWidth, x_lineCount, x_gapBefore, x_headNeeds, x_groupNeeds, x_wordLine, x_wordLeft, x_lineFirst, x_lineWords, x_lineLeft, x_lineSlack, x_lineNotes, x_lineColumn, x_lineTop, x_columnParagraph, x_columnFirst, x_columnLines, x_columnNotes, x_columnFilled)) :
    wX_add_109 post x x5 z0 z1 x_tracking x_view x_slotNow x_stepsBack x_stepsAgain x_stale x_rounds x_columnCount x_doc x_kept x_referenceWidth x_labelValue x_labelWidth x_lineCount x_gapBefore x_headNeeds x_groupNeeds x_wordLine x_wordLeft x_lineFirst x_lineWords x_lineLeft x_lineSlack x_lineNotes x_lineColumn x_lineTop x_columnParagraph x_columnFirst x_columnLines x_columnNotes x_columnFilled := by
  refine ⟨ix_in hz (by omega) (by omega), nm_r (e' := upd x_doc (81 + 51 * p + 3 * n) z0) (by rw [ix_c hz (by omega)]) (xr_rec hx ⟨ix_in (nI_add _ 2) (by omega) (by omega), nm_r (e' := upd (upd x_doc (81 + 51 * p + 3 * n) z0) (78 + 51 * p) (x5 + 1)) ?_ (xs_keep hs h21 hb h20 (h _ rfl))⟩)⟩
  rw [ix_c (ad_2 _) (by omega)]; exact congrArg (fun i => upd _ i _) (by omega)
theorem xs_add32 {post : Int32 → SX → Prop} {p wi no : Int32} {b s : Nat} (hs : x_slotNow = nI s) (h21 : s < 21) (hb : x_stepsBack = nI b) (h20 : b ≤ 20) (hv : dc_V x_doc) (hp : 0 ≤ p ∧ p < x_doc 0) (hw : ¬ wi = 0 ∧ -8 ≤ wi ∧ wi ≤ 30)
    (h0 : ∀ r, op_add x_doc p wi no x_tracking = (r, x_doc) → r < 0 → post r (x_tracking, x_view, x_slotNow, x_stepsBack, x_stepsAgain, x_stale, x_rounds, x_columnCount, x_doc, x_kept, x_referenceWidth, x_labelValue, x_labelWidth, x_lineCount, x_gapBefore, x_headNeeds, x_groupNeeds, x_wordLine, x_wordLeft, x_lineFirst, x_lineWords, x_lineLeft, x_lineSlack, x_lineNotes, x_lineColumn, x_lineTop, x_columnParagraph, x_columnFirst, x_columnLines, x_columnNotes, x_columnFilled))
    (h1 : ∀ r e, op_add x_doc p wi no x_tracking = (r, e) → ¬ r < 0 → post r (x_tracking, x_view, (nI ((s + 1) % 21)), (nI (if b < 20 then b + 1 else b)), 0, 1, x_rounds, x_columnCount, e, (st_b x_kept (1300 * ((s + 1) % 21)) 1300 e), x_referenceWidth, x_labelValue, x_labelWidth, x_lineCount, x_gapBefore, x_headNeeds, x_groupNeeds, x_wordLine, x_wordLeft, x_lineFirst, x_lineWords, x_lineLeft, x_lineSlack, x_lineNotes, x_lineColumn, x_lineTop, x_columnParagraph, x_columnFirst, x_columnLines, x_columnNotes, x_columnFilled)) :
    wX_add_32 post p wi no x_tracking x_view x_slotNow x_stepsBack x_stepsAgain x_stale x_rounds x_columnCount x_doc x_kept x_referenceWidth x_labelValue x_labelWidth x_lineCount x_gapBefore x_headNeeds x_groupNeeds x_wordLine x_wordLeft x_lineFirst x_lineWords x_lineLeft x_lineSlack x_lineNotes x_lineColumn x_lineTop x_columnParagraph x_columnFirst x_columnLines x_columnNotes x_columnFilled := by
  unfold wX_add_32
  obtain ⟨e0, h24⟩ := dc_Vn hv
  refine xr_in (fun z => br_t rfl ?_) (fun z1 z2 => br_f (by decide) ?_)
  · exact h0 _ (if_neg fun q => z q.2.2) (by decide)
  · obtain ⟨j, hj, rfl⟩ := op_ix hp.1 (e0 ▸ hp.2) (by omega)
    obtain ⟨ew, h16⟩ := dc_Vw hv (p := j) (by omega)
    have ec := nI_clamp (n := j) (by omega)
    refine xr_wo rfl (by omega) (br_c (fun z => ?_) (fun z => ?_))
    · exact h0 (-2) ((if_pos ⟨hp, hw, ⟨z1, z2⟩⟩).trans (if_pos (by rw [ec]; exact z))) (by decide)
    · have hn : dc_w x_doc j < 16 := by
        rcases Nat.lt_or_eq_of_le h16 with q | q
        · exact q
        · exact absurd (by rw [ew, q]; rfl) z
      have e : op_add x_doc (nI j) wi no x_tracking = _ := (if_pos ⟨hp, hw, ⟨z1, z2⟩⟩).trans (if_neg (by rw [ec]; exact z))
      rw [ec, ew] at e
      rw [ew]
      refine xr_wa rfl rfl ⟨ix_in (nI_add _ 0) (by omega) (by omega), nm_r (e' := upd x_doc (79 + 51 * j + 3 * dc_w x_doc j) wi) ?_ ⟨ix_in (nI_add _ 1) (by omega) (by omega), nm_r (e' := upd (upd x_doc (79 + 51 * j + 3 * dc_w x_doc j) wi) (80 + 51 * j + 3 * dc_w x_doc j) no) ?_ (br_c (fun zt => ?_) (fun zt => ?_))⟩⟩
      · rw [ix_c (ad_0 _) (by omega)]
      · rw [ix_c (nI_1 _) (by omega)]; exact congrArg (fun i => upd _ i _) (by omega)
      · rw [if_pos zt] at e
        refine xs_add109 (p := j) (n := dc_w x_doc j) hs h21 hb h20 rfl (by omega) hn ((nI_add _ 2).trans (congrArg nI (by omega))) rfl (fun e' he => ?_)
        subst he
        exact h1 _ _ e (by rw [nI_1]; exact nI_pos (by omega))
      · rw [if_neg zt] at e
        refine xs_add109 (p := j) (n := dc_w x_doc j) hs h21 hb h20 rfl (by omega) hn ((nI_add _ 2).trans (congrArg nI (by omega))) rfl (fun e' he => ?_)
        subst he
        exact h1 _ _ e (by rw [nI_1]; exact nI_pos (by omega))
theorem xo_add {post : Int32 → SX → Prop} {p wi no : Int32} {b s : Nat} (hs : x_slotNow = nI s) (h21 : s < 21) (hb : x_stepsBack = nI b) (h20 : b ≤ 20) (hv : dc_V x_doc)
    (h0 : ∀ r, op_add x_doc p wi no x_tracking = (r, x_doc) → r < 0 → post r (x_tracking, x_view, x_slotNow, x_stepsBack, x_stepsAgain, x_stale, x_rounds, x_columnCount, x_doc, x_kept, x_referenceWidth, x_labelValue, x_labelWidth, x_lineCount, x_gapBefore, x_headNeeds, x_groupNeeds, x_wordLine, x_wordLeft, x_lineFirst, x_lineWords, x_lineLeft, x_lineSlack, x_lineNotes, x_lineColumn, x_lineTop, x_columnParagraph, x_columnFirst, x_columnLines, x_columnNotes, x_columnFilled))
    (h1 : ∀ r e, op_add x_doc p wi no x_tracking = (r, e) → ¬ r < 0 → post r (x_tracking, x_view, (nI ((s + 1) % 21)), (nI (if b < 20 then b + 1 else b)), 0, 1, x_rounds, x_columnCount, e, (st_b x_kept (1300 * ((s + 1) % 21)) 1300 e), x_referenceWidth, x_labelValue, x_labelWidth, x_lineCount, x_gapBefore, x_headNeeds, x_groupNeeds, x_wordLine, x_wordLeft, x_lineFirst, x_lineWords, x_lineLeft, x_lineSlack, x_lineNotes, x_lineColumn, x_lineTop, x_columnParagraph, x_columnFirst, x_columnLines, x_columnNotes, x_columnFilled)) :
    wpX_add post (x_tracking, x_view, x_slotNow, x_stepsBack, x_stepsAgain, x_stale, x_rounds, x_columnCount, x_doc, x_kept, x_referenceWidth, x_labelValue, x_labelWidth, x_lineCount, x_gapBefore, x_headNeeds, x_groupNeeds, x_wordLine, x_wordLeft, x_lineFirst, x_lineWords, x_lineLeft, x_lineSlack, x_lineNotes, x_lineColumn, x_lineTop, x_columnParagraph, x_columnFirst, x_columnLines, x_columnNotes, x_columnFilled) p wi no := by
  unfold wpX_add
  have n1 : (-1 : Int32).toInt = -1 := by decide
  have n8 : (-8 : Int32).toInt = -8 := by decide
  have n30 : (30 : Int32).toInt = 30 := by decide
  have n00 : (0 : Int32).toInt = 0 := by decide
  have n11 : (1 : Int32).toInt = 1 := by decide
  have ez : wi = 0 ↔ wi.toInt = 0 := ⟨fun z => by rw [z]; decide, fun z => Int32.toInt_inj.mp (by rw [z]; decide)⟩
  refine xr_in (fun y => xr_isP (fun z => br_t rfl ?_) (fun z1 z2 => br_f (by decide) (br_t rfl (xr_in (fun z => br_t rfl ?_) (fun z3 z4 => br_f (by decide) ?_))))) (fun y1 y2 => xr_isP (fun z => br_t rfl ?_) (fun z1 z2 => br_f (by decide) (br_f (by decide) ?_)))
  · exact h0 _ (if_neg fun q => z q.1) (by decide)
  · refine h0 _ (if_neg fun q => z ?_) (by decide)
    have q2 := q.2.1
    rw [Int32.le_iff_toInt_le, Int32.le_iff_toInt_le, n8, n1] at y
    rw [ez, Int32.le_iff_toInt_le, Int32.le_iff_toInt_le, n8, n30] at q2
    rw [Int32.le_iff_toInt_le, Int32.le_iff_toInt_le, n11, n30]
    omega
  · refine xs_add32 hs h21 hb h20 hv ⟨z1, z2⟩ ?_ h0 h1
    rw [Int32.le_iff_toInt_le, n11] at z3
    rw [Int32.le_iff_toInt_le, n30] at z4
    rw [ez, Int32.le_iff_toInt_le, Int32.le_iff_toInt_le, n8, n30]
    omega
  · exact h0 _ (if_neg fun q => z q.1) (by decide)
  · refine xs_add32 hs h21 hb h20 hv ⟨z1, z2⟩ ?_ h0 h1
    rw [Int32.le_iff_toInt_le, n8] at y1
    rw [Int32.le_iff_toInt_le, n1] at y2
    rw [ez, Int32.le_iff_toInt_le, Int32.le_iff_toInt_le, n8, n30]
    omega
/-- drop -/
theorem xs_lgL {post : Int32 → Prop} {p : Nat} (hp : p < 24) : ∀ (w : Nat), w ≤ 16 → post (match dc_lg x_doc p w with | none => -1 | some v => nI v) →
    wX_lastNotGone_8 post (nI p) x_tracking x_view x_slotNow x_stepsBack x_stepsAgain x_stale x_rounds x_columnCount x_doc x_kept x_referenceWidth x_labelValue x_labelWidth x_lineCount x_gapBefore x_headNeeds x_groupNeeds x_wordLine x_wordLeft x_lineFirst x_lineWords x_lineLeft x_lineSlack x_lineNotes x_lineColumn x_lineTop x_columnParagraph x_columnFirst x_columnLines x_columnNotes x_columnFilled (w + 1) (nI w - 1)
  | 0, hw, h => br_t (by decide) h
  | w + 1, hw, h => by
    rw [nI_pred]
    refine br_f (nI_pos (by omega)) (xr_wa rfl rfl ⟨ix_in (nI_add _ 2) (by omega) (by omega), ?_⟩)
    rw [ix_c (ad_2 _) (by omega), show 79 + 51 * p + 3 * w + 2 = 81 + 51 * p + 3 * w from by omega]
    unfold dc_lg at h
    refine br_c (fun z => nm_r (Int32.sub_eq_add_neg (nI w) 1).symm ?_) (fun z => ?_)
    · rw [if_pos z] at h
      have L := xs_lgL (post := post) hp w (by omega) h
      exact L
    · rw [if_neg z] at h
      exact h
theorem xs_tkL {post : SX → Prop} {p w n : Nat} {x3 : Int32} (hp : p < 24) (hw : w < n) (hn : n ≤ 16) (h3 : x3 = nI n) (h : post (x_tracking, x_view, x_slotNow, x_stepsBack, x_stepsAgain, x_stale, x_rounds, x_columnCount, (upd (cp_b x_doc (82 + 51 * p + 3 * w) (79 + 51 * p + 3 * w) (3 * (n - 1 - w))) (78 + 51 * p) (nI (n - 1))), x_kept, x_referenceWidth, x_labelValue, x_labelWidth, x_lineCount, x_gapBefore, x_headNeeds, x_groupNeeds, x_wordLine, x_wordLeft, x_lineFirst, x_lineWords, x_lineLeft, x_lineSlack, x_lineNotes, x_lineColumn, x_lineTop, x_columnParagraph, x_columnFirst, x_columnLines, x_columnNotes, x_columnFilled)) : ∀ m i, i + m = 3 * (n - 1 - w) →
    wX_takeOut_24 post (nI p) x3 (nI (79 + 51 * p + 3 * (n - 1))) x_tracking x_view x_slotNow x_stepsBack x_stepsAgain x_stale x_rounds x_columnCount (m + 1) (nI (79 + 51 * p + 3 * w + i)) (cp_b x_doc (82 + 51 * p + 3 * w) (79 + 51 * p + 3 * w) i) x_kept x_referenceWidth x_labelValue x_labelWidth x_lineCount x_gapBefore x_headNeeds x_groupNeeds x_wordLine x_wordLeft x_lineFirst x_lineWords x_lineLeft x_lineSlack x_lineNotes x_lineColumn x_lineTop x_columnParagraph x_columnFirst x_columnLines x_columnNotes x_columnFilled
  | 0, i, hi => by
    obtain rfl : i = 3 * (n - 1 - w) := by omega
    refine br_t (nI_le (by omega) (by omega)) (xr_rec rfl ⟨ix_in (nI_add _ 2) (by omega) (by omega), nm_r (e' := _) ?_ h⟩)
    rw [ix_c (ad_2 _) (by omega), h3, show 76 + 51 * p + 2 = 78 + 51 * p from by omega]
    obtain ⟨k, rfl⟩ : ∃ k, n = k + 1 := ⟨n - 1, by omega⟩
    rw [nI_pred]; rfl
  | m + 1, i, hi => by
    refine br_f (nI_ge (by omega) (by omega)) ⟨ix_in (nI_add _ 3) (by omega) (by omega), vp_in_nI (by omega) (by omega), nm_r (e' := cp_b x_doc (82 + 51 * p + 3 * w) (79 + 51 * p + 3 * w) (i + 1)) ?_ (nm_r (nI_1 _) (xs_tkL hp hw hn h3 h m (i + 1) (by omega)))⟩
    rw [ix_c (ad_3 _) (by omega), nI_clamp (by omega), show 79 + 51 * p + 3 * w + i + 3 = 82 + 51 * p + 3 * w + i from by omega]
    exact cp_s (by omega)
theorem xs_tk {post : SX → Prop} {x y : Int32} {p w : Nat} (hx : x = nI p) (hy : y = nI w) (hv : dc_V x_doc) (hp : p < 24) (hw : w < dc_w x_doc p) (h : post (x_tracking, x_view, x_slotNow, x_stepsBack, x_stepsAgain, x_stale, x_rounds, x_columnCount, (dc_tk x_doc p w), x_kept, x_referenceWidth, x_labelValue, x_labelWidth, x_lineCount, x_gapBefore, x_headNeeds, x_groupNeeds, x_wordLine, x_wordLeft, x_lineFirst, x_lineWords, x_lineLeft, x_lineSlack, x_lineNotes, x_lineColumn, x_lineTop, x_columnParagraph, x_columnFirst, x_columnLines, x_columnNotes, x_columnFilled)) : wpX_takeOut post (x_tracking, x_view, x_slotNow, x_stepsBack, x_stepsAgain, x_stale, x_rounds, x_columnCount, x_doc, x_kept, x_referenceWidth, x_labelValue, x_labelWidth, x_lineCount, x_gapBefore, x_headNeeds, x_groupNeeds, x_wordLine, x_wordLeft, x_lineFirst, x_lineWords, x_lineLeft, x_lineSlack, x_lineNotes, x_lineColumn, x_lineTop, x_columnParagraph, x_columnFirst, x_columnLines, x_columnNotes, x_columnFilled) x y := by
  unfold wpX_takeOut
  subst hx hy
  obtain ⟨ew, h16⟩ := dc_Vw hv hp
  refine xr_wo rfl hp ?_
  rw [ew]
  refine xr_wa (w := dc_w x_doc p - 1) rfl ?_ (xr_wa rfl rfl ⟨3 * (dc_w x_doc p - 1 - w) + 1, ?_⟩)
  · obtain ⟨k, hk⟩ : ∃ k, dc_w x_doc p = k + 1 := ⟨dc_w x_doc p - 1, by omega⟩
    rw [hk, nI_pred]; rfl
  · have L := xs_tkL (post := post) (x_doc := x_doc) (x3 := nI (dc_w x_doc p)) hp hw h16 rfl h (3 * (dc_w x_doc p - 1 - w)) 0 (by omega)
    rw [cp_0] at L
    exact L
