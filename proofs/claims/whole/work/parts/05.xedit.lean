variable {x_tracking x_view x_slotNow x_stepsBack x_stepsAgain x_stale x_rounds x_columnCount : Int32} {x_doc x_kept x_referenceWidth x_labelValue x_labelWidth x_lineCount x_gapBefore x_headNeeds x_groupNeeds x_wordLine x_wordLeft x_lineFirst x_lineWords x_lineLeft x_lineSlack x_lineNotes x_lineColumn x_lineTop x_columnParagraph x_columnFirst x_columnLines x_columnNotes x_columnFilled : Nat → Int32}
theorem xr_in {post : Int32 → Prop} {v l g : Int32} (h0 : ¬ (l ≤ v ∧ v ≤ g) → post 0) (h1 : l ≤ v → v ≤ g → post 1) : wpX_isWithin post v l g :=
  ⟨fun z => h0 fun q => Int32.not_lt.mpr q.1 z, fun z => ⟨fun y => h0 fun q => Int32.not_lt.mpr q.2 y, fun y => h1 (Int32.not_lt.mp z) (Int32.not_lt.mp y)⟩⟩
theorem xr_isP {post : Int32 → Prop} {x : Int32} (h0 : ¬ (0 ≤ x ∧ x < x_doc 0) → post 0) (h1 : 0 ≤ x → x < x_doc 0 → post 1) : wpX_isParagraph post (x_tracking, x_view, x_slotNow, x_stepsBack, x_stepsAgain, x_stale, x_rounds, x_columnCount, x_doc, x_kept, x_referenceWidth, x_labelValue, x_labelWidth, x_lineCount, x_gapBefore, x_headNeeds, x_groupNeeds, x_wordLine, x_wordLeft, x_lineFirst, x_lineWords, x_lineLeft, x_lineSlack, x_lineNotes, x_lineColumn, x_lineTop, x_columnParagraph, x_columnFirst, x_columnLines, x_columnNotes, x_columnFilled) x :=
  ⟨fun z => h0 fun q => Int32.not_lt.mpr q.1 z, fun z => ⟨fun y => h0 fun q => Int32.not_lt.mpr y q.2, fun y => h1 (Int32.not_lt.mp z) (Int32.not_le.mp y)⟩⟩
theorem xr_rec {post : Int32 → Prop} {x : Int32} {p : Nat} (hx : x = nI p) (h : post (nI (76 + 51 * p))) : wpX_recordAt post (x_tracking, x_view, x_slotNow, x_stepsBack, x_stepsAgain, x_stale, x_rounds, x_columnCount, x_doc, x_kept, x_referenceWidth, x_labelValue, x_labelWidth, x_lineCount, x_gapBefore, x_headNeeds, x_groupNeeds, x_wordLine, x_wordLeft, x_lineFirst, x_lineWords, x_lineLeft, x_lineSlack, x_lineNotes, x_lineColumn, x_lineTop, x_columnParagraph, x_columnFirst, x_columnLines, x_columnNotes, x_columnFilled) x := by
  subst hx; rw [← ad_r] at h; exact h
theorem xr_wo {post : Int32 → Prop} {x : Int32} {p : Nat} (hx : x = nI p) (hp : p < 24) (h : post (x_doc (78 + 51 * p))) : wpX_wordsOf post (x_tracking, x_view, x_slotNow, x_stepsBack, x_stepsAgain, x_stale, x_rounds, x_columnCount, x_doc, x_kept, x_referenceWidth, x_labelValue, x_labelWidth, x_lineCount, x_gapBefore, x_headNeeds, x_groupNeeds, x_wordLine, x_wordLeft, x_lineFirst, x_lineWords, x_lineLeft, x_lineSlack, x_lineNotes, x_lineColumn, x_lineTop, x_columnParagraph, x_columnFirst, x_columnLines, x_columnNotes, x_columnFilled) x := by
  have e : ((76 : Int32) + x * 51) + 2 = nI (78 + 51 * p) := by subst hx; rw [ad_r]; exact (nI_add _ 2).trans (congrArg nI (by omega))
  refine ⟨ix_in e (by omega) (by omega), ?_⟩
  rw [ix_c e (by omega)]; exact h
theorem xr_wa {post : Int32 → Prop} {x y : Int32} {p w : Nat} (hx : x = nI p) (hy : y = nI w) (h : post (nI (79 + 51 * p + 3 * w))) : wpX_wordAt post (x_tracking, x_view, x_slotNow, x_stepsBack, x_stepsAgain, x_stale, x_rounds, x_columnCount, x_doc, x_kept, x_referenceWidth, x_labelValue, x_labelWidth, x_lineCount, x_gapBefore, x_headNeeds, x_groupNeeds, x_wordLine, x_wordLeft, x_lineFirst, x_lineWords, x_lineLeft, x_lineSlack, x_lineNotes, x_lineColumn, x_lineTop, x_columnParagraph, x_columnFirst, x_columnLines, x_columnNotes, x_columnFilled) x y := by
  subst hx hy; rw [← ad_w] at h; exact h
theorem xs_cpL {post : SX → Prop} {f t : Nat} (hf : f < 24) (ht : t < 24) (hne : f ≠ t) (h : post (x_tracking, x_view, x_slotNow, x_stepsBack, x_stepsAgain, x_stale, x_rounds, x_columnCount, (dc_cp x_doc f t), x_kept, x_referenceWidth, x_labelValue, x_labelWidth, x_lineCount, x_gapBefore, x_headNeeds, x_groupNeeds, x_wordLine, x_wordLeft, x_lineFirst, x_lineWords, x_lineLeft, x_lineSlack, x_lineNotes, x_lineColumn, x_lineTop, x_columnParagraph, x_columnFirst, x_columnLines, x_columnNotes, x_columnFilled)) : ∀ n i, i + n = 51 →
    wX_copyRecord_16 post (nI (76 + 51 * f)) (nI (76 + 51 * t)) x_tracking x_view x_slotNow x_stepsBack x_stepsAgain x_stale x_rounds x_columnCount (n + 1) (nI i) (cp_b x_doc (76 + 51 * f) (76 + 51 * t) i) x_kept x_referenceWidth x_labelValue x_labelWidth x_lineCount x_gapBefore x_headNeeds x_groupNeeds x_wordLine x_wordLeft x_lineFirst x_lineWords x_lineLeft x_lineSlack x_lineNotes x_lineColumn x_lineTop x_columnParagraph x_columnFirst x_columnLines x_columnNotes x_columnFilled
  | 0, i, hi => by
    obtain rfl : i = 51 := by omega
    exact br_t (nI_le (a := 51) (b := 51) (by omega) (by omega)) h
  | n + 1, i, hi => by
    refine br_f (nI_ge (b := 51) (by omega) (by omega)) ⟨ix_in (nI_add _ _) (by omega) (by omega), ix_in (nI_add _ _) (by omega) (by omega), nm_r (e' := cp_b x_doc (76 + 51 * f) (76 + 51 * t) (i + 1)) ?_ (nm_r (nI_1 i) (xs_cpL hf ht hne h n (i + 1) (by omega)))⟩
    rw [nI_add, nI_add, nI_clamp (by omega), nI_clamp (by omega)]
    exact cp_s (by omega)
theorem xs_cp {post : SX → Prop} {x y : Int32} {f t : Nat} (hx : x = nI f) (hy : y = nI t) (hf : f < 24) (ht : t < 24) (hne : f ≠ t) (h : post (x_tracking, x_view, x_slotNow, x_stepsBack, x_stepsAgain, x_stale, x_rounds, x_columnCount, (dc_cp x_doc f t), x_kept, x_referenceWidth, x_labelValue, x_labelWidth, x_lineCount, x_gapBefore, x_headNeeds, x_groupNeeds, x_wordLine, x_wordLeft, x_lineFirst, x_lineWords, x_lineLeft, x_lineSlack, x_lineNotes, x_lineColumn, x_lineTop, x_columnParagraph, x_columnFirst, x_columnLines, x_columnNotes, x_columnFilled)) : wpX_copyRecord post (x_tracking, x_view, x_slotNow, x_stepsBack, x_stepsAgain, x_stale, x_rounds, x_columnCount, x_doc, x_kept, x_referenceWidth, x_labelValue, x_labelWidth, x_lineCount, x_gapBefore, x_headNeeds, x_groupNeeds, x_wordLine, x_wordLeft, x_lineFirst, x_lineWords, x_lineLeft, x_lineSlack, x_lineNotes, x_lineColumn, x_lineTop, x_columnParagraph, x_columnFirst, x_columnLines, x_columnNotes, x_columnFilled) x y := by
  unfold wpX_copyRecord
  refine xr_rec hx ?_
  refine xr_rec hy ?_
  refine ⟨52, ?_⟩
  have z := xs_cpL (post := post) hf ht hne h 51 0 rfl
  rw [cp_0] at z
  exact z
/-- insert -/
theorem xs_insL {post : Int32 → SX → Prop} {p n b s : Nat} {st : Int32} (hs : x_slotNow = nI s) (h21 : s < 21) (hb : x_stepsBack = nI b) (h20 : b ≤ 20) (hp : p ≤ n) (hn : n < 24) : ∀ (d : Nat) (x_doc : Nat → Int32), p + d < 24 →
    (∀ e, e = upd (upd (upd (upd (dc_iL x_doc p d) (76 + 51 * p) st) (77 + 51 * p) (-1)) (78 + 51 * p) 0) 0 (nI n + 1) →
      post (nI n + 1) (x_tracking, x_view, (nI ((s + 1) % 21)), (nI (if b < 20 then b + 1 else b)), 0, 1, x_rounds, x_columnCount, e, (st_b x_kept (1300 * ((s + 1) % 21)) 1300 e), x_referenceWidth, x_labelValue, x_labelWidth, x_lineCount, x_gapBefore, x_headNeeds, x_groupNeeds, x_wordLine, x_wordLeft, x_lineFirst, x_lineWords, x_lineLeft, x_lineSlack, x_lineNotes, x_lineColumn, x_lineTop, x_columnParagraph, x_columnFirst, x_columnLines, x_columnNotes, x_columnFilled)) →
    wX_insert_39 post (nI p) st (nI n) (d + 1) (nI (p + d)) x_tracking x_view x_slotNow x_stepsBack x_stepsAgain x_stale x_rounds x_columnCount x_doc x_kept x_referenceWidth x_labelValue x_labelWidth x_lineCount x_gapBefore x_headNeeds x_groupNeeds x_wordLine x_wordLeft x_lineFirst x_lineWords x_lineLeft x_lineSlack x_lineNotes x_lineColumn x_lineTop x_columnParagraph x_columnFirst x_columnLines x_columnNotes x_columnFilled
  | 0, x_doc, hd, h => by
    refine br_t (nI_le (by omega) (by omega)) (xr_rec rfl ⟨ix_in (nI_add _ 0) (by omega) (by omega), nm_r (e' := upd x_doc (76 + 51 * p) st) ?_ ⟨ix_in (nI_add _ 1) (by omega) (by omega), nm_r (e' := upd (upd x_doc (76 + 51 * p) st) (77 + 51 * p) (-1)) ?_
      ⟨ix_in (nI_add _ 2) (by omega) (by omega), nm_r (e' := upd (upd (upd x_doc (76 + 51 * p) st) (77 + 51 * p) (-1)) (78 + 51 * p) 0) ?_ (nm_e (xs_keep hs h21 hb h20 (h _ rfl)))⟩⟩⟩)
    · rw [ix_c (ad_0 _) (by omega)]
    · rw [ix_c (nI_1 _) (by omega)]; exact congrArg (fun i => upd _ i _) (by omega)
    · rw [ix_c (ad_2 _) (by omega)]; exact congrArg (fun i => upd _ i _) (by omega)
  | d + 1, x_doc, hd, h => by
    refine br_f (nI_ge (by omega) (by omega)) (xs_cp (f := p + d) (t := p + d + 1) (nI_pred _) rfl (by omega) (by omega) (by omega) (nm_r (pk_m1 _) ?_))
    exact xs_insL hs h21 hb h20 hp hn d _ (by omega) h
theorem xo_ins {post : Int32 → SX → Prop} {p st : Int32} {b s : Nat} (hs : x_slotNow = nI s) (h21 : s < 21) (hb : x_stepsBack = nI b) (h20 : b ≤ 20) (hv : dc_V x_doc)
    (h0 : ∀ r, op_ins x_doc p st = (r, x_doc) → r < 0 → post r (x_tracking, x_view, x_slotNow, x_stepsBack, x_stepsAgain, x_stale, x_rounds, x_columnCount, x_doc, x_kept, x_referenceWidth, x_labelValue, x_labelWidth, x_lineCount, x_gapBefore, x_headNeeds, x_groupNeeds, x_wordLine, x_wordLeft, x_lineFirst, x_lineWords, x_lineLeft, x_lineSlack, x_lineNotes, x_lineColumn, x_lineTop, x_columnParagraph, x_columnFirst, x_columnLines, x_columnNotes, x_columnFilled))
    (h1 : ∀ r e, op_ins x_doc p st = (r, e) → ¬ r < 0 → post r (x_tracking, x_view, (nI ((s + 1) % 21)), (nI (if b < 20 then b + 1 else b)), 0, 1, x_rounds, x_columnCount, e, (st_b x_kept (1300 * ((s + 1) % 21)) 1300 e), x_referenceWidth, x_labelValue, x_labelWidth, x_lineCount, x_gapBefore, x_headNeeds, x_groupNeeds, x_wordLine, x_wordLeft, x_lineFirst, x_lineWords, x_lineLeft, x_lineSlack, x_lineNotes, x_lineColumn, x_lineTop, x_columnParagraph, x_columnFirst, x_columnLines, x_columnNotes, x_columnFilled)) :
    wpX_insert post (x_tracking, x_view, x_slotNow, x_stepsBack, x_stepsAgain, x_stale, x_rounds, x_columnCount, x_doc, x_kept, x_referenceWidth, x_labelValue, x_labelWidth, x_lineCount, x_gapBefore, x_headNeeds, x_groupNeeds, x_wordLine, x_wordLeft, x_lineFirst, x_lineWords, x_lineLeft, x_lineSlack, x_lineNotes, x_lineColumn, x_lineTop, x_columnParagraph, x_columnFirst, x_columnLines, x_columnNotes, x_columnFilled) p st := by
  obtain ⟨e0, h24⟩ := dc_Vn hv
  refine nm_e (xr_in (fun z => br_t rfl ?_) (fun z1 z2 => br_f (by decide) (xr_in (fun z => br_t rfl ?_) (fun z3 z4 => br_f (by decide) (br_c (fun z => ?_) (fun z => ?_))))))
  · exact h0 _ (if_neg fun q => z q.1) (by decide)
  · exact h0 _ (if_neg fun q => z q.2) (by decide)
  · exact h0 (-2) ((if_pos ⟨⟨z1, z2⟩, ⟨z3, z4⟩⟩).trans (if_pos z)) (by decide)
  · obtain ⟨j, hj, rfl⟩ := op_ix2 z1 (e0 ▸ z2) (by omega)
    have hn : dc_n x_doc < 24 := by
      rcases Nat.lt_or_eq_of_le h24 with q | q
      · exact q
      · exact absurd (by rw [e0, q]; rfl) z
    have e : op_ins x_doc (nI j) st = _ := (if_pos ⟨⟨z1, z2⟩, ⟨z3, z4⟩⟩).trans (if_neg z)
    rw [nI_clamp (by omega), e0] at e
    refine ⟨dc_n x_doc - j + 1, ?_⟩
    rw [e0]
    have E : nI (dc_n x_doc) = nI (j + (dc_n x_doc - j)) := congrArg nI (by omega)
    have L := xs_insL (x_stale := x_stale) (x_stepsAgain := x_stepsAgain) (post := post) (p := j) (n := dc_n x_doc) (st := st) hs h21 hb h20 hj hn (dc_n x_doc - j) x_doc (by omega) (fun e' he => by
      subst he
      exact h1 _ _ e (by rw [nI_1]; exact nI_pos (by omega)))
    rw [← E] at L
    exact L
