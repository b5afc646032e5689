def rd_p (a : Nat → Int32) (vw : Int32) (rw : Nat → Int32) (p t : Nat) : Int32 := if t = 0 then nI (la_nl a vw rw p) else if t = 1 then la_lb a p else if t = 2 then a (76 + 51 * p) else if t = 3 then a (77 + 51 * p) else if t = 4 then a (78 + 51 * p) else nI (dc_cg a p (dc_w a p))
def rd_l (a : Nat → Int32) (vw : Int32) (rw : Nat → Int32) (p k t : Nat) : Int32 := if t = 0 then nI (la_f a vw rw p k) else if t = 1 then nI (la_t a vw rw p k) else if t = 2 then (la_fl a vw rw (dc_n a)).2.2.2.2.2.2.1 (16 * p + k) else if t = 3 then (la_fl a vw rw (dc_n a)).2.2.2.2.2.2.2 (16 * p + k) else if t = 4 then la_al a vw rw p k else la_sl a vw rw p k
variable {x_tracking x_view x_slotNow x_stepsBack x_stepsAgain x_stale x_rounds x_columnCount : Int32} {x_doc x_kept x_referenceWidth x_labelValue x_labelWidth x_lineCount x_gapBefore x_headNeeds x_groupNeeds x_wordLine x_wordLeft x_lineFirst x_lineWords x_lineLeft x_lineSlack x_lineNotes x_lineColumn x_lineTop x_columnParagraph x_columnFirst x_columnLines x_columnNotes x_columnFilled : Nat → Int32} {y_doc y_tracking y_view y_done y_steps y_lines y_columns y_rounds y_known : Int32} {y_many y_styleOf y_markOf y_words y_width y_note y_status y_styles y_pages y_stepKind y_stepA y_stepB y_stepC y_stepOn y_ofParagraph y_firstWord y_wordsOf y_slack y_begin y_needs y_notes y_columnOf y_topOf y_firstLine y_label y_labelWide y_counter y_refWide y_nextWide y_columnLine y_columnLines y_filled y_foot : Nat → Int32} {a rw : Nat → Int32}
theorem yr_paL {post : Int32 → SY → Prop} {p t : Nat} (hv : dc_V a) (Z : yz_Z a y_many y_pages y_styles y_styleOf y_markOf y_words y_width y_note y_status) (HF : ∀ q, q ≤ dc_n a → y_firstLine q = nI (la_Fs a y_view rw q)) (hp : p < dc_n a) (ht : t ≤ 5) (hlb : y_label p = la_lb a p) (h : post (rd_p a y_view rw p t) (y_doc, y_tracking, y_view, y_done, y_steps, y_lines, y_columns, y_rounds, y_known, y_many, y_styleOf, y_markOf, y_words, y_width, y_note, y_status, y_styles, y_pages, y_stepKind, y_stepA, y_stepB, y_stepC, y_stepOn, y_ofParagraph, y_firstWord, y_wordsOf, y_slack, y_begin, y_needs, y_notes, y_columnOf, y_topOf, y_firstLine, y_label, y_labelWide, y_counter, y_refWide, y_nextWide, y_columnLine, y_columnLines, y_filled, y_foot)) : ∀ d w, w + d = dc_w a p →
    wY_paragraph_29 post (nI p) (nI t) y_doc y_tracking y_view y_done y_steps y_lines y_columns y_rounds y_known y_many y_styleOf y_markOf y_words y_width y_note y_status y_styles y_pages y_stepKind y_stepA y_stepB y_stepC y_stepOn y_ofParagraph y_firstWord y_wordsOf y_slack y_begin y_needs y_notes y_columnOf y_topOf y_firstLine y_label y_labelWide y_counter y_refWide y_nextWide y_columnLine y_columnLines y_filled y_foot (d + 1) (nI (dc_cg a p w)) (nI w)
  | 0, w, hw => by
    have h24 := (dc_Vn hv).2
    obtain ⟨ew, h16⟩ := dc_Vw hv (p := p) (by omega)
    obtain rfl : w = dc_w a p := by omega
    have jp := vp_in_nI (n := p) (N := 48) (by omega) (by omega)
    have jp24 := vp_in_nI (n := p) (N := 24) (by omega) (by omega)
    have cp := nI_clamp (n := p) (by omega)
    unfold rd_p at h
    refine ⟨jp, ?_⟩
    rw [cp, Z.2.2.2.2.2.1 p (by omega), ew]
    refine br_t (nI_le (by omega) (by omega)) (br_f (nI_pos (by omega)) (pk_lt 4 t (fun z => ?_) (fun z => pk_eq t 0 (fun q => yr_lo' hv HF rfl hp ?_) (fun q0 => pk_eq t 1 (fun q => ⟨jp24, ?_⟩) (fun q1 => pk_eq t 2 (fun q => ⟨jp, ?_⟩) (fun q2 => pk_eq t 3 (fun q => ⟨jp, ?_⟩) (fun q3 => pk_eq t 4 (fun q => ⟨jp, ?_⟩) (fun q4 => trivial))))))))
    · rw [if_neg (by omega), if_neg (by omega), if_neg (by omega), if_neg (by omega), if_neg (by omega)] at h; exact h
    · rw [if_pos q] at h; exact h
    · rw [if_neg q0, if_pos q] at h; rw [hlb]; exact h
    · rw [if_neg q0, if_neg q1, if_pos q] at h; rw [Z.2.2.2.1 p (by omega)]; exact h
    · rw [if_neg q0, if_neg q1, if_neg q2, if_pos q] at h; rw [Z.2.2.2.2.1 p (by omega)]; exact h
    · rw [if_neg q0, if_neg q1, if_neg q2, if_neg q3, if_pos q, ew] at h; exact h
  | d + 1, w, hw => by
    have h24 := (dc_Vn hv).2
    obtain ⟨ew, h16⟩ := dc_Vw hv (p := p) (by omega)
    have e1 := ad_yl p w
    refine ⟨vp_in_nI (by omega) (by omega), ?_⟩
    rw [nI_clamp (n := p) (by omega), Z.2.2.2.2.2.1 p (by omega), ew]
    refine br_f (nI_ge (by omega) (by omega)) ⟨ix_in e1 (by omega) (by omega), ?_⟩
    rw [ix_c e1 (by omega), Z.2.2.2.2.2.2.2.2 p w (by omega) (by omega)]
    have L := yr_paL hv Z HF hp ht hlb h d (w + 1) (by omega)
    have ec : dc_cg a p (w + 1) = dc_cg a p w + if a (81 + 51 * p + 3 * w) = 0 then 0 else 1 := rfl
    refine br_c (fun z => nm_r (nI_1 _) ?_) (fun z => nm_r (nI_1 _) (nm_r (nI_1 _) ?_))
    · rw [if_pos z] at ec; rw [ec] at L; exact L
    · rw [if_neg z] at ec; rw [ec] at L; exact L
theorem yr_st {post : Int32 → Prop} {x : Int32} {p k : Nat} (hv : dc_V a) (Z : yz_Z a y_many y_pages y_styles y_styleOf y_markOf y_words y_width y_note y_status) (HB : yb_B a y_view rw (dc_n a) 0 y_ofParagraph y_firstWord y_wordsOf y_slack y_begin y_needs y_notes) (hp : p < dc_n a) (hk : k < la_nl a y_view rw p) (hx : x = nI (la_Fs a y_view rw p + k)) (h : post (la_al a y_view rw p k)) : wpY_startOf post (y_doc, y_tracking, y_view, y_done, y_steps, y_lines, y_columns, y_rounds, y_known, y_many, y_styleOf, y_markOf, y_words, y_width, y_note, y_status, y_styles, y_pages, y_stepKind, y_stepA, y_stepB, y_stepC, y_stepOn, y_ofParagraph, y_firstWord, y_wordsOf, y_slack, y_begin, y_needs, y_notes, y_columnOf, y_topOf, y_firstLine, y_label, y_labelWide, y_counter, y_refWide, y_nextWide, y_columnLine, y_columnLines, y_filled, y_foot) x := by
  have h24 := (dc_Vn hv).2
  have hF := la_FsB (rw := rw) (vw := y_view) hv (p := p) (by omega)
  have hn := (la_nlP (a := a) (rw := rw) (vw := y_view) (dc_Vw hv (p := p) (by omega)).2).2.1
  obtain ⟨b1, _, _, b4, b5, _, _⟩ := HB p k (Or.inl ⟨hp, hk⟩)
  have jx := ix_in (N := 384) hx (by omega) (by omega)
  have cx := ix_c hx (by omega)
  refine ⟨jx, ?_⟩
  rw [cx, b1]
  unfold la_al at h
  refine yr_tr hv Z rfl (by omega) (t := 6) rfl (by omega) ⟨jx, br_c (fun z => ⟨jx, ?_⟩) (fun z => br_c (fun y => ⟨jx, by decide, ?_⟩) (fun y => ?_))⟩
  · rw [if_pos z] at h; rw [b5, b4]; exact h
  · rw [if_neg z, if_pos y] at h; rw [b5, b4]; exact h
  · rw [if_neg z, if_neg y] at h; rw [b5, Int32.add_zero]; exact h
theorem i_vc_paragraph {k : Nat} {u : SX} {v : SY} (I : i_Rel k u v) (hk : k + 4 ≤ 2048) (v1 : Int32) (v2 : Int32) : wpX_paragraph (fun r u' => wpY_paragraph (fun r' v' => r' = r ∧ i_Rel (k + 4) u' v') v v1 v2) u v1 v2 := by
  obtain ⟨x_tracking, x_view, x_slotNow, x_stepsBack, x_stepsAgain, x_stale, x_rounds, x_columnCount, x_doc, x_kept, x_referenceWidth, x_labelValue, x_labelWidth, x_lineCount, x_gapBefore, x_headNeeds, x_groupNeeds, x_wordLine, x_wordLeft, x_lineFirst, x_lineWords, x_lineLeft, x_lineSlack, x_lineNotes, x_lineColumn, x_lineTop, x_columnParagraph, x_columnFirst, x_columnLines, x_columnNotes, x_columnFilled⟩ := u
  obtain ⟨y_doc, y_tracking, y_view, y_done, y_steps, y_lines, y_columns, y_rounds, y_known, y_many, y_styleOf, y_markOf, y_words, y_width, y_note, y_status, y_styles, y_pages, y_stepKind, y_stepA, y_stepB, y_stepC, y_stepOn, y_ofParagraph, y_firstWord, y_wordsOf, y_slack, y_begin, y_needs, y_notes, y_columnOf, y_topOf, y_firstLine, y_label, y_labelWide, y_counter, y_refWide, y_nextWide, y_columnLine, y_columnLines, y_filled, y_foot⟩ := v
  obtain ⟨s, n, _, _, _, _, hv⟩ := re_f I
  obtain ⟨e0, h24⟩ := dc_Vn hv
  unfold wpX_paragraph
  refine xr_isP (fun z => br_t rfl ?_) (fun z1 z2 => br_f (by decide) (re_x I ?_))
  · unfold wpY_paragraph
    exact re_isT I (fun _ => br_t rfl ⟨rfl, I⟩) (fun q1 q2 => absurd ⟨q1, q2⟩ z)
  · intro x_rounds x_columnCount x_referenceWidth x_labelValue x_labelWidth x_lineCount x_wordLine x_wordLeft x_lineFirst x_lineWords x_lineLeft x_lineSlack x_lineNotes x_gapBefore x_headNeeds x_groupNeeds x_lineColumn x_lineTop x_columnParagraph x_columnFirst x_columnLines x_columnNotes x_columnFilled GX I
    obtain ⟨j, hj, rfl⟩ := op_ix z1 (e0 ▸ z2) (by omega)
    have Z := re_z I
    have bad : ¬ (0 ≤ v2 ∧ v2 ≤ 5) → wpY_paragraph (fun r' v' => r' = -2 ∧ i_Rel (k + 4) (x_tracking, x_view, x_slotNow, x_stepsBack, x_stepsAgain, 0, x_rounds, x_columnCount, x_doc, x_kept, x_referenceWidth, x_labelValue, x_labelWidth, x_lineCount, x_gapBefore, x_headNeeds, x_groupNeeds, x_wordLine, x_wordLeft, x_lineFirst, x_lineWords, x_lineLeft, x_lineSlack, x_lineNotes, x_lineColumn, x_lineTop, x_columnParagraph, x_columnFirst, x_columnLines, x_columnNotes, x_columnFilled) v') (y_doc, y_tracking, y_view, y_done, y_steps, y_lines, y_columns, y_rounds, y_known, y_many, y_styleOf, y_markOf, y_words, y_width, y_note, y_status, y_styles, y_pages, y_stepKind, y_stepA, y_stepB, y_stepC, y_stepOn, y_ofParagraph, y_firstWord, y_wordsOf, y_slack, y_begin, y_needs, y_notes, y_columnOf, y_topOf, y_firstLine, y_label, y_labelWide, y_counter, y_refWide, y_nextWide, y_columnLine, y_columnLines, y_filled, y_foot) (nI j) v2 := fun z => by
      unfold wpY_paragraph
      exact re_isT I (fun q => absurd ⟨z1, z2⟩ q) (fun _ _ => br_f (by decide) (yr_in (fun _ => br_t rfl ⟨rfl, I⟩) (fun q1 q2 => absurd ⟨q1, q2⟩ z)))
    refine br_c (fun w => bad fun q => Int32.not_lt.mpr q.1 w) (fun w1 => br_c (fun w => bad fun q => Int32.not_lt.mpr q.2 w) (fun w2 => ?_))
    obtain ⟨t, ht, rfl⟩ := op_ix2 (n := 5) (x := v2) (Int32.not_lt.mp w1) (Int32.not_lt.mp w2) (by omega)
    obtain ⟨r, fr, ro, lb, xB, fC⟩ := GX
    have eview : x_view = y_view := I.2.2.1
    have go : ∀ val : Int32, val = rd_p x_doc x_view (la_rk x_doc x_view (r - 1)) j t → wpY_paragraph (fun r' v' => r' = val ∧ i_Rel (k + 4) (x_tracking, x_view, x_slotNow, x_stepsBack, x_stepsAgain, 0, x_rounds, x_columnCount, x_doc, x_kept, x_referenceWidth, x_labelValue, x_labelWidth, x_lineCount, x_gapBefore, x_headNeeds, x_groupNeeds, x_wordLine, x_wordLeft, x_lineFirst, x_lineWords, x_lineLeft, x_lineSlack, x_lineNotes, x_lineColumn, x_lineTop, x_columnParagraph, x_columnFirst, x_columnLines, x_columnNotes, x_columnFilled) v') (y_doc, y_tracking, y_view, y_done, y_steps, y_lines, y_columns, y_rounds, y_known, y_many, y_styleOf, y_markOf, y_words, y_width, y_note, y_status, y_styles, y_pages, y_stepKind, y_stepA, y_stepB, y_stepC, y_stepOn, y_ofParagraph, y_firstWord, y_wordsOf, y_slack, y_begin, y_needs, y_notes, y_columnOf, y_topOf, y_firstLine, y_label, y_labelWide, y_counter, y_refWide, y_nextWide, y_columnLine, y_columnLines, y_filled, y_foot) (nI j) (nI t) := fun val hval => by
      subst hval
      unfold wpY_paragraph
      refine re_isT I (fun q => absurd ⟨z1, z2⟩ q) (fun _ _ => br_f (by decide) (yr_in (fun q => absurd ⟨Int32.not_lt.mp w1, Int32.not_lt.mp w2⟩ q) (fun _ _ => br_f (by decide) (re_k I ?_))))
      intro y_lines y_columns y_rounds y_label y_labelWide y_counter y_refWide y_nextWide y_firstLine y_ofParagraph y_firstWord y_wordsOf y_slack y_begin y_needs y_notes y_columnOf y_topOf y_columnLine y_columnLines y_filled y_foot ⟨r', fr', _, lb', _, hB, hF, fC'⟩ I
      obtain rfl := la_finU fr fr'
      subst eview
      exact ⟨_, yr_paL hv Z hF hj ht (lb' j hj) ⟨rfl, I⟩ (dc_w x_doc j) 0 (by omega)⟩
    have jp := vp_in_nI (n := j) (N := 24) (by omega) (by omega)
    have cp := nI_clamp (n := j) (by omega)
    obtain ⟨ew, h16⟩ := dc_Vw hv (p := j) (by omega)
    refine pk_eq t 0 (fun q => ⟨jp, go _ ?_⟩) (fun q0 => pk_eq t 1 (fun q => ⟨jp, go _ ?_⟩) (fun q1 => pk_eq t 2 (fun q => xr_rec rfl ⟨ix_in (ad_0 _) (by omega) (by omega), go _ ?_⟩) (fun q2 => pk_eq t 3 (fun q => xr_rec rfl ⟨ix_in (nI_1 _) (by omega) (by omega), go _ ?_⟩) (fun q3 => pk_eq t 4 (fun q => xr_wo rfl (by omega) (go _ ?_)) (fun q4 => pk_eq t 5 (fun q => xs_cg rfl hv (by omega) (go _ ?_)) (fun q5 => trivial))))))
    · rw [cp, (xB j hj).1]; unfold rd_p; rw [if_pos q]
    · rw [cp, lb j hj]; unfold rd_p; rw [if_neg q0, if_pos q]
    · rw [ix_c (ad_0 _) (by omega)]; unfold rd_p; rw [if_neg q0, if_neg q1, if_pos q]
    · rw [ix_c (nI_1 _) (by omega), show 76 + 51 * j + 1 = 77 + 51 * j from by omega]; unfold rd_p; rw [if_neg q0, if_neg q1, if_neg q2, if_pos q]
    · unfold rd_p; rw [if_neg q0, if_neg q1, if_neg q2, if_neg q3, if_pos q]
    · unfold rd_p; rw [if_neg q0, if_neg q1, if_neg q2, if_neg q3, if_neg q4]
theorem i_vc_line {k : Nat} {u : SX} {v : SY} (I : i_Rel k u v) (hk : k + 4 ≤ 2048) (v1 : Int32) (v2 : Int32) (v3 : Int32) : wpX_line (fun r u' => wpY_line (fun r' v' => r' = r ∧ i_Rel (k + 4) u' v') v v1 v2 v3) u v1 v2 v3 := by
  obtain ⟨x_tracking, x_view, x_slotNow, x_stepsBack, x_stepsAgain, x_stale, x_rounds, x_columnCount, x_doc, x_kept, x_referenceWidth, x_labelValue, x_labelWidth, x_lineCount, x_gapBefore, x_headNeeds, x_groupNeeds, x_wordLine, x_wordLeft, x_lineFirst, x_lineWords, x_lineLeft, x_lineSlack, x_lineNotes, x_lineColumn, x_lineTop, x_columnParagraph, x_columnFirst, x_columnLines, x_columnNotes, x_columnFilled⟩ := u
  obtain ⟨y_doc, y_tracking, y_view, y_done, y_steps, y_lines, y_columns, y_rounds, y_known, y_many, y_styleOf, y_markOf, y_words, y_width, y_note, y_status, y_styles, y_pages, y_stepKind, y_stepA, y_stepB, y_stepC, y_stepOn, y_ofParagraph, y_firstWord, y_wordsOf, y_slack, y_begin, y_needs, y_notes, y_columnOf, y_topOf, y_firstLine, y_label, y_labelWide, y_counter, y_refWide, y_nextWide, y_columnLine, y_columnLines, y_filled, y_foot⟩ := v
  obtain ⟨s, n, _, _, _, _, hv⟩ := re_f I
  obtain ⟨e0, h24⟩ := dc_Vn hv
  unfold wpX_line
  refine xr_isP (fun z => br_t rfl ?_) (fun z1 z2 => br_f (by decide) (re_x I ?_))
  · unfold wpY_line
    exact re_isT I (fun _ => br_t rfl ⟨rfl, I⟩) (fun q1 q2 => absurd ⟨q1, q2⟩ z)
  · intro x_rounds x_columnCount x_referenceWidth x_labelValue x_labelWidth x_lineCount x_wordLine x_wordLeft x_lineFirst x_lineWords x_lineLeft x_lineSlack x_lineNotes x_gapBefore x_headNeeds x_groupNeeds x_lineColumn x_lineTop x_columnParagraph x_columnFirst x_columnLines x_columnNotes x_columnFilled GX I
    obtain ⟨j, hj, rfl⟩ := op_ix z1 (e0 ▸ z2) (by omega)
    have Z := re_z I
    obtain ⟨r, fr, ro, lb, xB, fC⟩ := GX
    have eview : x_view = y_view := I.2.2.1
    obtain ⟨hlc, hT, _⟩ := xB j hj
    have hn := la_nlP (a := x_doc) (rw := la_rk x_doc x_view (r - 1)) (vw := x_view) (dc_Vw hv (p := j) (by omega)).2
    have hF' := la_FsB (rw := la_rk x_doc x_view (r - 1)) (vw := x_view) hv (p := j) (by omega)
    have go : ∀ val : Int32, (¬ (0 ≤ v3 ∧ v3 ≤ 5) → val = -1) → ((0 ≤ v3 ∧ v3 ≤ 5) → ¬ (0 ≤ v2 ∧ v2 ≤ nI (la_nl x_doc x_view (la_rk x_doc x_view (r - 1)) j) - 1) → val = -1) →
        (∀ i t, i < la_nl x_doc x_view (la_rk x_doc x_view (r - 1)) j → t ≤ 5 → v2 = nI i → v3 = nI t → val = rd_l x_doc x_view (la_rk x_doc x_view (r - 1)) j i t) → wpY_line (fun r' v' => r' = val ∧ i_Rel (k + 4) (x_tracking, x_view, x_slotNow, x_stepsBack, x_stepsAgain, 0, x_rounds, x_columnCount, x_doc, x_kept, x_referenceWidth, x_labelValue, x_labelWidth, x_lineCount, x_gapBefore, x_headNeeds, x_groupNeeds, x_wordLine, x_wordLeft, x_lineFirst, x_lineWords, x_lineLeft, x_lineSlack, x_lineNotes, x_lineColumn, x_lineTop, x_columnParagraph, x_columnFirst, x_columnLines, x_columnNotes, x_columnFilled) v') (y_doc, y_tracking, y_view, y_done, y_steps, y_lines, y_columns, y_rounds, y_known, y_many, y_styleOf, y_markOf, y_words, y_width, y_note, y_status, y_styles, y_pages, y_stepKind, y_stepA, y_stepB, y_stepC, y_stepOn, y_ofParagraph, y_firstWord, y_wordsOf, y_slack, y_begin, y_needs, y_notes, y_columnOf, y_topOf, y_firstLine, y_label, y_labelWide, y_counter, y_refWide, y_nextWide, y_columnLine, y_columnLines, y_filled, y_foot) (nI j) v2 v3 := fun val h1 h2 h3 => by
      unfold wpY_line
      refine re_isT I (fun q => absurd ⟨z1, z2⟩ q) (fun _ _ => br_f (by decide) (yr_in (fun q => br_t rfl ⟨(h1 q).symm, I⟩) (fun t1 t2 => br_f (by decide) (re_k I ?_))))
      intro y_lines y_columns y_rounds y_label y_labelWide y_counter y_refWide y_nextWide y_firstLine y_ofParagraph y_firstWord y_wordsOf y_slack y_begin y_needs y_notes y_columnOf y_topOf y_columnLine y_columnLines y_filled y_foot ⟨r', fr', _, lb', _, hB, hF, fC'⟩ I
      obtain rfl := la_finU fr fr'
      subst eview
      refine yr_lo' hv hF rfl hj (yr_in (fun q => br_t rfl ⟨(h2 ⟨t1, t2⟩ q).symm, I⟩) (fun k1 k2 => br_f (by decide) ⟨vp_in_nI (by omega) (by omega), ?_⟩))
      have k2' := k2
      rw [op_m1 (by omega) k1] at k2'
      obtain ⟨i, hi, rfl⟩ := op_ix k1 k2' (by omega)
      obtain ⟨t, ht, rfl⟩ := op_ix2 (n := 5) t1 t2 (by omega)
      have hval := h3 i t hi ht rfl rfl
      subst hval
      obtain ⟨b1, b2, b3, b4, b5, b6, b7⟩ := hB j i (Or.inl ⟨hj, hi⟩)
      obtain ⟨c1, c2⟩ := fC'.2.2 j i (Or.inl ⟨hj, hi⟩)
      have jl := vp_in_nI (n := la_Fs x_doc x_view (la_rk x_doc x_view (r - 1)) j + i) (N := 384) (by omega) (by omega)
      have cl := nI_clamp (n := la_Fs x_doc x_view (la_rk x_doc x_view (r - 1)) j + i) (by omega)
      refine nm_r (e' := nI (la_Fs x_doc x_view (la_rk x_doc x_view (r - 1)) j + i)) (by rw [nI_clamp (by omega), hF j (by omega), nI_add]) (br_f (nI_pos (by omega)) (pk_lt 4 t (fun q => ⟨jl, ?_, I⟩) (fun q => pk_eq t 0 (fun q => ⟨jl, ?_, I⟩) (fun q0 => pk_eq t 1 (fun q => ⟨jl, ?_, I⟩) (fun q1 => pk_eq t 2 (fun q => ⟨jl, ?_, I⟩) (fun q2 => pk_eq t 3 (fun q => ⟨jl, ?_, I⟩) (fun q3 => pk_eq t 4 (fun q => yr_st hv Z hB hj hi rfl ⟨?_, I⟩) (fun q4 => trivial))))))))
      · rw [cl, b4]; unfold rd_l; rw [if_neg (by omega), if_neg (by omega), if_neg (by omega), if_neg (by omega), if_neg (by omega)]
      · rw [cl, b2]; unfold rd_l; rw [if_pos q]
      · rw [cl, b3]; unfold rd_l; rw [if_neg q0, if_pos q]
      · rw [cl, c1]; unfold rd_l; rw [if_neg q0, if_neg q1, if_pos q]
      · rw [cl, c2]; unfold rd_l; rw [if_neg q0, if_neg q1, if_neg q2, if_pos q]
      · unfold rd_l; rw [if_neg q0, if_neg q1, if_neg q2, if_neg q3, if_pos q]
    refine ⟨vp_in_nI (by omega) (by omega), ?_⟩
    rw [nI_clamp (by omega), hlc]
    refine xr_in (fun z => br_t rfl (go _ (fun _ => rfl) (fun _ _ => rfl) (fun i t hi ht e1 e2 => absurd ?_ z))) (fun k1 k2 => br_f (by decide) ?_)
    · subst e1
      refine ⟨nI_pos' (by omega), ?_⟩
      rw [op_m1 (by omega) (nI_pos' (by omega))]; exact nI_lt hi (by omega)
    · have k2' := k2
      rw [op_m1 (by omega) k1] at k2'
      obtain ⟨i, hi, rfl⟩ := op_ix k1 k2' (by omega)
      have bad : ¬ (0 ≤ v3 ∧ v3 ≤ 5) → wpY_line (fun r' v' => r' = -1 ∧ i_Rel (k + 4) (x_tracking, x_view, x_slotNow, x_stepsBack, x_stepsAgain, 0, x_rounds, x_columnCount, x_doc, x_kept, x_referenceWidth, x_labelValue, x_labelWidth, x_lineCount, x_gapBefore, x_headNeeds, x_groupNeeds, x_wordLine, x_wordLeft, x_lineFirst, x_lineWords, x_lineLeft, x_lineSlack, x_lineNotes, x_lineColumn, x_lineTop, x_columnParagraph, x_columnFirst, x_columnLines, x_columnNotes, x_columnFilled) v') (y_doc, y_tracking, y_view, y_done, y_steps, y_lines, y_columns, y_rounds, y_known, y_many, y_styleOf, y_markOf, y_words, y_width, y_note, y_status, y_styles, y_pages, y_stepKind, y_stepA, y_stepB, y_stepC, y_stepOn, y_ofParagraph, y_firstWord, y_wordsOf, y_slack, y_begin, y_needs, y_notes, y_columnOf, y_topOf, y_firstLine, y_label, y_labelWide, y_counter, y_refWide, y_nextWide, y_columnLine, y_columnLines, y_filled, y_foot) (nI j) (nI i) v3 := fun z =>
        go _ (fun _ => rfl) (fun q => absurd q z) (fun i t hi ht e1 e2 => absurd ⟨by rw [e2]; exact nI_pos' (by omega), by rw [e2]; exact nI_le (b := 5) ht (by omega)⟩ z)
      have el := ad_l j i
      have jl := vp_in_nI (n := 16 * j + i) (N := 384) (by omega) (by omega)
      have cl := nI_clamp (n := 16 * j + i) (by omega)
      refine nm_r el (br_c (fun w => bad fun q => Int32.not_lt.mpr q.1 w) (fun w1 => br_c (fun w => bad fun q => Int32.not_lt.mpr q.2 w) (fun w2 => ?_)))
      obtain ⟨t, ht, rfl⟩ := op_ix2 (n := 5) (x := v3) (Int32.not_lt.mp w1) (Int32.not_lt.mp w2) (by omega)
      have good : ∀ val : Int32, val = rd_l x_doc x_view (la_rk x_doc x_view (r - 1)) j i t → wpY_line (fun r' v' => r' = val ∧ i_Rel (k + 4) (x_tracking, x_view, x_slotNow, x_stepsBack, x_stepsAgain, 0, x_rounds, x_columnCount, x_doc, x_kept, x_referenceWidth, x_labelValue, x_labelWidth, x_lineCount, x_gapBefore, x_headNeeds, x_groupNeeds, x_wordLine, x_wordLeft, x_lineFirst, x_lineWords, x_lineLeft, x_lineSlack, x_lineNotes, x_lineColumn, x_lineTop, x_columnParagraph, x_columnFirst, x_columnLines, x_columnNotes, x_columnFilled) v') (y_doc, y_tracking, y_view, y_done, y_steps, y_lines, y_columns, y_rounds, y_known, y_many, y_styleOf, y_markOf, y_words, y_width, y_note, y_status, y_styles, y_pages, y_stepKind, y_stepA, y_stepB, y_stepC, y_stepOn, y_ofParagraph, y_firstWord, y_wordsOf, y_slack, y_begin, y_needs, y_notes, y_columnOf, y_topOf, y_firstLine, y_label, y_labelWide, y_counter, y_refWide, y_nextWide, y_columnLine, y_columnLines, y_filled, y_foot) (nI j) (nI i) (nI t) := fun val hval =>
        go _ (fun z => absurd ⟨Int32.not_lt.mp w1, Int32.not_lt.mp w2⟩ z) (fun _ z => absurd ⟨k1, k2⟩ z) (fun i' t' hi' ht' e1 e2 => by
          obtain rfl := (nI_eq (by omega) (by omega)).mp e1
          obtain rfl := (nI_eq (by omega) (by omega)).mp e2
          exact hval)
      obtain ⟨a1, a2, a3, a4, a5⟩ := hT i hi
      obtain ⟨c1, c2⟩ := fC.2.2 j i (by omega) (Or.inl ⟨hj, hi⟩)
      refine pk_eq t 0 (fun q => ⟨jl, good _ ?_⟩) (fun q0 => pk_eq t 1 (fun q => ⟨jl, good _ ?_⟩) (fun q1 => pk_eq t 2 (fun q => ⟨jl, good _ ?_⟩) (fun q2 => pk_eq t 3 (fun q => ⟨jl, good _ ?_⟩) (fun q3 => pk_eq t 4 (fun q => ⟨jl, good _ ?_⟩) (fun q4 => pk_eq t 5 (fun q => ⟨jl, good _ ?_⟩) (fun q5 => trivial))))))
      · rw [cl, a1]; unfold rd_l; rw [if_pos q]
      · rw [cl, a2]; unfold rd_l; rw [if_neg q0, if_pos q]
      · rw [cl, c1]; unfold rd_l; rw [if_neg q0, if_neg q1, if_pos q]
      · rw [cl, c2]; unfold rd_l; rw [if_neg q0, if_neg q1, if_neg q2, if_pos q]
      · rw [cl, a3]; unfold rd_l; rw [if_neg q0, if_neg q1, if_neg q2, if_neg q3, if_pos q]
      · rw [cl, a4]; unfold rd_l; rw [if_neg q0, if_neg q1, if_neg q2, if_neg q3, if_neg q4]
