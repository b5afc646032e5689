variable {y_doc y_tracking y_view y_done y_steps y_lines y_columns y_rounds y_known : Int32} {y_many y_styleOf y_markOf y_words y_width y_note y_status y_styles y_pages y_stepKind y_stepA y_stepB y_stepC y_stepOn y_ofParagraph y_firstWord y_wordsOf y_slack y_begin y_needs y_notes y_columnOf y_topOf y_firstLine y_label y_labelWide y_counter y_refWide y_nextWide y_columnLine y_columnLines y_filled y_foot : Nat → Int32} {A : Nat → Nat → Int32} {d : Nat}
theorem ys_add101 {post : Int32 → SY → Prop} {p n : Nat} {z0 z1 x5 : Int32} (hd : y_doc = nI d) (h2 : d < 2) (hp : p < 24) (hn : n < 16) (hz : z1 = nI (384 * d + 16 * p + n)) (H : ya_A A y_many y_pages y_styles y_styleOf y_markOf y_words y_width y_note y_status)
    (h : ∀ y_many1 y_pages1 y_styles1 y_styleOf1 y_markOf1 y_words1 y_width1 y_note1 y_status1, ya_A (ya_s A d (upd (upd (A d) (81 + 51 * p + 3 * n) z0) (78 + 51 * p) (x5 + 1))) y_many1 y_pages1 y_styles1 y_styleOf1 y_markOf1 y_words1 y_width1 y_note1 y_status1 → post (x5 + 1) (y_doc, y_tracking, y_view, y_done, y_steps, y_lines, y_columns, y_rounds, y_known, y_many1, y_styleOf1, y_markOf1, y_words1, y_width1, y_note1, y_status1, y_styles1, y_pages1, y_stepKind, y_stepA, y_stepB, y_stepC, y_stepOn, y_ofParagraph, y_firstWord, y_wordsOf, y_slack, y_begin, y_needs, y_notes, y_columnOf, y_topOf, y_firstLine, y_label, y_labelWide, y_counter, y_refWide, y_nextWide, y_columnLine, y_columnLines, y_filled, y_foot)) : wY_doAdd_101 post (nI p) x5 z0 z1 y_doc y_tracking y_view y_done y_steps y_lines y_columns y_rounds y_known y_many y_styleOf y_markOf y_words y_width y_note y_status y_styles y_pages y_stepKind y_stepA y_stepB y_stepC y_stepOn y_ofParagraph y_firstWord y_wordsOf y_slack y_begin y_needs y_notes y_columnOf y_topOf y_firstLine y_label y_labelWide y_counter y_refWide y_nextWide y_columnLine y_columnLines y_filled y_foot := by
  have ep : (24 : Int32) * y_doc + nI p = nI (24 * d + p) := by rw [hd]; exact ad_yp _ _
  have H1 := yu_status (v := z0) H h2 (p := p) (w := n) hp hn
  have H2 := yu_words (v := x5 + 1) H1 h2 (p := p) hp
  rw [ya_s2, ya_ss] at H2
  exact ⟨ix_in hz (by omega) (by omega), nm_r (by rw [ix_c hz (by omega)]) ⟨ix_in ep (by omega) (by omega), nm_r (by rw [ix_c ep (by omega)]) (h _ _ _ _ _ _ _ _ _ H2)⟩⟩
theorem yo_add {post : Int32 → SY → Prop} {p wi no on : Int32} (hd : y_doc = nI d) (h2 : d < 2) (H : ya_A A y_many y_pages y_styles y_styleOf y_markOf y_words y_width y_note y_status) (hv : dc_V (A d))
    (h : ∀ y_many1 y_pages1 y_styles1 y_styleOf1 y_markOf1 y_words1 y_width1 y_note1 y_status1, ya_A (ya_s A d (op_add (A d) p wi no on).2) y_many1 y_pages1 y_styles1 y_styleOf1 y_markOf1 y_words1 y_width1 y_note1 y_status1 → post (op_add (A d) p wi no on).1 (y_doc, y_tracking, y_view, y_done, y_steps, y_lines, y_columns, y_rounds, y_known, y_many1, y_styleOf1, y_markOf1, y_words1, y_width1, y_note1, y_status1, y_styles1, y_pages1, y_stepKind, y_stepA, y_stepB, y_stepC, y_stepOn, y_ofParagraph, y_firstWord, y_wordsOf, y_slack, y_begin, y_needs, y_notes, y_columnOf, y_topOf, y_firstLine, y_label, y_labelWide, y_counter, y_refWide, y_nextWide, y_columnLine, y_columnLines, y_filled, y_foot)) : wpY_doAdd post (y_doc, y_tracking, y_view, y_done, y_steps, y_lines, y_columns, y_rounds, y_known, y_many, y_styleOf, y_markOf, y_words, y_width, y_note, y_status, y_styles, y_pages, y_stepKind, y_stepA, y_stepB, y_stepC, y_stepOn, y_ofParagraph, y_firstWord, y_wordsOf, y_slack, y_begin, y_needs, y_notes, y_columnOf, y_topOf, y_firstLine, y_label, y_labelWide, y_counter, y_refWide, y_nextWide, y_columnLine, y_columnLines, y_filled, y_foot) p wi no on := by
  obtain ⟨e0, h24⟩ := dc_Vn hv
  have nop : ∀ r : Int32, op_add (A d) p wi no on = (r, A d) → post r (y_doc, y_tracking, y_view, y_done, y_steps, y_lines, y_columns, y_rounds, y_known, y_many, y_styleOf, y_markOf, y_words, y_width, y_note, y_status, y_styles, y_pages, y_stepKind, y_stepA, y_stepB, y_stepC, y_stepOn, y_ofParagraph, y_firstWord, y_wordsOf, y_slack, y_begin, y_needs, y_notes, y_columnOf, y_topOf, y_firstLine, y_label, y_labelWide, y_counter, y_refWide, y_nextWide, y_columnLine, y_columnLines, y_filled, y_foot) := fun r e => by
    have q := h _ _ _ _ _ _ _ _ _ (yh_0 e H); rw [e] at q; exact q
  unfold wpY_doAdd
  refine yr_isT hd h2 H hv (fun z => br_t rfl (nop _ (if_neg fun q => z q.1))) (fun z1 z2 => br_f (by decide) (br_c (fun z => nop _ (if_neg fun q => q.2.1.1 z)) (fun zw => yr_in (fun z => br_t rfl (nop _ (if_neg fun q => z q.2.1.2))) (fun z3 z4 => br_f (by decide) (yr_in (fun z => br_t rfl (nop _ (if_neg fun q => z q.2.2))) (fun z5 z6 => br_f (by decide) ?_))))))
  obtain ⟨j, hj, rfl⟩ := op_ix z1 (e0 ▸ z2) (by omega)
  obtain ⟨ew, h16⟩ := dc_Vw hv (p := j) (by omega)
  have ec := nI_clamp (n := j) (by omega)
  have ep : (24 : Int32) * y_doc + nI j = nI (24 * d + j) := by rw [hd]; exact ad_yp _ _
  have eww := ya_words H h2 (p := j) (by omega)
  refine ⟨ix_in ep (by omega) (by omega), nm_r (e' := nI (dc_w (A d) j)) (by rw [ix_c ep (by omega), ← eww, ew]) (br_c (fun z => ?_) (fun z => ?_))⟩
  · exact nop (-2) ((if_pos ⟨⟨z1, z2⟩, ⟨zw, z3, z4⟩, ⟨z5, z6⟩⟩).trans (if_pos (by rw [ec, ew]; exact z)))
  · have hn : dc_w (A d) j < 16 := by
      rcases Nat.lt_or_eq_of_le h16 with q | q
      · exact q
      · exact absurd (by rw [q]; rfl) z
    have e : op_add (A d) (nI j) wi no on = _ := (if_pos ⟨⟨z1, z2⟩, ⟨zw, z3, z4⟩, ⟨z5, z6⟩⟩).trans (if_neg (by rw [ec, ew]; exact z))
    rw [ec, ew] at e
    have ea : (384 : Int32) * y_doc + 16 * nI j + nI (dc_w (A d) j) = nI (384 * d + 16 * j + dc_w (A d) j) := by rw [hd]; exact ad_yw _ _ _
    have H1 := yu_width (v := wi) H h2 (p := j) (w := dc_w (A d) j) (by omega) hn
    have H2 := yu_note (v := no) H1 h2 (p := j) (w := dc_w (A d) j) (by omega) hn
    rw [ya_s2, ya_ss] at H2
    have go : ∀ z0 : Int32, z0 = (if on = 0 then 0 else 1) → wY_doAdd_101 post (nI j) (nI (dc_w (A d) j)) z0 ((384 : Int32) * y_doc + 16 * nI j + nI (dc_w (A d) j)) y_doc y_tracking y_view y_done y_steps y_lines y_columns y_rounds y_known y_many y_styleOf y_markOf y_words (upd y_width (384 * d + 16 * j + dc_w (A d) j) wi) (upd y_note (384 * d + 16 * j + dc_w (A d) j) no) y_status y_styles y_pages y_stepKind y_stepA y_stepB y_stepC y_stepOn y_ofParagraph y_firstWord y_wordsOf y_slack y_begin y_needs y_notes y_columnOf y_topOf y_firstLine y_label y_labelWide y_counter y_refWide y_nextWide y_columnLine y_columnLines y_filled y_foot := fun z0 hz => by
      refine ys_add101 (n := dc_w (A d) j) hd h2 (by omega) hn ea H2 ?_
      rw [ya_s2, ya_ss]
      intro y_many1 y_pages1 y_styles1 y_styleOf1 y_markOf1 y_words1 y_width1 y_note1 y_status1 H3
      subst hz
      have q := h _ _ _ _ _ _ _ _ _ (by rw [e]; exact H3); rw [e] at q; exact q
    exact ⟨ix_in ea (by omega) (by omega), nm_r (by rw [ix_c ea (by omega)]) ⟨ix_in ea (by omega) (by omega), nm_r (by rw [ix_c ea (by omega)]) (br_c (fun zt => go 0 (if_pos zt).symm) (fun zt => go 1 (if_neg zt).symm))⟩⟩
/-- take -/
theorem ys_tkL {post : SY → Prop} {p w n : Nat} {x3 : Int32} (hd : y_doc = nI d) (h2 : d < 2) (hp : p < 24) (h3 : x3 = nI (24 * d + p)) (hw : w < n) (hn : n ≤ 16) (hy : y_words (24 * d + p) = nI (n - 1))
    (h : post (y_doc, y_tracking, y_view, y_done, y_steps, y_lines, y_columns, y_rounds, y_known, y_many, y_styleOf, y_markOf, y_words, (cp_b y_width (384 * d + 16 * p + w + 1) (384 * d + 16 * p + w) (n - 1 - w)), (cp_b y_note (384 * d + 16 * p + w + 1) (384 * d + 16 * p + w) (n - 1 - w)), (cp_b y_status (384 * d + 16 * p + w + 1) (384 * d + 16 * p + w) (n - 1 - w)), y_styles, y_pages, y_stepKind, y_stepA, y_stepB, y_stepC, y_stepOn, y_ofParagraph, y_firstWord, y_wordsOf, y_slack, y_begin, y_needs, y_notes, y_columnOf, y_topOf, y_firstLine, y_label, y_labelWide, y_counter, y_refWide, y_nextWide, y_columnLine, y_columnLines, y_filled, y_foot)) : ∀ m i, i + m = n - 1 - w →
    wY_take_19 post (nI p) x3 (m + 1) (nI (w + i)) y_doc y_tracking y_view y_done y_steps y_lines y_columns y_rounds y_known y_many y_styleOf y_markOf y_words (cp_b y_width (384 * d + 16 * p + w + 1) (384 * d + 16 * p + w) i) (cp_b y_note (384 * d + 16 * p + w + 1) (384 * d + 16 * p + w) i) (cp_b y_status (384 * d + 16 * p + w + 1) (384 * d + 16 * p + w) i) y_styles y_pages y_stepKind y_stepA y_stepB y_stepC y_stepOn y_ofParagraph y_firstWord y_wordsOf y_slack y_begin y_needs y_notes y_columnOf y_topOf y_firstLine y_label y_labelWide y_counter y_refWide y_nextWide y_columnLine y_columnLines y_filled y_foot
  | 0, i, hi => by
    obtain rfl : i = n - 1 - w := by omega
    refine ⟨ix_in h3 (by omega) (by omega), ?_⟩
    rw [ix_c h3 (by omega), hy]
    exact br_t (nI_le (by omega) (by omega)) h
  | m + 1, i, hi => by
    refine ⟨ix_in h3 (by omega) (by omega), ?_⟩
    rw [ix_c h3 (by omega), hy]
    have e1 : (384 : Int32) * y_doc + 16 * nI p + nI (w + i) = nI (384 * d + 16 * p + w + i) := by rw [hd]; exact (ad_yw _ _ _).trans (congrArg nI (by omega))
    refine br_f (nI_ge (by omega) (by omega)) (ys_cw (f := 384 * d + 16 * p + w + 1 + i) (t := 384 * d + 16 * p + w + i) (by rw [e1, nI_1]; exact congrArg nI (by omega)) e1 (by omega) (by omega) (nm_r (nI_1 _) ?_))
    rw [cp_s (by omega), cp_s (by omega), cp_s (by omega)]
    exact ys_tkL hd h2 hp h3 hw hn hy h m (i + 1) (by omega)
theorem ys_tk {post : SY → Prop} {x y : Int32} {p w : Nat} (hx : x = nI p) (hy : y = nI w) (hd : y_doc = nI d) (h2 : d < 2) (H : ya_A A y_many y_pages y_styles y_styleOf y_markOf y_words y_width y_note y_status) (hv : dc_V (A d)) (hp : p < 24) (hw : w < dc_w (A d) p)
    (h : ∀ y_many1 y_pages1 y_styles1 y_styleOf1 y_markOf1 y_words1 y_width1 y_note1 y_status1, ya_A (ya_s A d (dc_tk (A d) p w)) y_many1 y_pages1 y_styles1 y_styleOf1 y_markOf1 y_words1 y_width1 y_note1 y_status1 → post (y_doc, y_tracking, y_view, y_done, y_steps, y_lines, y_columns, y_rounds, y_known, y_many1, y_styleOf1, y_markOf1, y_words1, y_width1, y_note1, y_status1, y_styles1, y_pages1, y_stepKind, y_stepA, y_stepB, y_stepC, y_stepOn, y_ofParagraph, y_firstWord, y_wordsOf, y_slack, y_begin, y_needs, y_notes, y_columnOf, y_topOf, y_firstLine, y_label, y_labelWide, y_counter, y_refWide, y_nextWide, y_columnLine, y_columnLines, y_filled, y_foot)) : wpY_take post (y_doc, y_tracking, y_view, y_done, y_steps, y_lines, y_columns, y_rounds, y_known, y_many, y_styleOf, y_markOf, y_words, y_width, y_note, y_status, y_styles, y_pages, y_stepKind, y_stepA, y_stepB, y_stepC, y_stepOn, y_ofParagraph, y_firstWord, y_wordsOf, y_slack, y_begin, y_needs, y_notes, y_columnOf, y_topOf, y_firstLine, y_label, y_labelWide, y_counter, y_refWide, y_nextWide, y_columnLine, y_columnLines, y_filled, y_foot) x y := by
  subst hx hy
  obtain ⟨ew, h16⟩ := dc_Vw hv hp
  have ep : (24 : Int32) * y_doc + nI p = nI (24 * d + p) := by rw [hd]; exact ad_yp _ _
  have jp := ix_in (N := 48) ep (by omega) (by omega)
  have eww := ya_words H h2 hp
  have en : y_words (24 * d + p) - 1 = nI (dc_w (A d) p - 1) := by
    rw [← eww, ew]
    obtain ⟨k, hk⟩ : ∃ k, dc_w (A d) p = k + 1 := ⟨dc_w (A d) p - 1, by omega⟩
    rw [hk, nI_pred]; rfl
  refine ⟨jp, jp, nm_r (e' := upd y_words (24 * d + p) (nI (dc_w (A d) p - 1))) (by rw [ix_c ep (by omega), en]) ⟨dc_w (A d) p - 1 - w + 1, ?_⟩⟩
  have L := ys_tkL (post := post) (y_width := y_width) (y_note := y_note) (y_status := y_status) (y_words := upd y_words (24 * d + p) (nI (dc_w (A d) p - 1))) hd h2 hp ep hw h16 pk_us (h _ _ _ _ _ _ _ _ _ (yu_tk H h2 hp rfl hw h16)) (dc_w (A d) p - 1 - w) 0 (by omega)
  rw [cp_0, cp_0, cp_0] at L
  exact L
/-- doDrop -/
theorem ys_lgL {post : Int32 → SY → Prop} {p : Nat} {on : Int32} (hd : y_doc = nI d) (h2 : d < 2) (hp : p < 24) (H : ya_A A y_many y_pages y_styles y_styleOf y_markOf y_words y_width y_note y_status) : ∀ (w : Nat), w ≤ 16 → wY_doDrop_61 post (nI p) on (match dc_lg (A d) p w with | none => -1 | some v => nI v) y_doc y_tracking y_view y_done y_steps y_lines y_columns y_rounds y_known y_many y_styleOf y_markOf y_words y_width y_note y_status y_styles y_pages y_stepKind y_stepA y_stepB y_stepC y_stepOn y_ofParagraph y_firstWord y_wordsOf y_slack y_begin y_needs y_notes y_columnOf y_topOf y_firstLine y_label y_labelWide y_counter y_refWide y_nextWide y_columnLine y_columnLines y_filled y_foot →
    wY_doDrop_27 post (nI p) on y_doc y_tracking y_view y_done y_steps y_lines y_columns y_rounds y_known y_many y_styleOf y_markOf y_words y_width y_note y_status y_styles y_pages y_stepKind y_stepA y_stepB y_stepC y_stepOn y_ofParagraph y_firstWord y_wordsOf y_slack y_begin y_needs y_notes y_columnOf y_topOf y_firstLine y_label y_labelWide y_counter y_refWide y_nextWide y_columnLine y_columnLines y_filled y_foot (w + 1) (nI w - 1)
  | 0, hw, h => br_t (by decide) h
  | w + 1, hw, h => by
    rw [nI_pred]
    have e1 : (384 : Int32) * y_doc + 16 * nI p + nI w = nI (384 * d + 16 * p + w) := by rw [hd]; exact ad_yw _ _ _
    refine br_f (nI_pos (by omega)) ⟨ix_in e1 (by omega) (by omega), ?_⟩
    rw [ix_c e1 (by omega), ← ya_status H h2 hp (w := w) (by omega)]
    unfold dc_lg at h
    refine br_c (fun z => nm_r (Int32.sub_eq_add_neg (nI w) 1).symm ?_) (fun z => ?_)
    · rw [if_pos z] at h
      exact ys_lgL hd h2 hp H w (by omega) h
    · rw [if_neg z] at h
      exact h
theorem yo_drp {post : Int32 → SY → Prop} {p on : Int32} (hd : y_doc = nI d) (h2 : d < 2) (H : ya_A A y_many y_pages y_styles y_styleOf y_markOf y_words y_width y_note y_status) (hv : dc_V (A d))
    (h : ∀ y_many1 y_pages1 y_styles1 y_styleOf1 y_markOf1 y_words1 y_width1 y_note1 y_status1, ya_A (ya_s A d (op_drp (A d) p on).2) y_many1 y_pages1 y_styles1 y_styleOf1 y_markOf1 y_words1 y_width1 y_note1 y_status1 → post (op_drp (A d) p on).1 (y_doc, y_tracking, y_view, y_done, y_steps, y_lines, y_columns, y_rounds, y_known, y_many1, y_styleOf1, y_markOf1, y_words1, y_width1, y_note1, y_status1, y_styles1, y_pages1, y_stepKind, y_stepA, y_stepB, y_stepC, y_stepOn, y_ofParagraph, y_firstWord, y_wordsOf, y_slack, y_begin, y_needs, y_notes, y_columnOf, y_topOf, y_firstLine, y_label, y_labelWide, y_counter, y_refWide, y_nextWide, y_columnLine, y_columnLines, y_filled, y_foot)) : wpY_doDrop post (y_doc, y_tracking, y_view, y_done, y_steps, y_lines, y_columns, y_rounds, y_known, y_many, y_styleOf, y_markOf, y_words, y_width, y_note, y_status, y_styles, y_pages, y_stepKind, y_stepA, y_stepB, y_stepC, y_stepOn, y_ofParagraph, y_firstWord, y_wordsOf, y_slack, y_begin, y_needs, y_notes, y_columnOf, y_topOf, y_firstLine, y_label, y_labelWide, y_counter, y_refWide, y_nextWide, y_columnLine, y_columnLines, y_filled, y_foot) p on := by
  obtain ⟨e0, h24⟩ := dc_Vn hv
  have nop : ∀ r : Int32, op_drp (A d) p on = (r, A d) → post r (y_doc, y_tracking, y_view, y_done, y_steps, y_lines, y_columns, y_rounds, y_known, y_many, y_styleOf, y_markOf, y_words, y_width, y_note, y_status, y_styles, y_pages, y_stepKind, y_stepA, y_stepB, y_stepC, y_stepOn, y_ofParagraph, y_firstWord, y_wordsOf, y_slack, y_begin, y_needs, y_notes, y_columnOf, y_topOf, y_firstLine, y_label, y_labelWide, y_counter, y_refWide, y_nextWide, y_columnLine, y_columnLines, y_filled, y_foot) := fun r e => by
    have q := h _ _ _ _ _ _ _ _ _ (yh_0 e H); rw [e] at q; exact q
  unfold wpY_doDrop
  refine yr_isT hd h2 H hv (fun z => br_t rfl (nop _ (if_neg z))) (fun z1 z2 => br_f (by decide) ?_)
  obtain ⟨j, hj, rfl⟩ := op_ix z1 (e0 ▸ z2) (by omega)
  obtain ⟨ew, h16⟩ := dc_Vw hv (p := j) (by omega)
  have ec := nI_clamp (n := j) (by omega)
  have ep : (24 : Int32) * y_doc + nI j = nI (24 * d + j) := by rw [hd]; exact ad_yp _ _
  have jp := ix_in (N := 48) ep (by omega) (by omega)
  have eww := ya_words H h2 (p := j) (by omega)
  have e : op_drp (A d) (nI j) on = _ := if_pos ⟨z1, z2⟩
  rw [ec] at e
  refine ⟨jp, nm_r (e' := nI (dc_w (A d) j) - 1) (by rw [ix_c ep (by omega), ← eww, ew]) ⟨dc_w (A d) j + 1, ys_lgL hd h2 (by omega) H _ h16 ?_⟩⟩
  cases hg : dc_lg (A d) j (dc_w (A d) j) with
  | none =>
    rw [hg] at e
    exact br_f (by decide) (nop _ e)
  | some w =>
    rw [hg] at e
    have hw := dc_lgw hg
    have e' : op_drp (A d) (nI j) on = if ¬ on = 0 ∧ A d (81 + 51 * j + 3 * w) = 0 then (A d (78 + 51 * j), upd (A d) (81 + 51 * j + 3 * w) 2) else (nI (dc_w (A d) j - 1), dc_tk (A d) j w) := e
    have tk : ∀ (hc : ¬ (¬ on = 0 ∧ A d (81 + 51 * j + 3 * w) = 0)), wY_doDrop_100 post (nI j) (nI w) y_doc y_tracking y_view y_done y_steps y_lines y_columns y_rounds y_known y_many y_styleOf y_markOf y_words y_width y_note y_status y_styles y_pages y_stepKind y_stepA y_stepB y_stepC y_stepOn y_ofParagraph y_firstWord y_wordsOf y_slack y_begin y_needs y_notes y_columnOf y_topOf y_firstLine y_label y_labelWide y_counter y_refWide y_nextWide y_columnLine y_columnLines y_filled y_foot := fun hc => by
      rw [if_neg hc] at e'
      unfold wY_doDrop_100
      refine ys_tk rfl rfl hd h2 H hv (by omega) hw ?_
      intro y_many1 y_pages1 y_styles1 y_styleOf1 y_markOf1 y_words1 y_width1 y_note1 y_status1 H1
      refine ⟨jp, ?_⟩
      rw [ix_c ep (by omega), ← ya_words H1 h2 (p := j) (by omega), ya_ss]
      have q2 : dc_tk (A d) j w (78 + 51 * j) = nI (dc_w (A d) j - 1) := pk_us
      rw [q2]
      have q := h _ _ _ _ _ _ _ _ _ (by rw [e']; exact H1); rw [e'] at q; exact q
    have e1 : (384 : Int32) * y_doc + 16 * nI j + nI w = nI (384 * d + 16 * j + w) := by rw [hd]; exact ad_yw _ _ _
    have j1 := ix_in (N := 768) e1 (by omega) (by omega)
    have es := ya_status H h2 (p := j) (w := w) (by omega) (by omega)
    refine br_t (nI_pos' (by omega)) (br_c (fun zt => tk fun q => q.1 zt) (fun zt => ⟨j1, ?_⟩))
    rw [ix_c e1 (by omega), ← es]
    refine br_c (fun zs => ⟨j1, nm_e ⟨jp, ?_⟩⟩) (fun zs => tk fun q => zs q.2)
    rw [if_pos ⟨zt, zs⟩] at e'
    have H1 := yu_status (v := 2) H h2 (p := j) (w := w) (by omega) (by omega)
    rw [ix_c ep (by omega), ← eww]
    have q := h _ _ _ _ _ _ _ _ _ (by rw [e']; exact H1); rw [e'] at q; exact q
