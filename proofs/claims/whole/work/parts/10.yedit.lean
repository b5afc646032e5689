variable {y_doc y_tracking y_view y_done y_steps y_lines y_columns y_rounds y_known : Int32} {y_many y_styleOf y_markOf y_words y_width y_note y_status y_styles y_pages y_stepKind y_stepA y_stepB y_stepC y_stepOn y_ofParagraph y_firstWord y_wordsOf y_slack y_begin y_needs y_notes y_columnOf y_topOf y_firstLine y_label y_labelWide y_counter y_refWide y_nextWide y_columnLine y_columnLines y_filled y_foot : Nat → Int32} {A : Nat → Nat → Int32} {d : Nat}
theorem yr_in {post : Int32 → Prop} {v l g : Int32} (h0 : ¬ (l ≤ v ∧ v ≤ g) → post 0) (h1 : l ≤ v → v ≤ g → post 1) : wpY_in post v l g :=
  ⟨fun z => h0 fun q => Int32.not_lt.mpr q.1 z, fun z => ⟨fun y => h0 fun q => Int32.not_lt.mpr q.2 y, fun y => h1 (Int32.not_lt.mp z) (Int32.not_lt.mp y)⟩⟩
theorem yr_isT {post : Int32 → Prop} {x : Int32} (hd : y_doc = nI d) (h2 : d < 2) (H : ya_A A y_many y_pages y_styles y_styleOf y_markOf y_words y_width y_note y_status) (hv : dc_V (A d))
    (h0 : ¬ (0 ≤ x ∧ x < A d 0) → post 0) (h1 : 0 ≤ x → x < A d 0 → post 1) : wpY_isThere post (y_doc, y_tracking, y_view, y_done, y_steps, y_lines, y_columns, y_rounds, y_known, y_many, y_styleOf, y_markOf, y_words, y_width, y_note, y_status, y_styles, y_pages, y_stepKind, y_stepA, y_stepB, y_stepC, y_stepOn, y_ofParagraph, y_firstWord, y_wordsOf, y_slack, y_begin, y_needs, y_notes, y_columnOf, y_topOf, y_firstLine, y_label, y_labelWide, y_counter, y_refWide, y_nextWide, y_columnLine, y_columnLines, y_filled, y_foot) x := by
  obtain ⟨e0, h24⟩ := dc_Vn hv
  have em := ya_many H h2
  refine ⟨ix_in hd h2 (by omega), ?_⟩
  rw [ix_c hd (by omega), ← em, e0]
  refine yr_in (fun z => ⟨rfl, h0 fun q => z ⟨q.1, ?_⟩⟩) (fun z1 z2 => ⟨rfl, h1 z1 ?_⟩)
  · rw [op_m1 (by omega) q.1, ← e0]; exact q.2
  · rw [op_m1 (by omega) z1, ← e0] at z2; exact z2
theorem ys_cw {post : SY → Prop} {x y : Int32} {f t : Nat} (hx : x = nI f) (hy : y = nI t) (hf : f < 768) (ht : t < 768)
    (h : post (y_doc, y_tracking, y_view, y_done, y_steps, y_lines, y_columns, y_rounds, y_known, y_many, y_styleOf, y_markOf, y_words, (upd y_width t (y_width f)), (upd y_note t (y_note f)), (upd y_status t (y_status f)), y_styles, y_pages, y_stepKind, y_stepA, y_stepB, y_stepC, y_stepOn, y_ofParagraph, y_firstWord, y_wordsOf, y_slack, y_begin, y_needs, y_notes, y_columnOf, y_topOf, y_firstLine, y_label, y_labelWide, y_counter, y_refWide, y_nextWide, y_columnLine, y_columnLines, y_filled, y_foot)) : wpY_copyWord post (y_doc, y_tracking, y_view, y_done, y_steps, y_lines, y_columns, y_rounds, y_known, y_many, y_styleOf, y_markOf, y_words, y_width, y_note, y_status, y_styles, y_pages, y_stepKind, y_stepA, y_stepB, y_stepC, y_stepOn, y_ofParagraph, y_firstWord, y_wordsOf, y_slack, y_begin, y_needs, y_notes, y_columnOf, y_topOf, y_firstLine, y_label, y_labelWide, y_counter, y_refWide, y_nextWide, y_columnLine, y_columnLines, y_filled, y_foot) x y := by
  have ix := ix_c hx (by omega)
  have iy := ix_c hy (by omega)
  have jx := ix_in hx hf (by omega)
  have jy := ix_in hy ht (by omega)
  exact ⟨jx, jy, nm_r (by rw [ix, iy]) ⟨jx, jy, nm_r (by rw [ix, iy]) ⟨jx, jy, nm_r (by rw [ix, iy]) h⟩⟩⟩
theorem ys_cpL {post : SY → Prop} {f t : Nat} (hd : y_doc = nI d) (h2 : d < 2) (hf : f < 24) (ht : t < 24) (hne : f ≠ t)
    (h : post (y_doc, y_tracking, y_view, y_done, y_steps, y_lines, y_columns, y_rounds, y_known, y_many, y_styleOf, y_markOf, y_words, (cp_b y_width (384 * d + 16 * f) (384 * d + 16 * t) 16), (cp_b y_note (384 * d + 16 * f) (384 * d + 16 * t) 16), (cp_b y_status (384 * d + 16 * f) (384 * d + 16 * t) 16), y_styles, y_pages, y_stepKind, y_stepA, y_stepB, y_stepC, y_stepOn, y_ofParagraph, y_firstWord, y_wordsOf, y_slack, y_begin, y_needs, y_notes, y_columnOf, y_topOf, y_firstLine, y_label, y_labelWide, y_counter, y_refWide, y_nextWide, y_columnLine, y_columnLines, y_filled, y_foot)) : ∀ n i, i + n = 16 →
    wY_copyParagraph_86 post (nI f) (nI t) (n + 1) (nI i) y_doc y_tracking y_view y_done y_steps y_lines y_columns y_rounds y_known y_many y_styleOf y_markOf y_words (cp_b y_width (384 * d + 16 * f) (384 * d + 16 * t) i) (cp_b y_note (384 * d + 16 * f) (384 * d + 16 * t) i) (cp_b y_status (384 * d + 16 * f) (384 * d + 16 * t) i) y_styles y_pages y_stepKind y_stepA y_stepB y_stepC y_stepOn y_ofParagraph y_firstWord y_wordsOf y_slack y_begin y_needs y_notes y_columnOf y_topOf y_firstLine y_label y_labelWide y_counter y_refWide y_nextWide y_columnLine y_columnLines y_filled y_foot
  | 0, i, hi => by
    obtain rfl : i = 16 := by omega
    exact br_t (nI_le (a := 16) (b := 16) (by omega) (by omega)) h
  | n + 1, i, hi => by
    refine br_f (nI_ge (b := 16) (by omega) (by omega)) (ys_cw (f := 384 * d + 16 * f + i) (t := 384 * d + 16 * t + i) (by rw [hd]; exact ad_yw _ _ _) (by rw [hd]; exact ad_yw _ _ _) (by omega) (by omega) (nm_r (nI_1 i) ?_))
    rw [cp_s (by omega), cp_s (by omega), cp_s (by omega)]
    exact ys_cpL hd h2 hf ht hne h n (i + 1) (by omega)
theorem ys_cp {post : SY → Prop} {x y : Int32} {f t : Nat} (hx : x = nI f) (hy : y = nI t) (hd : y_doc = nI d) (h2 : d < 2) (hf : f < 24) (ht : t < 24) (hne : f ≠ t) (H : ya_A A y_many y_pages y_styles y_styleOf y_markOf y_words y_width y_note y_status)
    (h : ∀ y_many1 y_pages1 y_styles1 y_styleOf1 y_markOf1 y_words1 y_width1 y_note1 y_status1, ya_A (ya_s A d (dc_cp (A d) f t)) y_many1 y_pages1 y_styles1 y_styleOf1 y_markOf1 y_words1 y_width1 y_note1 y_status1 → post (y_doc, y_tracking, y_view, y_done, y_steps, y_lines, y_columns, y_rounds, y_known, y_many1, y_styleOf1, y_markOf1, y_words1, y_width1, y_note1, y_status1, y_styles1, y_pages1, y_stepKind, y_stepA, y_stepB, y_stepC, y_stepOn, y_ofParagraph, y_firstWord, y_wordsOf, y_slack, y_begin, y_needs, y_notes, y_columnOf, y_topOf, y_firstLine, y_label, y_labelWide, y_counter, y_refWide, y_nextWide, y_columnLine, y_columnLines, y_filled, y_foot)) : wpY_copyParagraph post (y_doc, y_tracking, y_view, y_done, y_steps, y_lines, y_columns, y_rounds, y_known, y_many, y_styleOf, y_markOf, y_words, y_width, y_note, y_status, y_styles, y_pages, y_stepKind, y_stepA, y_stepB, y_stepC, y_stepOn, y_ofParagraph, y_firstWord, y_wordsOf, y_slack, y_begin, y_needs, y_notes, y_columnOf, y_topOf, y_firstLine, y_label, y_labelWide, y_counter, y_refWide, y_nextWide, y_columnLine, y_columnLines, y_filled, y_foot) x y := by
  subst hx hy
  have ef : (24 : Int32) * y_doc + nI f = nI (24 * d + f) := by rw [hd]; exact ad_yp _ _
  have et : (24 : Int32) * y_doc + nI t = nI (24 * d + t) := by rw [hd]; exact ad_yp _ _
  have ix := ix_c ef (by omega)
  have iy := ix_c et (by omega)
  have jx := ix_in (N := 48) ef (by omega) (by omega)
  have jy := ix_in (N := 48) et (by omega) (by omega)
  refine ⟨jx, jy, nm_r (by rw [ix, iy]) ⟨jx, jy, nm_r (by rw [ix, iy]) ⟨jx, jy, nm_r (by rw [ix, iy]) ⟨17, ?_⟩⟩⟩⟩
  have L := ys_cpL (post := post) (y_width := y_width) (y_note := y_note) (y_status := y_status) hd h2 hf ht hne (h _ _ _ _ _ _ _ _ _ (yu_cp H h2 hf ht)) 16 0 rfl
  rw [cp_0, cp_0, cp_0] at L
  exact L
/-- doInsert -/
theorem ys_insL {post : Int32 → SY → Prop} {p n : Nat} {s : Int32} (hd : y_doc = nI d) (h2 : d < 2) (hp : p ≤ n) (hn : n < 24) : ∀ (m : Nat) (A : Nat → Nat → Int32) (y_many y_pages y_styles y_styleOf y_markOf y_words y_width y_note y_status : Nat → Int32), p + m < 24 → A d 0 = nI n → ya_A A y_many y_pages y_styles y_styleOf y_markOf y_words y_width y_note y_status →
    (∀ y_many1 y_pages1 y_styles1 y_styleOf1 y_markOf1 y_words1 y_width1 y_note1 y_status1, ya_A (ya_s A d (upd (upd (upd (upd (dc_iL (A d) p m) (76 + 51 * p) s) (77 + 51 * p) (-1)) (78 + 51 * p) 0) 0 (nI n + 1))) y_many1 y_pages1 y_styles1 y_styleOf1 y_markOf1 y_words1 y_width1 y_note1 y_status1 → post (nI n + 1) (y_doc, y_tracking, y_view, y_done, y_steps, y_lines, y_columns, y_rounds, y_known, y_many1, y_styleOf1, y_markOf1, y_words1, y_width1, y_note1, y_status1, y_styles1, y_pages1, y_stepKind, y_stepA, y_stepB, y_stepC, y_stepOn, y_ofParagraph, y_firstWord, y_wordsOf, y_slack, y_begin, y_needs, y_notes, y_columnOf, y_topOf, y_firstLine, y_label, y_labelWide, y_counter, y_refWide, y_nextWide, y_columnLine, y_columnLines, y_filled, y_foot)) →
    wY_doInsert_55 post (nI p) s (m + 1) (nI (p + m)) y_doc y_tracking y_view y_done y_steps y_lines y_columns y_rounds y_known y_many y_styleOf y_markOf y_words y_width y_note y_status y_styles y_pages y_stepKind y_stepA y_stepB y_stepC y_stepOn y_ofParagraph y_firstWord y_wordsOf y_slack y_begin y_needs y_notes y_columnOf y_topOf y_firstLine y_label y_labelWide y_counter y_refWide y_nextWide y_columnLine y_columnLines y_filled y_foot
  | 0, A, y_many, y_pages, y_styles, y_styleOf, y_markOf, y_words, y_width, y_note, y_status, hm, h0, H, h => by
    have ep : (24 : Int32) * y_doc + nI p = nI (24 * d + p) := by rw [hd]; exact ad_yp _ _
    have ip := ix_c ep (by omega)
    have jp := ix_in (N := 48) ep (by omega) (by omega)
    have id := ix_c hd (by omega)
    have jd := ix_in (N := 2) hd h2 (by omega)
    have em := ya_many H h2
    have H1 := yu_styleOf (v := s) H h2 (p := p) (by omega)
    have H2 := yu_markOf (v := -1) H1 h2 (p := p) (by omega)
    rw [ya_s2, ya_ss] at H2
    have H3 := yu_words (v := 0) H2 h2 (p := p) (by omega)
    rw [ya_s2, ya_ss] at H3
    have H4 := yu_many (v := nI n + 1) H3 h2
    rw [ya_s2, ya_ss] at H4
    refine br_t (nI_le (by omega) (by omega)) ⟨jp, nm_r (by rw [ip]) ⟨jp, nm_r (by rw [ip]) ⟨jp, nm_r (by rw [ip]) ⟨jd, jd, nm_r (by rw [id, ← em, h0]) ⟨jd, ?_⟩⟩⟩⟩⟩
    rw [id, pk_us]
    exact h _ _ _ _ _ _ _ _ _ H4
  | m + 1, A, y_many, y_pages, y_styles, y_styleOf, y_markOf, y_words, y_width, y_note, y_status, hm, h0, H, h => by
    refine br_f (nI_ge (by omega) (by omega)) (ys_cp (f := p + m) (t := p + m + 1) (nI_pred _) rfl hd h2 (by omega) (by omega) (by omega) H ?_)
    intro y_many1 y_pages1 y_styles1 y_styleOf1 y_markOf1 y_words1 y_width1 y_note1 y_status1 H1
    refine nm_r (pk_m1 _) (ys_insL hd h2 hp hn m _ _ _ _ _ _ _ _ _ _ (by omega) ?_ H1 ?_)
    · rw [ya_ss, dc_cp0]; exact h0
    · rw [ya_ss, ya_s2]; exact h
