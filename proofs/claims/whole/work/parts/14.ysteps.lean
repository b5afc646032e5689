theorem ys_bool {t : Int32} (h : t = 0 ∨ t = 1) : vp_nar .boolean t = t := by rcases h with rfl | rfl <;> rfl
variable {y_doc y_tracking y_view y_done y_steps y_lines y_columns y_rounds y_known : Int32} {y_many y_styleOf y_markOf y_words y_width y_note y_status y_styles y_pages y_stepKind y_stepA y_stepB y_stepC y_stepOn y_ofParagraph y_firstWord y_wordsOf y_slack y_begin y_needs y_notes y_columnOf y_topOf y_firstLine y_label y_labelWide y_counter y_refWide y_nextWide y_columnLine y_columnLines y_filled y_foot : Nat → Int32} {A : Nat → Nat → Int32}
theorem ys_forL {post : SY → Prop} {m : Nat} (hm : m < 20) (hs : y_steps = nI m) (hb : ∀ k, k < 20 → y_stepOn k = 0 ∨ y_stepOn k = 1)
    (h : post (y_doc, y_tracking, y_view, y_done, y_steps, y_lines, y_columns, y_rounds, y_known, y_many, y_styleOf, y_markOf, y_words, y_width, y_note, y_status, y_styles, y_pages, (cp_b y_stepKind 1 0 m), (cp_b y_stepA 1 0 m), (cp_b y_stepB 1 0 m), (cp_b y_stepC 1 0 m), (cp_b y_stepOn 1 0 m), y_ofParagraph, y_firstWord, y_wordsOf, y_slack, y_begin, y_needs, y_notes, y_columnOf, y_topOf, y_firstLine, y_label, y_labelWide, y_counter, y_refWide, y_nextWide, y_columnLine, y_columnLines, y_filled, y_foot)) : ∀ n i, i + n = m →
    wY_forget_57 post y_doc y_tracking y_view y_done y_steps y_lines y_columns y_rounds y_known (n + 1) (nI i) y_many y_styleOf y_markOf y_words y_width y_note y_status y_styles y_pages (cp_b y_stepKind 1 0 i) (cp_b y_stepA 1 0 i) (cp_b y_stepB 1 0 i) (cp_b y_stepC 1 0 i) (cp_b y_stepOn 1 0 i) y_ofParagraph y_firstWord y_wordsOf y_slack y_begin y_needs y_notes y_columnOf y_topOf y_firstLine y_label y_labelWide y_counter y_refWide y_nextWide y_columnLine y_columnLines y_filled y_foot
  | 0, i, hi => by
    obtain rfl : i = m := by omega
    exact br_t (by rw [hs]; exact nI_le (by omega) (by omega)) h
  | n + 1, i, hi => by
    have j0 := vp_in_nI (n := i) (N := 20) (by omega) (by omega)
    have j1 : vp_in (nI i + 1) 20 := ix_in (nI_1 i) (by omega) (by omega)
    have c0 := nI_clamp (n := i) (by omega)
    have c1 : (nI i + 1).toNatClampNeg = 1 + i := ix_c ((nI_1 i).trans (congrArg nI (by omega))) (by omega)
    have cs : ∀ g : Nat → Int32, upd (cp_b g 1 0 i) i (cp_b g 1 0 i (1 + i)) = cp_b g 1 0 (i + 1) := fun g => by
      have z := cp_s (g := g) (s := 1) (t := 0) (n := i) (by omega)
      rw [Nat.zero_add] at z; exact z
    have bo : vp_nar .boolean (cp_b y_stepOn 1 0 i (1 + i)) = cp_b y_stepOn 1 0 i (1 + i) := by
      rw [cp_out (by omega)]; exact ys_bool (hb _ (by omega))
    refine br_f (by rw [hs]; exact nI_ge (by omega) (by omega)) ⟨j1, j0, nm_r (by rw [c0, c1, cs]) ⟨j1, j0, nm_r (by rw [c0, c1, cs]) ⟨j1, j0, nm_r (by rw [c0, c1, cs]) ⟨j1, j0, nm_r (by rw [c0, c1, cs]) ⟨j1, j0, nm_r (by rw [c0, c1, bo, cs]) (nm_r (nI_1 i) ?_)⟩⟩⟩⟩⟩
    exact ys_forL hm hs hb h n (i + 1) (by omega)
theorem ys_for {post : SY → Prop} {m : Nat} (hm : m < 20) (hs : y_steps = nI (m + 1)) (hb : ∀ k, k < 20 → y_stepOn k = 0 ∨ y_stepOn k = 1) (H : ya_A A y_many y_pages y_styles y_styleOf y_markOf y_words y_width y_note y_status) (hv : dc_V (A 1))
    (h : ∀ y_many1 y_pages1 y_styles1 y_styleOf1 y_markOf1 y_words1 y_width1 y_note1 y_status1, ya_A (ya_s A 1 (op_go (y_stepKind 0) (y_stepA 0) (y_stepB 0) (y_stepC 0) (y_stepOn 0) (A 1)).2) y_many1 y_pages1 y_styles1 y_styleOf1 y_markOf1 y_words1 y_width1 y_note1 y_status1 →
      post (0, y_tracking, y_view, y_done, (nI m), y_lines, y_columns, y_rounds, y_known, y_many1, y_styleOf1, y_markOf1, y_words1, y_width1, y_note1, y_status1, y_styles1, y_pages1, (cp_b y_stepKind 1 0 m), (cp_b y_stepA 1 0 m), (cp_b y_stepB 1 0 m), (cp_b y_stepC 1 0 m), (cp_b y_stepOn 1 0 m), y_ofParagraph, y_firstWord, y_wordsOf, y_slack, y_begin, y_needs, y_notes, y_columnOf, y_topOf, y_firstLine, y_label, y_labelWide, y_counter, y_refWide, y_nextWide, y_columnLine, y_columnLines, y_filled, y_foot)) : wpY_forget post (y_doc, y_tracking, y_view, y_done, y_steps, y_lines, y_columns, y_rounds, y_known, y_many, y_styleOf, y_markOf, y_words, y_width, y_note, y_status, y_styles, y_pages, y_stepKind, y_stepA, y_stepB, y_stepC, y_stepOn, y_ofParagraph, y_firstWord, y_wordsOf, y_slack, y_begin, y_needs, y_notes, y_columnOf, y_topOf, y_firstLine, y_label, y_labelWide, y_counter, y_refWide, y_nextWide, y_columnLine, y_columnLines, y_filled, y_foot) := by
  unfold wpY_forget
  refine yo_go (d := 1) rfl (by omega) H hv ?_
  intro y_many1 y_pages1 y_styles1 y_styleOf1 y_markOf1 y_words1 y_width1 y_note1 y_status1 H1
  refine nm_r (e' := nI m) (by rw [hs, nI_pred]) ⟨m + 1, ?_⟩
  have L := ys_forL (post := post) (y_stepKind := y_stepKind) (y_stepA := y_stepA) (y_stepB := y_stepB) (y_stepC := y_stepC) (y_stepOn := y_stepOn) hm rfl hb (h _ _ _ _ _ _ _ _ _ H1) m 0 (by omega)
  rw [cp_0, cp_0, cp_0, cp_0, cp_0] at L
  exact L
theorem ys_go60 {post : Int32 → SY → Prop} {m : Nat} {x1 x2 x3 x4 x5 : Int32} (hm : m < 20) (hs : y_steps = nI m) (ht : y_tracking = 0 ∨ y_tracking = 1)
    (h : post x5 (y_doc, y_tracking, y_view, (nI (m + 1)), (nI (m + 1)), y_lines, y_columns, y_rounds, y_known, y_many, y_styleOf, y_markOf, y_words, y_width, y_note, y_status, y_styles, y_pages, (upd y_stepKind m x1), (upd y_stepA m x2), (upd y_stepB m x3), (upd y_stepC m x4), (upd y_stepOn m y_tracking), y_ofParagraph, y_firstWord, y_wordsOf, y_slack, y_begin, y_needs, y_notes, y_columnOf, y_topOf, y_firstLine, y_label, y_labelWide, y_counter, y_refWide, y_nextWide, y_columnLine, y_columnLines, y_filled, y_foot)) :
    wY_go_60 post x1 x2 x3 x4 x5 y_doc y_tracking y_view y_done y_steps y_lines y_columns y_rounds y_known y_many y_styleOf y_markOf y_words y_width y_note y_status y_styles y_pages y_stepKind y_stepA y_stepB y_stepC y_stepOn y_ofParagraph y_firstWord y_wordsOf y_slack y_begin y_needs y_notes y_columnOf y_topOf y_firstLine y_label y_labelWide y_counter y_refWide y_nextWide y_columnLine y_columnLines y_filled y_foot := by
  have j := ix_in (N := 20) hs hm (by omega)
  have c := ix_c hs (by omega)
  exact ⟨j, nm_r (by rw [c]) ⟨j, nm_r (by rw [c]) ⟨j, nm_r (by rw [c]) ⟨j, nm_r (by rw [c]) ⟨j, nm_r (by rw [c, ys_bool ht]) (nm_r (by rw [hs, nI_1]) h)⟩⟩⟩⟩⟩
/-- go: not kept -/
theorem ys_no {post : Int32 → SY → Prop} {w p b c r : Int32} {a : Nat → Int32} (hd : y_doc = 0) (H : ya_A A y_many y_pages y_styles y_styleOf y_markOf y_words y_width y_note y_status) (hv : dc_V (A 0)) (e : op_go w p b c y_tracking (A 0) = (r, a)) (hr : r < 0 ∨ (w = 8 ∧ r = 0)) (ha : a = A 0)
    (h : ∀ y_many1 y_pages1 y_styles1 y_styleOf1 y_markOf1 y_words1 y_width1 y_note1 y_status1, ya_A A y_many1 y_pages1 y_styles1 y_styleOf1 y_markOf1 y_words1 y_width1 y_note1 y_status1 → post r (y_doc, y_tracking, y_view, y_done, y_steps, y_lines, y_columns, y_rounds, y_known, y_many1, y_styleOf1, y_markOf1, y_words1, y_width1, y_note1, y_status1, y_styles1, y_pages1, y_stepKind, y_stepA, y_stepB, y_stepC, y_stepOn, y_ofParagraph, y_firstWord, y_wordsOf, y_slack, y_begin, y_needs, y_notes, y_columnOf, y_topOf, y_firstLine, y_label, y_labelWide, y_counter, y_refWide, y_nextWide, y_columnLine, y_columnLines, y_filled, y_foot)) : wpY_go post (y_doc, y_tracking, y_view, y_done, y_steps, y_lines, y_columns, y_rounds, y_known, y_many, y_styleOf, y_markOf, y_words, y_width, y_note, y_status, y_styles, y_pages, y_stepKind, y_stepA, y_stepB, y_stepC, y_stepOn, y_ofParagraph, y_firstWord, y_wordsOf, y_slack, y_begin, y_needs, y_notes, y_columnOf, y_topOf, y_firstLine, y_label, y_labelWide, y_counter, y_refWide, y_nextWide, y_columnLine, y_columnLines, y_filled, y_foot) w p b c := by
  unfold wpY_go
  refine yo_go (d := 0) hd (by omega) H hv ?_
  rw [e]
  intro y_many1 y_pages1 y_styles1 y_styleOf1 y_markOf1 y_words1 y_width1 y_note1 y_status1 H1
  have H2 : ya_A A y_many1 y_pages1 y_styles1 y_styleOf1 y_markOf1 y_words1 y_width1 y_note1 y_status1 := by
    have q : ya_A (ya_s A 0 a) y_many1 y_pages1 y_styles1 y_styleOf1 y_markOf1 y_words1 y_width1 y_note1 y_status1 := H1
    rw [ha, ya_sI] at q; exact q
  have h1 := h _ _ _ _ _ _ _ _ _ H2
  by_cases z : r < 0
  · exact br_t z h1
  · obtain ⟨rfl, z2⟩ := hr.resolve_left z
    exact br_f z (br_t rfl (br_t z2 h1))
/-- go: kept, with fewer than 20 steps done -/
theorem ys_go1 {post : Int32 → SY → Prop} {w p b c r : Int32} {a : Nat → Int32} {m : Nat} (hd : y_doc = 0) (H : ya_A A y_many y_pages y_styles y_styleOf y_markOf y_words y_width y_note y_status) (hv : dc_V (A 0)) (e : op_go w p b c y_tracking (A 0) = (r, a)) (hr : ¬ (r < 0 ∨ (w = 8 ∧ r = 0))) (ht : y_tracking = 0 ∨ y_tracking = 1) (hm : y_done = nI m) (h20 : m < 20)
    (h : ∀ y_many1 y_pages1 y_styles1 y_styleOf1 y_markOf1 y_words1 y_width1 y_note1 y_status1, ya_A (ya_s A 0 a) y_many1 y_pages1 y_styles1 y_styleOf1 y_markOf1 y_words1 y_width1 y_note1 y_status1 → post r (y_doc, y_tracking, y_view, (nI (m + 1)), (nI (m + 1)), y_lines, y_columns, y_rounds, 0, y_many1, y_styleOf1, y_markOf1, y_words1, y_width1, y_note1, y_status1, y_styles1, y_pages1, (upd y_stepKind m w), (upd y_stepA m p), (upd y_stepB m b), (upd y_stepC m c), (upd y_stepOn m y_tracking), y_ofParagraph, y_firstWord, y_wordsOf, y_slack, y_begin, y_needs, y_notes, y_columnOf, y_topOf, y_firstLine, y_label, y_labelWide, y_counter, y_refWide, y_nextWide, y_columnLine, y_columnLines, y_filled, y_foot)) : wpY_go post (y_doc, y_tracking, y_view, y_done, y_steps, y_lines, y_columns, y_rounds, y_known, y_many, y_styleOf, y_markOf, y_words, y_width, y_note, y_status, y_styles, y_pages, y_stepKind, y_stepA, y_stepB, y_stepC, y_stepOn, y_ofParagraph, y_firstWord, y_wordsOf, y_slack, y_begin, y_needs, y_notes, y_columnOf, y_topOf, y_firstLine, y_label, y_labelWide, y_counter, y_refWide, y_nextWide, y_columnLine, y_columnLines, y_filled, y_foot) w p b c := by
  unfold wpY_go
  refine yo_go (d := 0) hd (by omega) H hv ?_
  rw [e]
  intro y_many1 y_pages1 y_styles1 y_styleOf1 y_markOf1 y_words1 y_width1 y_note1 y_status1 H1
  have go : wY_go_34 post w p b c r y_doc y_tracking y_view y_done y_steps y_lines y_columns y_rounds y_known y_many1 y_styleOf1 y_markOf1 y_words1 y_width1 y_note1 y_status1 y_styles1 y_pages1 y_stepKind y_stepA y_stepB y_stepC y_stepOn y_ofParagraph y_firstWord y_wordsOf y_slack y_begin y_needs y_notes y_columnOf y_topOf y_firstLine y_label y_labelWide y_counter y_refWide y_nextWide y_columnLine y_columnLines y_filled y_foot := by
    refine br_f (by rw [hm]; exact fun z => absurd ((nI_eq (b := 20) (by omega) (by omega)).mp z) (by omega)) ?_
    exact ys_go60 h20 hm ht (h _ _ _ _ _ _ _ _ _ H1)
  refine br_f (fun z => hr (Or.inl z)) (br_c (fun z => br_f (fun y => hr (Or.inr ⟨z, y⟩)) go) (fun z => go))
/-- go: kept, the oldest step forgotten -/
theorem ys_go2 {post : Int32 → SY → Prop} {w p b c r : Int32} {a : Nat → Int32} (hd : y_doc = 0) (H : ya_A A y_many y_pages y_styles y_styleOf y_markOf y_words y_width y_note y_status) (hv : dc_V (A 0)) (hv1 : dc_V (A 1)) (e : op_go w p b c y_tracking (A 0) = (r, a)) (hr : ¬ (r < 0 ∨ (w = 8 ∧ r = 0))) (ht : y_tracking = 0 ∨ y_tracking = 1) (hm : y_done = nI 20) (hb : ∀ k, k < 20 → y_stepOn k = 0 ∨ y_stepOn k = 1)
    (h : ∀ y_many1 y_pages1 y_styles1 y_styleOf1 y_markOf1 y_words1 y_width1 y_note1 y_status1, ya_A (ya_s (ya_s A 0 a) 1 (op_go (y_stepKind 0) (y_stepA 0) (y_stepB 0) (y_stepC 0) (y_stepOn 0) (A 1)).2) y_many1 y_pages1 y_styles1 y_styleOf1 y_markOf1 y_words1 y_width1 y_note1 y_status1 →
      post r (0, y_tracking, y_view, (nI 20), (nI 20), y_lines, y_columns, y_rounds, 0, y_many1, y_styleOf1, y_markOf1, y_words1, y_width1, y_note1, y_status1, y_styles1, y_pages1, (upd (cp_b y_stepKind 1 0 19) 19 w), (upd (cp_b y_stepA 1 0 19) 19 p), (upd (cp_b y_stepB 1 0 19) 19 b), (upd (cp_b y_stepC 1 0 19) 19 c), (upd (cp_b y_stepOn 1 0 19) 19 y_tracking), y_ofParagraph, y_firstWord, y_wordsOf, y_slack, y_begin, y_needs, y_notes, y_columnOf, y_topOf, y_firstLine, y_label, y_labelWide, y_counter, y_refWide, y_nextWide, y_columnLine, y_columnLines, y_filled, y_foot)) : wpY_go post (y_doc, y_tracking, y_view, y_done, y_steps, y_lines, y_columns, y_rounds, y_known, y_many, y_styleOf, y_markOf, y_words, y_width, y_note, y_status, y_styles, y_pages, y_stepKind, y_stepA, y_stepB, y_stepC, y_stepOn, y_ofParagraph, y_firstWord, y_wordsOf, y_slack, y_begin, y_needs, y_notes, y_columnOf, y_topOf, y_firstLine, y_label, y_labelWide, y_counter, y_refWide, y_nextWide, y_columnLine, y_columnLines, y_filled, y_foot) w p b c := by
  unfold wpY_go
  refine yo_go (d := 0) hd (by omega) H hv ?_
  rw [e]
  intro y_many1 y_pages1 y_styles1 y_styleOf1 y_markOf1 y_words1 y_width1 y_note1 y_status1 H1
  have go : wY_go_34 post w p b c r y_doc y_tracking y_view y_done y_steps y_lines y_columns y_rounds y_known y_many1 y_styleOf1 y_markOf1 y_words1 y_width1 y_note1 y_status1 y_styles1 y_pages1 y_stepKind y_stepA y_stepB y_stepC y_stepOn y_ofParagraph y_firstWord y_wordsOf y_slack y_begin y_needs y_notes y_columnOf y_topOf y_firstLine y_label y_labelWide y_counter y_refWide y_nextWide y_columnLine y_columnLines y_filled y_foot := by
    refine br_t hm ?_
    refine ys_for (m := 19) (by omega) hm hb H1 (by rw [ya_sn (by omega)]; exact hv1) ?_
    intro y_many2 y_pages2 y_styles2 y_styleOf2 y_markOf2 y_words2 y_width2 y_note2 y_status2 H2
    rw [ya_sn (A := A) (d := 0) (e := 1) (by omega)] at H2
    exact ys_go60 (by omega) rfl ht (h _ _ _ _ _ _ _ _ _ H2)
  refine br_f (fun z => hr (Or.inl z)) (br_c (fun z => br_f (fun y => hr (Or.inr ⟨z, y⟩)) go) (fun z => go))
