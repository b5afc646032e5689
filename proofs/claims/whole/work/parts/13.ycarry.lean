theorem dc_cgc {a b : Nat → Int32} {p : Nat} : ∀ {w : Nat}, (∀ v, v < w → a (81 + 51 * p + 3 * v) = b (81 + 51 * p + 3 * v)) → dc_cg a p w = dc_cg b p w
  | 0, _ => rfl
  | w + 1, h => by
    unfold dc_cg
    rw [dc_cgc (w := w) (fun v hv => h v (by omega)), h w (by omega)]
variable {y_doc y_tracking y_view y_done y_steps y_lines y_columns y_rounds y_known : Int32} {y_many y_styleOf y_markOf y_words y_width y_note y_status y_styles y_pages y_stepKind y_stepA y_stepB y_stepC y_stepOn y_ofParagraph y_firstWord y_wordsOf y_slack y_begin y_needs y_notes y_columnOf y_topOf y_firstLine y_label y_labelWide y_counter y_refWide y_nextWide y_columnLine y_columnLines y_filled y_foot : Nat → Int32} {A : Nat → Nat → Int32} {d : Nat}
theorem ys_rsL {post : Int32 → SY → Prop} {p : Nat} {acc : Int32} (hd : y_doc = nI d) (h2 : d < 2) (hp : p < 24) : ∀ (w c : Nat) (A : Nat → Nat → Int32) (y_many y_pages y_styles y_styleOf y_markOf y_words y_width y_note y_status : Nat → Int32), ya_A A y_many y_pages y_styles y_styleOf y_markOf y_words y_width y_note y_status → dc_V (A d) → w ≤ dc_w (A d) p →
    (∀ y_many1 y_pages1 y_styles1 y_styleOf1 y_markOf1 y_words1 y_width1 y_note1 y_status1, ya_A (ya_s A d (dc_rs p (if acc = 0 then 1 else 2) w (A d))) y_many1 y_pages1 y_styles1 y_styleOf1 y_markOf1 y_words1 y_width1 y_note1 y_status1 → post (nI (c + dc_cg (A d) p w)) (y_doc, y_tracking, y_view, y_done, y_steps, y_lines, y_columns, y_rounds, y_known, y_many1, y_styleOf1, y_markOf1, y_words1, y_width1, y_note1, y_status1, y_styles1, y_pages1, y_stepKind, y_stepA, y_stepB, y_stepC, y_stepOn, y_ofParagraph, y_firstWord, y_wordsOf, y_slack, y_begin, y_needs, y_notes, y_columnOf, y_topOf, y_firstLine, y_label, y_labelWide, y_counter, y_refWide, y_nextWide, y_columnLine, y_columnLines, y_filled, y_foot)) →
    wY_doResolve_30 post (nI p) acc (w + 1) (nI c) (nI w - 1) y_doc y_tracking y_view y_done y_steps y_lines y_columns y_rounds y_known y_many y_styleOf y_markOf y_words y_width y_note y_status y_styles y_pages y_stepKind y_stepA y_stepB y_stepC y_stepOn y_ofParagraph y_firstWord y_wordsOf y_slack y_begin y_needs y_notes y_columnOf y_topOf y_firstLine y_label y_labelWide y_counter y_refWide y_nextWide y_columnLine y_columnLines y_filled y_foot
  | 0, c, A, y_many, y_pages, y_styles, y_styleOf, y_markOf, y_words, y_width, y_note, y_status, H, hv, hw, h => br_t (by decide) (h _ _ _ _ _ _ _ _ _ (by show ya_A (ya_s A d (A d)) y_many y_pages y_styles y_styleOf y_markOf y_words y_width y_note y_status; rw [ya_sI]; exact H))
  | w + 1, c, A, y_many, y_pages, y_styles, y_styleOf, y_markOf, y_words, y_width, y_note, y_status, H, hv, hw, h => by
    have h16 := (dc_Vw hv hp).2
    have e1 : (384 : Int32) * y_doc + 16 * nI p + nI w = nI (384 * d + 16 * p + w) := by rw [hd]; exact ad_yw _ _ _
    have j1 := ix_in (N := 768) e1 (by omega) (by omega)
    have es := ya_status H h2 hp (w := w) (by omega)
    have st : dc_N (A d (81 + 51 * p + 3 * w)) 2 := (dc_Vo hv hp (w := w) (by omega)).2.2
    have hcg : dc_cg (A d) p (w + 1) = dc_cg (A d) p w + if A d (81 + 51 * p + 3 * w) = 0 then 0 else 1 := rfl
    have hrs : dc_rs p (if acc = 0 then 1 else 2) (w + 1) (A d) = dc_rs p (if acc = 0 then 1 else 2) w (if A d (81 + 51 * p + 3 * w) = (if acc = 0 then 1 else 2) then dc_tk (A d) p w else upd (A d) (81 + 51 * p + 3 * w) 0) := rfl
    rw [nI_pred]
    refine br_f (nI_pos (by omega)) ⟨j1, ?_⟩
    rw [ix_c e1 (by omega), ← es]
    refine br_c (fun z => nm_r (Int32.sub_eq_add_neg (nI w) 1).symm ?_) (fun z => nm_r (nI_1 c) ⟨j1, ?_⟩)
    · rw [if_pos z] at hcg
      have hu : ¬ A d (81 + 51 * p + 3 * w) = (if acc = 0 then 1 else 2) := by rw [z]; split <;> decide
      rw [hrs, if_neg hu, op_upd2 z, hcg] at h
      exact ys_rsL hd h2 hp w c A _ _ _ _ _ _ _ _ _ H hv (by omega) h
    · rw [if_neg z] at hcg
      have pl : A d (81 + 51 * p + 3 * w) ≠ (if acc = 0 then 1 else 2) → wY_doResolve_30 post (nI p) acc (w + 1) (nI (c + 1)) (nI w - 1) y_doc y_tracking y_view y_done y_steps y_lines y_columns y_rounds y_known y_many y_styleOf y_markOf y_words y_width y_note (upd y_status (384 * d + 16 * p + w) 0) y_styles y_pages y_stepKind y_stepA y_stepB y_stepC y_stepOn y_ofParagraph y_firstWord y_wordsOf y_slack y_begin y_needs y_notes y_columnOf y_topOf y_firstLine y_label y_labelWide y_counter y_refWide y_nextWide y_columnLine y_columnLines y_filled y_foot := fun hu => by
        rw [hrs, if_neg hu, hcg] at h
        have v := dc_cell (p := p) (j := 5 + 3 * w) (v := nI 0) hv hp (by omega) (dc_R5 (hv.2.2.2.2.1 p hp) (by omega))
        rw [show 76 + 51 * p + (5 + 3 * w) = 81 + 51 * p + 3 * w from by omega] at v
        refine ys_rsL hd h2 hp w (c + 1) _ _ _ _ _ _ _ _ _ _ (yu_status (v := 0) H h2 hp (w := w) (by omega)) (by rw [ya_ss]; exact v) ?_ ?_
        · rw [ya_ss]; unfold dc_w; rw [pk_un (by omega)]; unfold dc_w at hw; omega
        · rw [ya_ss, ya_s2, dc_cgc (b := A d) (fun v hv => pk_un (by omega)), show c + 1 + dc_cg (A d) p w = c + (dc_cg (A d) p w + 1) from by omega]
          exact h
      have tk : A d (81 + 51 * p + 3 * w) = (if acc = 0 then 1 else 2) → wpY_take (fun u => match u with | (y_doc7, y_tracking7, y_view7, y_done7, y_steps7, y_lines7, y_columns7, y_rounds7, y_known7, y_many7, y_styleOf7, y_markOf7, y_words7, y_width7, y_note7, y_status7, y_styles7, y_pages7, y_stepKind7, y_stepA7, y_stepB7, y_stepC7, y_stepOn7, y_ofParagraph7, y_firstWord7, y_wordsOf7, y_slack7, y_begin7, y_needs7, y_notes7, y_columnOf7, y_topOf7, y_firstLine7, y_label7, y_labelWide7, y_counter7, y_refWide7, y_nextWide7, y_columnLine7, y_columnLines7, y_filled7, y_foot7) => (∀ x4_140 : Int32, x4_140 = nI w + (-1) → (wY_doResolve_30 post (nI p) acc (w + 1) (nI (c + 1)) x4_140 y_doc7 y_tracking7 y_view7 y_done7 y_steps7 y_lines7 y_columns7 y_rounds7 y_known7 y_many7 y_styleOf7 y_markOf7 y_words7 y_width7 y_note7 y_status7 y_styles7 y_pages7 y_stepKind7 y_stepA7 y_stepB7 y_stepC7 y_stepOn7 y_ofParagraph7 y_firstWord7 y_wordsOf7 y_slack7 y_begin7 y_needs7 y_notes7 y_columnOf7 y_topOf7 y_firstLine7 y_label7 y_labelWide7 y_counter7 y_refWide7 y_nextWide7 y_columnLine7 y_columnLines7 y_filled7 y_foot7))) (y_doc, y_tracking, y_view, y_done, y_steps, y_lines, y_columns, y_rounds, y_known, y_many, y_styleOf, y_markOf, y_words, y_width, y_note, y_status, y_styles, y_pages, y_stepKind, y_stepA, y_stepB, y_stepC, y_stepOn, y_ofParagraph, y_firstWord, y_wordsOf, y_slack, y_begin, y_needs, y_notes, y_columnOf, y_topOf, y_firstLine, y_label, y_labelWide, y_counter, y_refWide, y_nextWide, y_columnLine, y_columnLines, y_filled, y_foot) (nI p) (nI w) := fun hu => by
        rw [hrs, if_pos hu, hcg] at h
        refine ys_tk rfl rfl hd h2 H hv hp (by omega) ?_
        intro y_many1 y_pages1 y_styles1 y_styleOf1 y_markOf1 y_words1 y_width1 y_note1 y_status1 H1
        obtain ⟨v, ew⟩ := dc_tkV hv hp (w := w) (by omega)
        refine nm_r (Int32.sub_eq_add_neg (nI w) 1).symm (ys_rsL hd h2 hp w (c + 1) _ _ _ _ _ _ _ _ _ _ H1 (by rw [ya_ss]; exact v) (by rw [ya_ss]; omega) ?_)
        have hc : dc_cg (dc_tk (A d) p w) p w = dc_cg (A d) p w := dc_cgc (fun v hv => by unfold dc_tk; rw [pk_un (by omega), cp_out (by omega)])
        rw [ya_ss, ya_s2, hc, show c + 1 + dc_cg (A d) p w = c + (dc_cg (A d) p w + 1) from by omega]
        exact h
      obtain ⟨s1, s2⟩ := st
      have hs : A d (81 + 51 * p + 3 * w) = 1 ∨ A d (81 + 51 * p + 3 * w) = 2 := by
        generalize A d (81 + 51 * p + 3 * w) = x at *
        generalize x.toNatClampNeg = k at *
        subst s1
        have : k = 0 ∨ k = 1 ∨ k = 2 := by omega
        rcases this with rfl | rfl | rfl
        · exact absurd rfl z
        · left; rfl
        · right; rfl
      refine br_c (fun za => br_c (fun ze => ⟨j1, nm_r (by rw [ix_c e1 (by omega)]) (nm_r (Int32.sub_eq_add_neg (nI w) 1).symm (pl ?_))⟩) (fun ze => tk ?_)) (fun za => br_c (fun ze => ⟨j1, nm_r (by rw [ix_c e1 (by omega)]) (nm_r (Int32.sub_eq_add_neg (nI w) 1).symm (pl ?_))⟩) (fun ze => tk ?_))
      · rw [if_pos za, ze]; decide
      · rw [if_pos za]; exact hs.resolve_right ze
      · rw [if_neg za, ze]; decide
      · rw [if_neg za]; exact hs.resolve_left ze
theorem yo_res {post : Int32 → SY → Prop} {p acc : Int32} (hd : y_doc = nI d) (h2 : d < 2) (H : ya_A A y_many y_pages y_styles y_styleOf y_markOf y_words y_width y_note y_status) (hv : dc_V (A d))
    (h : ∀ y_many1 y_pages1 y_styles1 y_styleOf1 y_markOf1 y_words1 y_width1 y_note1 y_status1, ya_A (ya_s A d (op_res (A d) p acc).2) y_many1 y_pages1 y_styles1 y_styleOf1 y_markOf1 y_words1 y_width1 y_note1 y_status1 → post (op_res (A d) p acc).1 (y_doc, y_tracking, y_view, y_done, y_steps, y_lines, y_columns, y_rounds, y_known, y_many1, y_styleOf1, y_markOf1, y_words1, y_width1, y_note1, y_status1, y_styles1, y_pages1, y_stepKind, y_stepA, y_stepB, y_stepC, y_stepOn, y_ofParagraph, y_firstWord, y_wordsOf, y_slack, y_begin, y_needs, y_notes, y_columnOf, y_topOf, y_firstLine, y_label, y_labelWide, y_counter, y_refWide, y_nextWide, y_columnLine, y_columnLines, y_filled, y_foot)) : wpY_doResolve post (y_doc, y_tracking, y_view, y_done, y_steps, y_lines, y_columns, y_rounds, y_known, y_many, y_styleOf, y_markOf, y_words, y_width, y_note, y_status, y_styles, y_pages, y_stepKind, y_stepA, y_stepB, y_stepC, y_stepOn, y_ofParagraph, y_firstWord, y_wordsOf, y_slack, y_begin, y_needs, y_notes, y_columnOf, y_topOf, y_firstLine, y_label, y_labelWide, y_counter, y_refWide, y_nextWide, y_columnLine, y_columnLines, y_filled, y_foot) p acc := by
  obtain ⟨e0, h24⟩ := dc_Vn hv
  have nop : ∀ r : Int32, op_res (A d) p acc = (r, A d) → post r (y_doc, y_tracking, y_view, y_done, y_steps, y_lines, y_columns, y_rounds, y_known, y_many, y_styleOf, y_markOf, y_words, y_width, y_note, y_status, y_styles, y_pages, y_stepKind, y_stepA, y_stepB, y_stepC, y_stepOn, y_ofParagraph, y_firstWord, y_wordsOf, y_slack, y_begin, y_needs, y_notes, y_columnOf, y_topOf, y_firstLine, y_label, y_labelWide, y_counter, y_refWide, y_nextWide, y_columnLine, y_columnLines, y_filled, y_foot) := fun r e => by
    have q := h _ _ _ _ _ _ _ _ _ (yh_0 e H); rw [e] at q; exact q
  unfold wpY_doResolve
  refine yr_isT hd h2 H hv (fun z => br_t rfl (nop _ (if_neg z))) (fun z1 z2 => br_f (by decide) ?_)
  obtain ⟨j, hj, rfl⟩ := op_ix z1 (e0 ▸ z2) (by omega)
  obtain ⟨ew, h16⟩ := dc_Vw hv (p := j) (by omega)
  have ec := nI_clamp (n := j) (by omega)
  have ep : (24 : Int32) * y_doc + nI j = nI (24 * d + j) := by rw [hd]; exact ad_yp _ _
  have eww := ya_words H h2 (p := j) (by omega)
  have e : op_res (A d) (nI j) acc = _ := if_pos ⟨z1, z2⟩
  rw [ec] at e
  refine ⟨ix_in ep (by omega) (by omega), nm_r (e' := nI (dc_w (A d) j) - 1) (by rw [ix_c ep (by omega), ← eww, ew]) ⟨dc_w (A d) j + 1, ?_⟩⟩
  refine ys_rsL (c := 0) hd h2 (by omega) _ A _ _ _ _ _ _ _ _ _ H hv (by omega) ?_
  intro y_many1 y_pages1 y_styles1 y_styleOf1 y_markOf1 y_words1 y_width1 y_note1 y_status1 H1
  rw [Nat.zero_add]
  have q := h _ _ _ _ _ _ _ _ _ (by rw [e]; exact H1); rw [e] at q; exact q
theorem yo_go {post : Int32 → SY → Prop} {w p b c on : Int32} (hd : y_doc = nI d) (h2 : d < 2) (H : ya_A A y_many y_pages y_styles y_styleOf y_markOf y_words y_width y_note y_status) (hv : dc_V (A d))
    (h : ∀ y_many1 y_pages1 y_styles1 y_styleOf1 y_markOf1 y_words1 y_width1 y_note1 y_status1, ya_A (ya_s A d (op_go w p b c on (A d)).2) y_many1 y_pages1 y_styles1 y_styleOf1 y_markOf1 y_words1 y_width1 y_note1 y_status1 → post (op_go w p b c on (A d)).1 (y_doc, y_tracking, y_view, y_done, y_steps, y_lines, y_columns, y_rounds, y_known, y_many1, y_styleOf1, y_markOf1, y_words1, y_width1, y_note1, y_status1, y_styles1, y_pages1, y_stepKind, y_stepA, y_stepB, y_stepC, y_stepOn, y_ofParagraph, y_firstWord, y_wordsOf, y_slack, y_begin, y_needs, y_notes, y_columnOf, y_topOf, y_firstLine, y_label, y_labelWide, y_counter, y_refWide, y_nextWide, y_columnLine, y_columnLines, y_filled, y_foot)) : wpY_carryOut post (y_doc, y_tracking, y_view, y_done, y_steps, y_lines, y_columns, y_rounds, y_known, y_many, y_styleOf, y_markOf, y_words, y_width, y_note, y_status, y_styles, y_pages, y_stepKind, y_stepA, y_stepB, y_stepC, y_stepOn, y_ofParagraph, y_firstWord, y_wordsOf, y_slack, y_begin, y_needs, y_notes, y_columnOf, y_topOf, y_firstLine, y_label, y_labelWide, y_counter, y_refWide, y_nextWide, y_columnLine, y_columnLines, y_filled, y_foot) w p b c on := by
  have res : ¬ (0 ≤ w ∧ w ≤ 7) → ((b = 1 → wY_carryOut_124 post 1 p y_doc y_tracking y_view y_done y_steps y_lines y_columns y_rounds y_known y_many y_styleOf y_markOf y_words y_width y_note y_status y_styles y_pages y_stepKind y_stepA y_stepB y_stepC y_stepOn y_ofParagraph y_firstWord y_wordsOf y_slack y_begin y_needs y_notes y_columnOf y_topOf y_firstLine y_label y_labelWide y_counter y_refWide y_nextWide y_columnLine y_columnLines y_filled y_foot) ∧ (¬ b = 1 → wY_carryOut_124 post 0 p y_doc y_tracking y_view y_done y_steps y_lines y_columns y_rounds y_known y_many y_styleOf y_markOf y_words y_width y_note y_status y_styles y_pages y_stepKind y_stepA y_stepB y_stepC y_stepOn y_ofParagraph y_firstWord y_wordsOf y_slack y_begin y_needs y_notes y_columnOf y_topOf y_firstLine y_label y_labelWide y_counter y_refWide y_nextWide y_columnLine y_columnLines y_filled y_foot)) := fun hw => by
    have ne : ∀ k : Int32, 0 ≤ k ∧ k ≤ 7 → ¬ w = k := fun k hk e => hw (e ▸ hk)
    unfold op_go at h
    rw [if_neg (ne 0 (by decide)), if_neg (ne 1 (by decide)), if_neg (ne 2 (by decide)), if_neg (ne 3 (by decide)), if_neg (ne 4 (by decide)), if_neg (ne 5 (by decide)), if_neg (ne 6 (by decide)), if_neg (ne 7 (by decide))] at h
    refine br_c (fun z => ?_) (fun z => ?_)
    · rw [if_pos z] at h
      unfold wY_carryOut_124
      exact yo_res hd h2 H hv h
    · rw [if_neg z] at h
      unfold wY_carryOut_124
      exact yo_res hd h2 H hv h
  refine br_c (fun z => res fun q => Int32.not_lt.mpr q.1 z) (fun z => br_c (fun z => res fun q => Int32.not_lt.mpr q.2 z) (fun z7 => ?_))
  unfold op_go at h
  refine br_c (fun q => ?_) (fun q0 => br_c (fun q => ?_) (fun q1 => br_c (fun q => ?_) (fun q2 => br_c (fun q => ?_) (fun q3 => br_c (fun q => ?_) (fun q4 => br_c (fun q => ?_) (fun q5 => br_c (fun q => ?_) (fun q6 => br_c (fun q => ?_) (fun q7 => trivial))))))))
  · rw [if_pos q] at h; exact yo_ins hd h2 H hv h
  · rw [if_neg q0, if_pos q] at h; exact yo_rem hd h2 H hv h
  · rw [if_neg q0, if_neg q1, if_pos q] at h; exact yo_sty hd h2 H hv h
  · rw [if_neg q0, if_neg q1, if_neg q2, if_pos q] at h; exact yo_mrk hd h2 H hv h
  · rw [if_neg q0, if_neg q1, if_neg q2, if_neg q3, if_pos q] at h; exact yo_add hd h2 H hv h
  · rw [if_neg q0, if_neg q1, if_neg q2, if_neg q3, if_neg q4, if_pos q] at h; exact yo_drp hd h2 H hv h
  · rw [if_neg q0, if_neg q1, if_neg q2, if_neg q3, if_neg q4, if_neg q5, if_pos q] at h; exact yo_stl hd h2 H h
  · rw [if_neg q0, if_neg q1, if_neg q2, if_neg q3, if_neg q4, if_neg q5, if_neg q6, if_pos q] at h; exact yo_pag hd h2 H h
