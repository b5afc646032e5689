theorem la_tuE {a rw : Nat → Int32} {vw : Int32} {S : la_F} {p k : Nat} : la_tu a vw rw S p k = if 0 ≤ la_fh a S - dc_v a p 5 - la_no a vw rw p k then
    (if k + 2 = la_nl a vw rw p then (if dc_v a p 11 = 0 then false else if la_sf a vw rw p = true then false else !decide (dc_v a p 5 + la_no a vw rw p (k + 1) ≤ la_fh a S - dc_v a p 5 - la_no a vw rw p k)) else false)
  else true := rfl
theorem la_opE {a rw : Nat → Int32} {vw : Int32} {S : la_F} {p : Nat} : la_op a vw rw S p = if p = 0 then true else if dc_v a p 10 = 1 then true else
  !decide ((if a 2 < la_gr a vw rw (dc_n a - 1 - p) p then la_hs a vw rw p (la_hd a vw rw p) else la_gr a vw rw (dc_n a - 1 - p) p) ≤ la_fh a S - la_gb a p) := rfl
variable {y_doc y_tracking y_view y_done y_steps y_lines y_columns y_rounds y_known : Int32} {y_many y_styleOf y_markOf y_words y_width y_note y_status y_styles y_pages y_stepKind y_stepA y_stepB y_stepC y_stepOn y_ofParagraph y_firstWord y_wordsOf y_slack y_begin y_needs y_notes y_columnOf y_topOf y_firstLine y_label y_labelWide y_counter y_refWide y_nextWide y_columnLine y_columnLines y_filled y_foot : Nat → Int32} {a rw : Nat → Int32}
theorem yp_L {post : SY → Prop} {p : Nat} {lo : Int32} (hv : dc_V a) (Z : yz_Z a y_many y_pages y_styles y_styleOf y_markOf y_words y_width y_note y_status) (HB : yb_B a y_view rw (dc_n a) 0 y_ofParagraph y_firstWord y_wordsOf y_slack y_begin y_needs y_notes) (hp : p < dc_n a) (hlo : (lo = 1 ∧ dc_v a p 11 = 1 ∧ ¬ la_sf a y_view rw p = true) ∨ (lo = 0 ∧ ¬ (dc_v a p 11 = 1 ∧ ¬ la_sf a y_view rw p = true)))
    (h : ∀ y_columns y_columnOf y_topOf y_columnLine y_columnLines y_filled y_foot, yf_C a y_view rw (la_fl a y_view rw (p + 1)) (p + 1) 0 y_columns y_columnOf y_topOf y_columnLine y_columnLines y_filled y_foot → post (y_doc, y_tracking, y_view, y_done, y_steps, y_lines, y_columns, y_rounds, y_known, y_many, y_styleOf, y_markOf, y_words, y_width, y_note, y_status, y_styles, y_pages, y_stepKind, y_stepA, y_stepB, y_stepC, y_stepOn, y_ofParagraph, y_firstWord, y_wordsOf, y_slack, y_begin, y_needs, y_notes, y_columnOf, y_topOf, y_firstLine, y_label, y_labelWide, y_counter, y_refWide, y_nextWide, y_columnLine, y_columnLines, y_filled, y_foot)) : ∀ (d k : Nat) (y_columns : Int32) (y_columnOf y_topOf y_columnLine y_columnLines y_filled y_foot : Nat → Int32), k + d = la_nl a y_view rw p → 1 ≤ k → yf_C a y_view rw (la_fp a y_view rw (la_fl a y_view rw p) p k) p k y_columns y_columnOf y_topOf y_columnLine y_columnLines y_filled y_foot →
    wY_place_202 post (nI (la_Fs a y_view rw p)) (nI (la_nl a y_view rw p)) lo (d + 1) (nI k) y_doc y_tracking y_view y_done y_steps y_lines y_columns y_rounds y_known y_many y_styleOf y_markOf y_words y_width y_note y_status y_styles y_pages y_stepKind y_stepA y_stepB y_stepC y_stepOn y_ofParagraph y_firstWord y_wordsOf y_slack y_begin y_needs y_notes y_columnOf y_topOf y_firstLine y_label y_labelWide y_counter y_refWide y_nextWide y_columnLine y_columnLines y_filled y_foot
  | 0, k, y_columns, y_columnOf, y_topOf, y_columnLine, y_columnLines, y_filled, y_foot, hk, hk1, H => by
    have h24 := (dc_Vn hv).2
    have hn := (la_nlP (a := a) (rw := rw) (vw := y_view) (dc_Vw hv (p := p) (by omega)).2).2.1
    obtain rfl : k = la_nl a y_view rw p := by omega
    refine br_t (nI_le (by omega) (by omega)) (h _ _ _ _ _ _ _ ⟨H.1, H.2.1, fun q j hq => H.2.2 q j ?_⟩)
    rcases hq with ⟨q1, q2⟩ | ⟨q1, q2⟩
    · by_cases e : q = p
      · subst e; exact Or.inr ⟨rfl, q2⟩
      · exact Or.inl ⟨by omega, q2⟩
    · exact absurd q2 (by omega)
  | d + 1, k, y_columns, y_columnOf, y_topOf, y_columnLine, y_columnLines, y_filled, y_foot, hk, hk1, H => by
    have h24 := (dc_Vn hv).2
    have hp24 : p < 24 := by omega
    have hn := (la_nlP (a := a) (rw := rw) (vw := y_view) (dc_Vw hv hp24).2).2.1
    have hF := la_FsB (rw := rw) (vw := y_view) hv (p := p) (by omega)
    obtain ⟨g1, g2⟩ := la_flI (rw := rw) (vw := y_view) hv p (by omega)
    obtain ⟨q1, q2, q3⟩ := la_fpI (rw := rw) (vw := y_view) hv hp24 g1 g2 k
    have qb := q1.1
    have q2' := q2 hk1
    have q4 := (la_adI (rw := rw) (vw := y_view) hv hp24 q1 q3).2.2
    obtain ⟨f1, f2⟩ := la_fhB hv q1 q2' (by omega)
    have ei : la_is a y_view rw (la_fp a y_view rw (la_fl a y_view rw p) p k) p k = la_tu a y_view rw (la_fp a y_view rw (la_fl a y_view rw p) p k) p k := if_neg (by omega)
    have ih := yp_L hv Z HB hp hlo h d (k + 1)
    have estep : la_fp a y_view rw (la_fl a y_view rw p) p (k + 1) = la_put a y_view rw (if la_is a y_view rw (la_fp a y_view rw (la_fl a y_view rw p) p k) p k = true then la_new (la_fp a y_view rw (la_fl a y_view rw p) p k) p k else la_fp a y_view rw (la_fl a y_view rw p) p k) p k := rfl
    rw [estep] at ih
    have ex : nI (la_Fs a y_view rw p) + nI k = nI (la_Fs a y_view rw p + k) := nI_add _ _
    have f275 : ∀ (S : la_F) (y_columns : Int32) (y_columnOf y_topOf y_columnLine y_columnLines y_filled y_foot : Nat → Int32), S = (if la_is a y_view rw (la_fp a y_view rw (la_fl a y_view rw p) p k) p k = true then la_new (la_fp a y_view rw (la_fl a y_view rw p) p k) p k else la_fp a y_view rw (la_fl a y_view rw p) p k) → S.1 ≤ 384 → yf_C a y_view rw S p k y_columns y_columnOf y_topOf y_columnLine y_columnLines y_filled y_foot →
        wY_place_275 post (wY_place_202 post (nI (la_Fs a y_view rw p)) (nI (la_nl a y_view rw p)) lo (d + 1)) (nI (la_Fs a y_view rw p)) (nI (la_nl a y_view rw p)) lo (nI k) y_doc y_tracking y_view y_done y_steps y_lines y_columns y_rounds y_known y_many y_styleOf y_markOf y_words y_width y_note y_status y_styles y_pages y_stepKind y_stepA y_stepB y_stepC y_stepOn y_ofParagraph y_firstWord y_wordsOf y_slack y_begin y_needs y_notes y_columnOf y_topOf y_firstLine y_label y_labelWide y_counter y_refWide y_nextWide y_columnLine y_columnLines y_filled y_foot := fun S cc y_columnOf1 y_topOf1 y_columnLine1 y_columnLines1 y_filled1 y_foot1 eS hS H' => by
      rw [← eS] at ih q4
      unfold wY_place_275
      refine yf_put hv HB ex hp (by omega) (by unfold la_ga; rw [if_neg (by omega)]) q4 hS H' ?_
      intro y_columnOf y_topOf y_columnLine y_columnLines y_filled y_foot H2
      exact nm_r (nI_1 k) (ih _ _ _ _ _ _ _ (by omega) (by omega) H2)
    have f267 : la_tu a y_view rw (la_fp a y_view rw (la_fl a y_view rw p) p k) p k = true → wY_place_267 post (wY_place_202 post (nI (la_Fs a y_view rw p)) (nI (la_nl a y_view rw p)) lo (d + 1)) (nI (la_Fs a y_view rw p)) (nI (la_nl a y_view rw p)) lo (nI k) y_doc y_tracking y_view y_done y_steps y_lines y_columns y_rounds y_known y_many y_styleOf y_markOf y_words y_width y_note y_status y_styles y_pages y_stepKind y_stepA y_stepB y_stepC y_stepOn y_ofParagraph y_firstWord y_wordsOf y_slack y_begin y_needs y_notes y_columnOf y_topOf y_firstLine y_label y_labelWide y_counter y_refWide y_nextWide y_columnLine y_columnLines y_filled y_foot := fun z => by
      unfold wY_place_267
      refine yf_new ex hp (by omega) (by omega) H ?_
      intro y_columns y_columnOf y_topOf y_columnLine y_columnLines y_filled y_foot H2
      exact f275 _ _ _ _ _ _ _ _ (if_pos (ei.trans z)).symm (by show _ + 1 ≤ 384; omega) H2
    have f275n : ¬ la_tu a y_view rw (la_fp a y_view rw (la_fl a y_view rw p) p k) p k = true → wY_place_275 post (wY_place_202 post (nI (la_Fs a y_view rw p)) (nI (la_nl a y_view rw p)) lo (d + 1)) (nI (la_Fs a y_view rw p)) (nI (la_nl a y_view rw p)) lo (nI k) y_doc y_tracking y_view y_done y_steps y_lines y_columns y_rounds y_known y_many y_styleOf y_markOf y_words y_width y_note y_status y_styles y_pages y_stepKind y_stepA y_stepB y_stepC y_stepOn y_ofParagraph y_firstWord y_wordsOf y_slack y_begin y_needs y_notes y_columnOf y_topOf y_firstLine y_label y_labelWide y_counter y_refWide y_nextWide y_columnLine y_columnLines y_filled y_foot := fun z =>
      f275 _ _ _ _ _ _ _ _ (if_neg (fun q => z (ei.symm.trans q))).symm (by omega) H
    have jx := ix_in (N := 384) ex (by omega) (by omega)
    have cx := ix_c ex (by omega)
    have bn := (HB p k (Or.inl ⟨hp, by omega⟩)).2.2.2.2.2.1
    obtain ⟨b, eb, hb⟩ := la_hB hv hp24
    obtain ⟨c, ec, hc⟩ := la_noB (rw := rw) (vw := y_view) hv hp24 (k := k)
    have cm1 := la_cm1 (b := b) (c := c) f1 f2 (by omega) (by omega)
    rw [← eb, ← ec] at cm1
    refine br_f (nI_ge (by omega) (by omega)) (yf_free Z q2' (by omega) H ⟨jx, ?_⟩)
    rw [cx, bn]
    have tu := la_tuE (a := a) (vw := y_view) (rw := rw) (S := la_fp a y_view rw (la_fl a y_view rw p) p k) (p := p) (k := k)
    refine br_c (fun z => f267 ?_) (fun z => ?_)
    · rw [tu, if_neg (cm1.mp z)]
    · have z0 : 0 ≤ la_fh a (la_fp a y_view rw (la_fl a y_view rw p) p k) - dc_v a p 5 - la_no a y_view rw p k := by
        by_cases q : 0 ≤ la_fh a (la_fp a y_view rw (la_fl a y_view rw p) p k) - dc_v a p 5 - la_no a y_view rw p k
        · exact q
        · exact absurd (cm1.mpr q) z
      rw [if_pos z0] at tu
      have p11 : dc_v a p 11 = 0 ∨ dc_v a p 11 = 1 := by
        obtain ⟨m, hm, em⟩ := yl_N' ((dc_Vt hv hp24 (t := 11) (by omega)).2.2.2 rfl)
        have : m = 0 ∨ m = 1 := by omega
        rcases this with rfl | rfl
        · exact Or.inl em
        · exact Or.inr em
      rcases hlo with ⟨l1, l2, l3⟩ | ⟨l1, l2⟩
      · subst l1
        have n0 : ¬ dc_v a p 11 = 0 := fun q => by rw [l2] at q; exact absurd q (by decide)
        have ek : nI k = nI (la_nl a y_view rw p) - 2 ↔ k + 2 = la_nl a y_view rw p := by
          have e2 : nI (la_nl a y_view rw p) - 2 = nI (la_nl a y_view rw p - 2) := pk_sub (b := 2) (by omega)
          rw [e2, nI_eq (by omega) (by omega)]; omega
        refine br_f (by decide) (br_c (fun y => ⟨jx, ix_in ((congrArg (· + 1) ex).trans (nI_1 _)) (by have := ek.mp y; omega) (by omega), ?_⟩) (fun y => f275n ?_))
        · have y' := ek.mp y
          rw [if_pos y', if_neg n0, if_neg l3] at tu
          obtain ⟨c', ec', hc'⟩ := la_noB (rw := rw) (vw := y_view) hv hp24 (k := k + 1)
          have cm2 := la_cm2 (b := b) (c := c) (d := c') f1 f2 (by omega) (by omega) (by omega)
          rw [← eb, ← ec, ← ec'] at cm2
          have bn1 := (HB p (k + 1) (Or.inl ⟨hp, by omega⟩)).2.2.2.2.2.1
          rw [ix_c ((congrArg (· + 1) ex).trans (nI_1 _)) (by omega), show la_Fs a y_view rw p + k + 1 = la_Fs a y_view rw p + (k + 1) from by omega, bn1]
          refine br_c (fun w => f275n ?_) (fun w => f267 ?_)
          · rw [tu, decide_eq_true (cm2.mp w)]; decide
          · rw [tu, decide_eq_false (fun q => w (cm2.mpr q))]; rfl
        · rw [tu, if_neg (fun q => y (ek.mpr q))]; decide
      · subst l1
        refine br_t rfl (f275n ?_)
        rw [tu]
        by_cases y : k + 2 = la_nl a y_view rw p
        · rw [if_pos y]
          by_cases n0 : dc_v a p 11 = 0
          · rw [if_pos n0]; decide
          · rw [if_neg n0]
            have s : la_sf a y_view rw p = true := by
              by_cases s : la_sf a y_view rw p = true
              · exact s
              · exact absurd ⟨p11.resolve_left n0, s⟩ l2
            rw [if_pos s]; decide
        · rw [if_neg y]; decide
theorem ys_place {post : SY → Prop} {x : Int32} {p : Nat} (hv : dc_V a) (Z : yz_Z a y_many y_pages y_styles y_styleOf y_markOf y_words y_width y_note y_status) (HB : yb_B a y_view rw (dc_n a) 0 y_ofParagraph y_firstWord y_wordsOf y_slack y_begin y_needs y_notes) (HF : ∀ q, q ≤ dc_n a → y_firstLine q = nI (la_Fs a y_view rw q)) (hx : x = nI p) (hp : p < dc_n a) (H : yf_C a y_view rw (la_fl a y_view rw p) p 0 y_columns y_columnOf y_topOf y_columnLine y_columnLines y_filled y_foot)
    (h : ∀ y_columns y_columnOf y_topOf y_columnLine y_columnLines y_filled y_foot, yf_C a y_view rw (la_fl a y_view rw (p + 1)) (p + 1) 0 y_columns y_columnOf y_topOf y_columnLine y_columnLines y_filled y_foot → post (y_doc, y_tracking, y_view, y_done, y_steps, y_lines, y_columns, y_rounds, y_known, y_many, y_styleOf, y_markOf, y_words, y_width, y_note, y_status, y_styles, y_pages, y_stepKind, y_stepA, y_stepB, y_stepC, y_stepOn, y_ofParagraph, y_firstWord, y_wordsOf, y_slack, y_begin, y_needs, y_notes, y_columnOf, y_topOf, y_firstLine, y_label, y_labelWide, y_counter, y_refWide, y_nextWide, y_columnLine, y_columnLines, y_filled, y_foot)) : wpY_place post (y_doc, y_tracking, y_view, y_done, y_steps, y_lines, y_columns, y_rounds, y_known, y_many, y_styleOf, y_markOf, y_words, y_width, y_note, y_status, y_styles, y_pages, y_stepKind, y_stepA, y_stepB, y_stepC, y_stepOn, y_ofParagraph, y_firstWord, y_wordsOf, y_slack, y_begin, y_needs, y_notes, y_columnOf, y_topOf, y_firstLine, y_label, y_labelWide, y_counter, y_refWide, y_nextWide, y_columnLine, y_columnLines, y_filled, y_foot) x := by
  subst hx
  have h24 := (dc_Vn hv).2
  have hp24 : p < 24 := by omega
  have hn := la_nlP (a := a) (rw := rw) (vw := y_view) (dc_Vw hv hp24).2
  have hh := la_hdB (a := a) (rw := rw) (vw := y_view) (dc_Vw hv hp24).2
  have hF := la_FsB (rw := rw) (vw := y_view) hv (p := p) (by omega)
  obtain ⟨g1, g2⟩ := la_flI (rw := rw) (vw := y_view) hv p (by omega)
  have g3 : (la_fl a y_view rw p).1 = 0 → la_is a y_view rw (la_fl a y_view rw p) p 0 = true := fun z => by
    show la_op a y_view rw (la_fl a y_view rw p) p = true
    unfold la_op; rw [if_pos (g2 z)]
  have gb := g1.1
  have q4 := (la_adI (rw := rw) (vw := y_view) hv hp24 g1 g3).2.2
  have ei : la_is a y_view rw (la_fl a y_view rw p) p 0 = la_op a y_view rw (la_fl a y_view rw p) p := rfl
  have f127 : ∀ (S : la_F) (y_columns : Int32) (y_columnOf y_topOf y_columnLine y_columnLines y_filled y_foot : Nat → Int32), S = (if la_is a y_view rw (la_fl a y_view rw p) p 0 = true then la_new (la_fl a y_view rw p) p 0 else la_fl a y_view rw p) → S.1 ≤ 384 → la_J S 384 384 → (p = 0 → S.2.2.2.1 (S.1 - 1) = 0) → yf_C a y_view rw S p 0 y_columns y_columnOf y_topOf y_columnLine y_columnLines y_filled y_foot →
      wY_place_127 post (nI p) (nI (la_Fs a y_view rw p)) (nI (la_nl a y_view rw p)) y_doc y_tracking y_view y_done y_steps y_lines y_columns y_rounds y_known y_many y_styleOf y_markOf y_words y_width y_note y_status y_styles y_pages y_stepKind y_stepA y_stepB y_stepC y_stepOn y_ofParagraph y_firstWord y_wordsOf y_slack y_begin y_needs y_notes y_columnOf y_topOf y_firstLine y_label y_labelWide y_counter y_refWide y_nextWide y_columnLine y_columnLines y_filled y_foot := fun S y_columns y_columnOf y_topOf y_columnLine y_columnLines y_filled y_foot eS hS hJ h0 H' => by
    have q4' : 1 ≤ S.1 := by rw [eS]; exact q4
    have ec : y_columns - 1 = nI (S.1 - 1) := by rw [H'.1]; exact pk_sub (b := 1) q4'
    obtain ⟨w1, _⟩ := H'.2.1 (S.1 - 1) (by omega)
    obtain ⟨m, _, _, em, hm, _⟩ := hJ.2 (S.1 - 1) (by omega)
    have f190 : ∀ lo z0 : Int32, ((lo = 1 ∧ dc_v a p 11 = 1 ∧ ¬ la_sf a y_view rw p = true) ∨ (lo = 0 ∧ ¬ (dc_v a p 11 = 1 ∧ ¬ la_sf a y_view rw p = true))) → z0 = la_ga a S p 0 → wY_place_190 post (nI (la_Fs a y_view rw p)) (nI (la_nl a y_view rw p)) lo z0 y_doc y_tracking y_view y_done y_steps y_lines y_columns y_rounds y_known y_many y_styleOf y_markOf y_words y_width y_note y_status y_styles y_pages y_stepKind y_stepA y_stepB y_stepC y_stepOn y_ofParagraph y_firstWord y_wordsOf y_slack y_begin y_needs y_notes y_columnOf y_topOf y_firstLine y_label y_labelWide y_counter y_refWide y_nextWide y_columnLine y_columnLines y_filled y_foot := fun lo z0 hlo hz => by
      unfold wY_place_190
      refine yf_put (k := 0) hv HB rfl hp (by omega) hz q4' hS H' ?_
      intro y_columnOf y_topOf y_columnLine y_columnLines y_filled y_foot H2
      refine ⟨la_nl a y_view rw p - 1 + 1, yp_L hv Z HB hp hlo h (la_nl a y_view rw p - 1) 1 _ _ _ _ _ _ _ (by omega) (by omega) ?_⟩
      have estep : la_fp a y_view rw (la_fl a y_view rw p) p 1 = la_put a y_view rw (if la_is a y_view rw (la_fl a y_view rw p) p 0 = true then la_new (la_fl a y_view rw p) p 0 else la_fl a y_view rw p) p 0 := rfl
      rw [estep, ← eS]; exact H2
    have f172 : ∀ lo em : Int32, ((lo = 1 ∧ dc_v a p 11 = 1 ∧ ¬ la_sf a y_view rw p = true) ∨ (lo = 0 ∧ ¬ (dc_v a p 11 = 1 ∧ ¬ la_sf a y_view rw p = true))) → ((em = 1 ∧ S.2.2.2.1 (S.1 - 1) = 0) ∨ (em = 0 ∧ ¬ S.2.2.2.1 (S.1 - 1) = 0)) → wY_place_172 post (nI p) (nI (la_Fs a y_view rw p)) (nI (la_nl a y_view rw p)) em lo y_doc y_tracking y_view y_done y_steps y_lines y_columns y_rounds y_known y_many y_styleOf y_markOf y_words y_width y_note y_status y_styles y_pages y_stepKind y_stepA y_stepB y_stepC y_stepOn y_ofParagraph y_firstWord y_wordsOf y_slack y_begin y_needs y_notes y_columnOf y_topOf y_firstLine y_label y_labelWide y_counter y_refWide y_nextWide y_columnLine y_columnLines y_filled y_foot := fun lo em' hlo hem => by
      rcases hem with ⟨rfl, z⟩ | ⟨rfl, z⟩
      · refine br_f (by decide) (f190 lo 0 hlo ?_)
        unfold la_ga; rw [if_pos rfl, z, if_pos (by decide)]
      · have hp0 : p ≠ 0 := fun q => z (h0 q)
        refine br_t rfl (yr_gap (p := p - 1) hv Z (pk_sub (b := 1) (by omega)) (by omega) (f190 lo _ hlo ?_))
        rw [show p - 1 + 1 = p from by omega]
        unfold la_ga
        rw [if_pos rfl, if_neg ?_]
        rw [em] at z ⊢
        have hm0 : 0 < m := Nat.pos_of_ne_zero fun q => z (by rw [q]; rfl)
        exact nI_nle hm0 (by omega)
    have f146 : ∀ em : Int32, ((em = 1 ∧ S.2.2.2.1 (S.1 - 1) = 0) ∨ (em = 0 ∧ ¬ S.2.2.2.1 (S.1 - 1) = 0)) → wY_place_146 post (nI p) (nI (la_Fs a y_view rw p)) (nI (la_nl a y_view rw p)) em y_doc y_tracking y_view y_done y_steps y_lines y_columns y_rounds y_known y_many y_styleOf y_markOf y_words y_width y_note y_status y_styles y_pages y_stepKind y_stepA y_stepB y_stepC y_stepOn y_ofParagraph y_firstWord y_wordsOf y_slack y_begin y_needs y_notes y_columnOf y_topOf y_firstLine y_label y_labelWide y_counter y_refWide y_nextWide y_columnLine y_columnLines y_filled y_foot := fun em' hem => by
      unfold wY_place_146
      exact yr_tr hv Z rfl hp24 (t := 11) rfl (by omega) (br_c (fun z => yr_sf hv Z HF rfl hp (fun s => br_f (by decide) (f172 0 em' (Or.inr ⟨rfl, fun q => q.2 s⟩) hem)) (fun s => br_t rfl (f172 1 em' (Or.inl ⟨rfl, z, s⟩) hem))) (fun z => f172 0 em' (Or.inr ⟨rfl, fun q => z q.1⟩) hem))
    refine ⟨ix_in ec (by omega) (by omega), ?_⟩
    rw [ix_c ec (by omega), w1]
    exact br_c (fun z => f146 1 (Or.inl ⟨rfl, z⟩)) (fun z => f146 0 (Or.inr ⟨rfl, z⟩))
  have fnew : la_op a y_view rw (la_fl a y_view rw p) p = true → wpY_newColumn (fun u => match u with | (y_doc7, y_tracking7, y_view7, y_done7, y_steps7, y_lines7, y_columns7, y_rounds7, y_known7, y_many7, y_styleOf7, y_markOf7, y_words7, y_width7, y_note7, y_status7, y_styles7, y_pages7, y_stepKind7, y_stepA7, y_stepB7, y_stepC7, y_stepOn7, y_ofParagraph7, y_firstWord7, y_wordsOf7, y_slack7, y_begin7, y_needs7, y_notes7, y_columnOf7, y_topOf7, y_firstLine7, y_label7, y_labelWide7, y_counter7, y_refWide7, y_nextWide7, y_columnLine7, y_columnLines7, y_filled7, y_foot7) => wY_place_127 post (nI p) (nI (la_Fs a y_view rw p)) (nI (la_nl a y_view rw p)) y_doc7 y_tracking7 y_view7 y_done7 y_steps7 y_lines7 y_columns7 y_rounds7 y_known7 y_many7 y_styleOf7 y_markOf7 y_words7 y_width7 y_note7 y_status7 y_styles7 y_pages7 y_stepKind7 y_stepA7 y_stepB7 y_stepC7 y_stepOn7 y_ofParagraph7 y_firstWord7 y_wordsOf7 y_slack7 y_begin7 y_needs7 y_notes7 y_columnOf7 y_topOf7 y_firstLine7 y_label7 y_labelWide7 y_counter7 y_refWide7 y_nextWide7 y_columnLine7 y_columnLines7 y_filled7 y_foot7) (y_doc, y_tracking, y_view, y_done, y_steps, y_lines, y_columns, y_rounds, y_known, y_many, y_styleOf, y_markOf, y_words, y_width, y_note, y_status, y_styles, y_pages, y_stepKind, y_stepA, y_stepB, y_stepC, y_stepOn, y_ofParagraph, y_firstWord, y_wordsOf, y_slack, y_begin, y_needs, y_notes, y_columnOf, y_topOf, y_firstLine, y_label, y_labelWide, y_counter, y_refWide, y_nextWide, y_columnLine, y_columnLines, y_filled, y_foot) (nI (la_Fs a y_view rw p)) := fun z => by
    refine yf_new (k := 0) rfl hp (by omega) (by omega) H ?_
    intro y_columns y_columnOf y_topOf y_columnLine y_columnLines y_filled y_foot H2
    exact f127 _ _ _ _ _ _ _ _ (if_pos (ei.trans z)).symm (by show _ + 1 ≤ 384; omega) (la_Jm (la_Jnew g1) (by omega) (by omega)) (fun _ => pk_us) H2
  have fold : ¬ la_op a y_view rw (la_fl a y_view rw p) p = true → wY_place_127 post (nI p) (nI (la_Fs a y_view rw p)) (nI (la_nl a y_view rw p)) y_doc y_tracking y_view y_done y_steps y_lines y_columns y_rounds y_known y_many y_styleOf y_markOf y_words y_width y_note y_status y_styles y_pages y_stepKind y_stepA y_stepB y_stepC y_stepOn y_ofParagraph y_firstWord y_wordsOf y_slack y_begin y_needs y_notes y_columnOf y_topOf y_firstLine y_label y_labelWide y_counter y_refWide y_nextWide y_columnLine y_columnLines y_filled y_foot := fun z =>
    f127 _ _ _ _ _ _ _ _ (if_neg z).symm (by omega) (la_Jm g1 (by omega) (by omega)) (fun q => absurd (by unfold la_op; rw [if_pos q]) z) H
  refine ⟨vp_in_nI (by omega) (by omega), nm_r (e' := nI (la_Fs a y_view rw p)) (by rw [nI_clamp (by omega), HF p (by omega)]) (yr_lo' hv HF rfl hp ?_)⟩
  rw [H.1]
  have op := la_opE (a := a) (vw := y_view) (rw := rw) (S := la_fl a y_view rw p) (p := p)
  refine pk_eq (la_fl a y_view rw p).1 0 (fun z => ?_) (fun z => ?_)
  · rw [← H.1]
    exact fnew (by unfold la_op; rw [if_pos (g2 z)])
  · have hp0 : p ≠ 0 := fun q => z (by rw [q]; rfl)
    rw [← H.1]
    rw [if_neg hp0] at op
    have ep : y_pages 1 = a 2 := Z.2.1 1 (by omega)
    refine yr_gap (p := p - 1) hv Z (pk_sub (b := 1) (by omega)) (by omega) ?_
    rw [show p - 1 + 1 = p from by omega]
    refine yr_tg hv Z HB HF rfl hp (yr_hd hv Z HF rfl hp (yr_ht hv HB rfl rfl hp hh (yf_free Z (by omega) (by omega) H (nm_e ?_))))
    rw [ep]
    have f110 : ∀ z0 : Int32, ¬ dc_v a p 10 = 1 → (z0 = 0 ∧ a 2 < la_gr a y_view rw (dc_n a - 1 - p) p) ∨ (¬ z0 = 0 ∧ ¬ a 2 < la_gr a y_view rw (dc_n a - 1 - p) p ∧ ¬ la_fh a (la_fl a y_view rw p) - la_gb a p < la_gr a y_view rw (dc_n a - 1 - p) p) →
        wY_place_110 post (nI p) (nI (la_Fs a y_view rw p)) (nI (la_nl a y_view rw p)) (la_hs a y_view rw p (la_hd a y_view rw p)) (la_fh a (la_fl a y_view rw p) - la_gb a p) z0 y_doc y_tracking y_view y_done y_steps y_lines y_columns y_rounds y_known y_many y_styleOf y_markOf y_words y_width y_note y_status y_styles y_pages y_stepKind y_stepA y_stepB y_stepC y_stepOn y_ofParagraph y_firstWord y_wordsOf y_slack y_begin y_needs y_notes y_columnOf y_topOf y_firstLine y_label y_labelWide y_counter y_refWide y_nextWide y_columnLine y_columnLines y_filled y_foot := fun z0 hbr hz => by
      rw [if_neg hbr] at op
      rcases hz with ⟨w1, w2⟩ | ⟨w1, w2, w3⟩
      · rw [if_pos w2] at op
        refine br_t w1 (br_c (fun y => fold ?_) (fun y => ?_))
        · rw [op, decide_eq_true y]; decide
        · unfold wY_place_122
          exact fnew (by rw [op, decide_eq_false y]; rfl)
      · rw [if_neg w2] at op
        refine br_f w1 (fold ?_)
        rw [op, decide_eq_true (Int32.not_lt.mp w3)]; decide
    refine br_c (fun y => ?_) (fun y => ?_)
    · unfold wY_place_85
      refine yr_tr hv Z rfl hp24 (t := 10) rfl (by omega) (br_c (fun w => ?_) (fun w => br_t rfl (f110 0 w (Or.inl ⟨rfl, y⟩))))
      unfold wY_place_122
      exact fnew (by rw [op, if_pos w])
    · unfold wY_place_85
      refine yr_tr hv Z rfl hp24 (t := 10) rfl (by omega) (br_c (fun w => ?_) (fun w => br_f (by decide) (br_c (fun v => ?_) (fun v => f110 1 w (Or.inr ⟨by decide, y, v⟩)))))
      · unfold wY_place_122
        exact fnew (by rw [op, if_pos w])
      · unfold wY_place_122
        exact fnew (by rw [op, if_neg w, if_neg y, decide_eq_false (Int32.not_le.mpr v)]; rfl)
