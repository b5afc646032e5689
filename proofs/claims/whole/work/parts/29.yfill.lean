variable {y_doc y_tracking y_view y_done y_steps y_lines y_columns y_rounds y_known : Int32} {y_many y_styleOf y_markOf y_words y_width y_note y_status y_styles y_pages y_stepKind y_stepA y_stepB y_stepC y_stepOn y_ofParagraph y_firstWord y_wordsOf y_slack y_begin y_needs y_notes y_columnOf y_topOf y_firstLine y_label y_labelWide y_counter y_refWide y_nextWide y_columnLine y_columnLines y_filled y_foot : Nat → Int32} {a rw : Nat → Int32}
theorem yr_lo' {post : Int32 → Prop} {x : Int32} {p : Nat} (hv : dc_V a) (HF : ∀ q, q ≤ dc_n a → y_firstLine q = nI (la_Fs a y_view rw q)) (hx : x = nI p) (hp : p < dc_n a) (h : post (nI (la_nl a y_view rw p))) : wpY_linesOf post (y_doc, y_tracking, y_view, y_done, y_steps, y_lines, y_columns, y_rounds, y_known, y_many, y_styleOf, y_markOf, y_words, y_width, y_note, y_status, y_styles, y_pages, y_stepKind, y_stepA, y_stepB, y_stepC, y_stepOn, y_ofParagraph, y_firstWord, y_wordsOf, y_slack, y_begin, y_needs, y_notes, y_columnOf, y_topOf, y_firstLine, y_label, y_labelWide, y_counter, y_refWide, y_nextWide, y_columnLine, y_columnLines, y_filled, y_foot) x := by
  subst hx
  have h24 := (dc_Vn hv).2
  have e : nI (la_Fs a y_view rw (p + 1)) - nI (la_Fs a y_view rw p) = nI (la_nl a y_view rw p) := by
    rw [show la_Fs a y_view rw (p + 1) = la_Fs a y_view rw p + la_nl a y_view rw p from rfl, pk_sub (by omega)]; exact congrArg nI (by omega)
  refine ⟨ix_in (nI_1 p) (by omega) (by omega), vp_in_nI (by omega) (by omega), ?_⟩
  rw [ix_c (nI_1 p) (by omega), nI_clamp (by omega), HF (p + 1) (by omega), HF p (by omega), e]; exact h
theorem yr_sf {post : Int32 → Prop} {x : Int32} {p : Nat} (hv : dc_V a) (Z : yz_Z a y_many y_pages y_styles y_styleOf y_markOf y_words y_width y_note y_status) (HF : ∀ q, q ≤ dc_n a → y_firstLine q = nI (la_Fs a y_view rw q)) (hx : x = nI p) (hp : p < dc_n a) (h1 : la_sf a y_view rw p = true → post 1) (h0 : ¬ la_sf a y_view rw p = true → post 0) : wpY_isStiff post (y_doc, y_tracking, y_view, y_done, y_steps, y_lines, y_columns, y_rounds, y_known, y_many, y_styleOf, y_markOf, y_words, y_width, y_note, y_status, y_styles, y_pages, y_stepKind, y_stepA, y_stepB, y_stepC, y_stepOn, y_ofParagraph, y_firstWord, y_wordsOf, y_slack, y_begin, y_needs, y_notes, y_columnOf, y_topOf, y_firstLine, y_label, y_labelWide, y_counter, y_refWide, y_nextWide, y_columnLine, y_columnLines, y_filled, y_foot) x := by
  subst hx
  have h24 := (dc_Vn hv).2
  have hn := (la_nlP (a := a) (rw := rw) (vw := y_view) (dc_Vw hv (p := p) (by omega)).2).2.1
  unfold la_sf at h1 h0
  unfold wpY_isStiff
  refine yr_lo' hv HF rfl hp ?_
  refine yr_tr hv Z rfl (by omega) (t := 8) rfl (by omega) (br_c (fun z => ?_) (fun z => yr_tr hv Z rfl (by omega) (t := 11) rfl (by omega) (br_c (fun y => ?_) (fun y => ?_))))
  · rw [if_pos z] at h1; exact h1 rfl
  · rw [if_neg z, if_pos y] at h1 h0
    refine pk_le 4 (la_nl a y_view rw p) (fun q => h0 ?_) (fun q => h1 (decide_eq_true q))
    rw [decide_eq_false (by omega)]; decide
  · rw [if_neg z, if_neg y] at h0; exact h0 (by decide)
theorem yr_hd {post : Int32 → Prop} {x : Int32} {p : Nat} (hv : dc_V a) (Z : yz_Z a y_many y_pages y_styles y_styleOf y_markOf y_words y_width y_note y_status) (HF : ∀ q, q ≤ dc_n a → y_firstLine q = nI (la_Fs a y_view rw q)) (hx : x = nI p) (hp : p < dc_n a) (h : post (nI (la_hd a y_view rw p))) : wpY_headOf post (y_doc, y_tracking, y_view, y_done, y_steps, y_lines, y_columns, y_rounds, y_known, y_many, y_styleOf, y_markOf, y_words, y_width, y_note, y_status, y_styles, y_pages, y_stepKind, y_stepA, y_stepB, y_stepC, y_stepOn, y_ofParagraph, y_firstWord, y_wordsOf, y_slack, y_begin, y_needs, y_notes, y_columnOf, y_topOf, y_firstLine, y_label, y_labelWide, y_counter, y_refWide, y_nextWide, y_columnLine, y_columnLines, y_filled, y_foot) x := by
  subst hx
  have h24 := (dc_Vn hv).2
  unfold la_hd at h
  unfold wpY_headOf
  refine yr_sf hv Z HF rfl hp (fun z => br_f (by decide) (yr_lo' hv HF rfl hp ?_)) (fun z => br_t rfl (yr_tr hv Z rfl (by omega) (t := 11) rfl (by omega) (br_c (fun y => ?_) (fun y => ?_))))
  · rw [if_pos z] at h; exact h
  · rw [if_neg z, if_pos y] at h; exact h
  · rw [if_neg z, if_neg y] at h; exact h
theorem yr_gap {post : Int32 → Prop} {x : Int32} {p : Nat} (hv : dc_V a) (Z : yz_Z a y_many y_pages y_styles y_styleOf y_markOf y_words y_width y_note y_status) (hx : x = nI p) (hp : p + 1 < 24) (h : post (la_gb a (p + 1))) : wpY_gap post (y_doc, y_tracking, y_view, y_done, y_steps, y_lines, y_columns, y_rounds, y_known, y_many, y_styleOf, y_markOf, y_words, y_width, y_note, y_status, y_styles, y_pages, y_stepKind, y_stepA, y_stepB, y_stepC, y_stepOn, y_ofParagraph, y_firstWord, y_wordsOf, y_slack, y_begin, y_needs, y_notes, y_columnOf, y_topOf, y_firstLine, y_label, y_labelWide, y_counter, y_refWide, y_nextWide, y_columnLine, y_columnLines, y_filled, y_foot) x := by
  subst hx
  unfold la_gb at h
  rw [if_neg (by omega), show p + 1 - 1 = p from by omega] at h
  unfold wpY_gap
  refine yr_tr hv Z rfl (by omega) (t := 4) rfl (by omega) ?_
  refine yr_tr hv Z (nI_1 p) hp (t := 3) rfl (by omega) (br_c (fun z => ?_) (fun z => ?_))
  · rw [if_pos z] at h; exact h
  · rw [if_neg z] at h; exact h
theorem yr_htL {post : Int32 → Prop} {F p n : Nat} (hF : F + n ≤ 384) (hne : ∀ j, j < n → y_needs (F + j) = la_nd a y_view rw p j) (h : post (la_hs a y_view rw p n)) : ∀ d i, i + d = n →
    wY_height_5 post (nI F) (nI n) y_doc y_tracking y_view y_done y_steps y_lines y_columns y_rounds y_known y_many y_styleOf y_markOf y_words y_width y_note y_status y_styles y_pages y_stepKind y_stepA y_stepB y_stepC y_stepOn y_ofParagraph y_firstWord y_wordsOf y_slack y_begin y_needs y_notes y_columnOf y_topOf y_firstLine y_label y_labelWide y_counter y_refWide y_nextWide y_columnLine y_columnLines y_filled y_foot (d + 1) (la_hs a y_view rw p i) (nI (F + i))
  | 0, i, hi => by
    obtain rfl : i = n := by omega
    refine br_t ?_ h
    rw [nI_add]; exact nI_le (by omega) (by omega)
  | d + 1, i, hi => by
    refine br_f ?_ ⟨vp_in_nI (by omega) (by omega), nm_r (e' := la_hs a y_view rw p (i + 1)) ?_ (nm_r (nI_1 _) (yr_htL hF hne h d (i + 1) (by omega)))⟩
    · rw [nI_add]; exact nI_ge (by omega) (by omega)
    · rw [nI_clamp (by omega), hne i (by omega)]; rfl
theorem yr_ht {post : Int32 → Prop} {x y : Int32} {p n : Nat} (hv : dc_V a) (HB : yb_B a y_view rw (dc_n a) 0 y_ofParagraph y_firstWord y_wordsOf y_slack y_begin y_needs y_notes) (hx : x = nI (la_Fs a y_view rw p)) (hy : y = nI n) (hp : p < dc_n a) (hn : n ≤ la_nl a y_view rw p) (h : post (la_hs a y_view rw p n)) : wpY_height post (y_doc, y_tracking, y_view, y_done, y_steps, y_lines, y_columns, y_rounds, y_known, y_many, y_styleOf, y_markOf, y_words, y_width, y_note, y_status, y_styles, y_pages, y_stepKind, y_stepA, y_stepB, y_stepC, y_stepOn, y_ofParagraph, y_firstWord, y_wordsOf, y_slack, y_begin, y_needs, y_notes, y_columnOf, y_topOf, y_firstLine, y_label, y_labelWide, y_counter, y_refWide, y_nextWide, y_columnLine, y_columnLines, y_filled, y_foot) x y := by
  subst hx hy
  have h24 := (dc_Vn hv).2
  have h1 := la_FsB (rw := rw) (vw := y_view) hv (p := p) (by omega)
  have h2 := (la_nlP (a := a) (rw := rw) (vw := y_view) (dc_Vw hv (p := p) (by omega)).2).2.1
  exact ⟨_, yr_htL (by omega) (fun j hj => (HB p j (Or.inl ⟨hp, by omega⟩)).2.2.2.2.2.1) h n 0 (by omega)⟩
theorem yr_tgL {post : Int32 → Prop} (hv : dc_V a) (Z : yz_Z a y_many y_pages y_styles y_styleOf y_markOf y_words y_width y_note y_status) (HB : yb_B a y_view rw (dc_n a) 0 y_ofParagraph y_firstWord y_wordsOf y_slack y_begin y_needs y_notes) (HF : ∀ q, q ≤ dc_n a → y_firstLine q = nI (la_Fs a y_view rw q)) : ∀ (d p : Nat) (s : Int32), p + d + 1 = dc_n a → post (s + la_gr a y_view rw d p) → wY_together_4 post y_doc y_tracking y_view y_done y_steps y_lines y_columns y_rounds y_known y_many y_styleOf y_markOf y_words y_width y_note y_status y_styles y_pages y_stepKind y_stepA y_stepB y_stepC y_stepOn y_ofParagraph y_firstWord y_wordsOf y_slack y_begin y_needs y_notes y_columnOf y_topOf y_firstLine y_label y_labelWide y_counter y_refWide y_nextWide y_columnLine y_columnLines y_filled y_foot (d + 1) s (nI p)
  | d, p, s, hp, h => by
    obtain ⟨e0, h24⟩ := dc_Vn hv
    have h16 := (dc_Vw hv (p := p) (by omega)).2
    have hh := la_hdB (a := a) (rw := rw) (vw := y_view) h16
    have elast : y_many 0 - 1 = nI (dc_n a - 1) := by rw [Z.1, e0]; exact pk_sub (b := 1) (by omega)
    have jp := vp_in_nI (n := p) (N := 25) (by omega) (by omega)
    have cp := nI_clamp (n := p) (by omega)
    have f63 : post (s + la_hs a y_view rw p (la_hd a y_view rw p)) → wY_together_63 post s (nI p) y_doc y_tracking y_view y_done y_steps y_lines y_columns y_rounds y_known y_many y_styleOf y_markOf y_words y_width y_note y_status y_styles y_pages y_stepKind y_stepA y_stepB y_stepC y_stepOn y_ofParagraph y_firstWord y_wordsOf y_slack y_begin y_needs y_notes y_columnOf y_topOf y_firstLine y_label y_labelWide y_counter y_refWide y_nextWide y_columnLine y_columnLines y_filled y_foot := fun h => by
      unfold wY_together_63
      refine yr_hd hv Z HF rfl (by omega) ⟨jp, ?_⟩
      rw [cp, HF p (by omega)]
      exact yr_ht hv HB rfl rfl (by omega) hh (nm_e h)
    unfold wY_together_4
    refine yr_tr hv Z rfl (by omega) (t := 9) rfl (by omega) (br_c (fun z => ?_) (fun z => f63 ?_))
    · rw [elast]
      match d with
      | 0 => exact br_t (nI_le (by omega) (by omega)) (f63 h)
      | d + 1 =>
        refine br_f (nI_ge (by omega) (by omega)) (yr_lo' hv HF rfl (by omega) ⟨jp, ?_⟩)
        rw [cp, HF p (by omega)]
        refine yr_ht hv HB rfl rfl (by omega) (Nat.le_refl _) (nm_e (yr_gap hv Z rfl (by omega) (nm_e (nm_r (nI_1 p) (yr_tgL hv Z HB HF d (p + 1) _ (by omega) ?_)))))
        have e : la_gr a y_view rw (d + 1) p = _ := if_pos z
        rw [e] at h
        rw [Int32.add_assoc, Int32.add_assoc, ← Int32.add_assoc (la_hs a y_view rw p (la_nl a y_view rw p))]
        exact h
    · match d with
      | 0 => exact h
      | d + 1 =>
        have e : la_gr a y_view rw (d + 1) p = _ := if_neg z
        rw [e] at h; exact h
  termination_by d => d
theorem yr_tg {post : Int32 → Prop} {x : Int32} {p : Nat} (hv : dc_V a) (Z : yz_Z a y_many y_pages y_styles y_styleOf y_markOf y_words y_width y_note y_status) (HB : yb_B a y_view rw (dc_n a) 0 y_ofParagraph y_firstWord y_wordsOf y_slack y_begin y_needs y_notes) (HF : ∀ q, q ≤ dc_n a → y_firstLine q = nI (la_Fs a y_view rw q)) (hx : x = nI p) (hp : p < dc_n a) (h : post (la_gr a y_view rw (dc_n a - 1 - p) p)) : wpY_together post (y_doc, y_tracking, y_view, y_done, y_steps, y_lines, y_columns, y_rounds, y_known, y_many, y_styleOf, y_markOf, y_words, y_width, y_note, y_status, y_styles, y_pages, y_stepKind, y_stepA, y_stepB, y_stepC, y_stepOn, y_ofParagraph, y_firstWord, y_wordsOf, y_slack, y_begin, y_needs, y_notes, y_columnOf, y_topOf, y_firstLine, y_label, y_labelWide, y_counter, y_refWide, y_nextWide, y_columnLine, y_columnLines, y_filled, y_foot) x := by
  subst hx
  exact ⟨_, yr_tgL hv Z HB HF (dc_n a - 1 - p) p 0 (by omega) (by rw [Int32.zero_add]; exact h)⟩
/-- Y's columns -/
def yf_C (a : Nat → Int32) (vw : Int32) (rw : Nat → Int32) (S : la_F) (p k : Nat) (y_columns : Int32) (y_columnOf y_topOf y_columnLine y_columnLines y_filled y_foot : Nat → Int32) : Prop := y_columns = nI S.1
  ∧ (∀ i, i < S.1 → y_columnLines i = S.2.2.2.1 i ∧ y_foot i = S.2.2.2.2.1 i ∧ y_filled i = S.2.2.2.2.2.1 i ∧ ∃ q j, q < dc_n a ∧ j < la_nl a vw rw q ∧ S.2.1 i = nI q ∧ S.2.2.1 i = nI j ∧ y_columnLine i = nI (la_Fs a vw rw q + j))
  ∧ (∀ q j, ((q < p ∧ j < la_nl a vw rw q) ∨ (q = p ∧ j < k)) → y_columnOf (la_Fs a vw rw q + j) = S.2.2.2.2.2.2.1 (16 * q + j) ∧ y_topOf (la_Fs a vw rw q + j) = S.2.2.2.2.2.2.2 (16 * q + j))
theorem yf_free {post : Int32 → Prop} {p k : Nat} {S : la_F} (Z : yz_Z a y_many y_pages y_styles y_styleOf y_markOf y_words y_width y_note y_status) (h1 : 1 ≤ S.1) (hc : S.1 ≤ 384) (H : yf_C a y_view rw S p k y_columns y_columnOf y_topOf y_columnLine y_columnLines y_filled y_foot) (h : post (la_fh a S)) : wpY_free post (y_doc, y_tracking, y_view, y_done, y_steps, y_lines, y_columns, y_rounds, y_known, y_many, y_styleOf, y_markOf, y_words, y_width, y_note, y_status, y_styles, y_pages, y_stepKind, y_stepA, y_stepB, y_stepC, y_stepOn, y_ofParagraph, y_firstWord, y_wordsOf, y_slack, y_begin, y_needs, y_notes, y_columnOf, y_topOf, y_firstLine, y_label, y_labelWide, y_counter, y_refWide, y_nextWide, y_columnLine, y_columnLines, y_filled, y_foot) := by
  obtain ⟨H1, H2, H3⟩ := H
  have ec : y_columns - 1 = nI (S.1 - 1) := by rw [H1]; exact pk_sub (b := 1) h1
  have jc := ix_in (N := 384) ec (by omega) (by omega)
  have cc := ix_c ec (by omega)
  obtain ⟨g1, g2, g3, _⟩ := H2 (S.1 - 1) (by omega)
  have ep : y_pages 1 = a 2 := Z.2.1 1 (by omega)
  refine ⟨jc, jc, ?_⟩
  rw [cc, g2, g3, ep]; exact h
theorem yf_new {post : SY → Prop} {x : Int32} {p k : Nat} {S : la_F} (hx : x = nI (la_Fs a y_view rw p + k)) (hp : p < dc_n a) (hk : k < la_nl a y_view rw p) (hc : S.1 < 384) (H : yf_C a y_view rw S p k y_columns y_columnOf y_topOf y_columnLine y_columnLines y_filled y_foot)
    (h : ∀ y_columns y_columnOf y_topOf y_columnLine y_columnLines y_filled y_foot, yf_C a y_view rw (la_new S p k) p k y_columns y_columnOf y_topOf y_columnLine y_columnLines y_filled y_foot → post (y_doc, y_tracking, y_view, y_done, y_steps, y_lines, y_columns, y_rounds, y_known, y_many, y_styleOf, y_markOf, y_words, y_width, y_note, y_status, y_styles, y_pages, y_stepKind, y_stepA, y_stepB, y_stepC, y_stepOn, y_ofParagraph, y_firstWord, y_wordsOf, y_slack, y_begin, y_needs, y_notes, y_columnOf, y_topOf, y_firstLine, y_label, y_labelWide, y_counter, y_refWide, y_nextWide, y_columnLine, y_columnLines, y_filled, y_foot)) : wpY_newColumn post (y_doc, y_tracking, y_view, y_done, y_steps, y_lines, y_columns, y_rounds, y_known, y_many, y_styleOf, y_markOf, y_words, y_width, y_note, y_status, y_styles, y_pages, y_stepKind, y_stepA, y_stepB, y_stepC, y_stepOn, y_ofParagraph, y_firstWord, y_wordsOf, y_slack, y_begin, y_needs, y_notes, y_columnOf, y_topOf, y_firstLine, y_label, y_labelWide, y_counter, y_refWide, y_nextWide, y_columnLine, y_columnLines, y_filled, y_foot) x := by
  obtain ⟨H1, H2, H3⟩ := H
  have j := ix_in (N := 384) H1 hc (by omega)
  have c := ix_c H1 (by omega)
  refine ⟨j, nm_r (by rw [c]) ⟨j, nm_r (by rw [c]) ⟨j, nm_r (by rw [c]) ⟨j, nm_r (by rw [c]) (nm_r (e' := nI (S.1 + 1)) (by rw [H1, nI_1]) (h _ _ _ _ _ _ _ ⟨rfl, fun i hi => ?_, H3⟩))⟩⟩⟩⟩
  by_cases e : i = S.1
  · subst e
    exact ⟨pk_us.trans pk_us.symm, pk_us.trans pk_us.symm, pk_us.trans pk_us.symm, p, k, hp, hk, pk_us, pk_us, pk_us.trans hx⟩
  · have hi' : i < S.1 + 1 := hi
    obtain ⟨g1, g2, g3, q, j, g4, g5, g6, g7, g8⟩ := H2 i (by omega)
    exact ⟨(pk_un e).trans (g1.trans (pk_un e).symm), (pk_un e).trans (g2.trans (pk_un e).symm), (pk_un e).trans (g3.trans (pk_un e).symm), q, j, g4, g5, (pk_un e).trans g6, (pk_un e).trans g7, (pk_un e).trans g8⟩
theorem yf_put {post : SY → Prop} {x z : Int32} {p k : Nat} {S : la_F} (hv : dc_V a) (HB : yb_B a y_view rw (dc_n a) 0 y_ofParagraph y_firstWord y_wordsOf y_slack y_begin y_needs y_notes) (hx : x = nI (la_Fs a y_view rw p + k)) (hp : p < dc_n a) (hk : k < la_nl a y_view rw p) (hz : z = la_ga a S p k) (h1 : 1 ≤ S.1) (hc : S.1 ≤ 384) (H : yf_C a y_view rw S p k y_columns y_columnOf y_topOf y_columnLine y_columnLines y_filled y_foot)
    (h : ∀ y_columnOf y_topOf y_columnLine y_columnLines y_filled y_foot, yf_C a y_view rw (la_put a y_view rw S p k) p (k + 1) y_columns y_columnOf y_topOf y_columnLine y_columnLines y_filled y_foot → post (y_doc, y_tracking, y_view, y_done, y_steps, y_lines, y_columns, y_rounds, y_known, y_many, y_styleOf, y_markOf, y_words, y_width, y_note, y_status, y_styles, y_pages, y_stepKind, y_stepA, y_stepB, y_stepC, y_stepOn, y_ofParagraph, y_firstWord, y_wordsOf, y_slack, y_begin, y_needs, y_notes, y_columnOf, y_topOf, y_firstLine, y_label, y_labelWide, y_counter, y_refWide, y_nextWide, y_columnLine, y_columnLines, y_filled, y_foot)) : wpY_putLine post (y_doc, y_tracking, y_view, y_done, y_steps, y_lines, y_columns, y_rounds, y_known, y_many, y_styleOf, y_markOf, y_words, y_width, y_note, y_status, y_styles, y_pages, y_stepKind, y_stepA, y_stepB, y_stepC, y_stepOn, y_ofParagraph, y_firstWord, y_wordsOf, y_slack, y_begin, y_needs, y_notes, y_columnOf, y_topOf, y_firstLine, y_label, y_labelWide, y_counter, y_refWide, y_nextWide, y_columnLine, y_columnLines, y_filled, y_foot) x z := by
  subst hz
  have h24 := (dc_Vn hv).2
  have hF := la_FsB (rw := rw) (vw := y_view) hv (p := p) (by omega)
  have hn := (la_nlP (a := a) (rw := rw) (vw := y_view) (dc_Vw hv (p := p) (by omega)).2).2.1
  obtain ⟨H1, H2, H3⟩ := H
  have ec : y_columns - 1 = nI (S.1 - 1) := by rw [H1]; exact pk_sub (b := 1) h1
  have jc := vp_in_nI (n := S.1 - 1) (N := 384) (by omega) (by omega)
  have cc := nI_clamp (n := S.1 - 1) (by omega)
  have jl := ix_in (N := 384) hx (by omega) (by omega)
  have cl := ix_c hx (by omega)
  obtain ⟨g1, g2, g3, _⟩ := H2 (S.1 - 1) (by omega)
  obtain ⟨_, _, _, _, _, b6, b7⟩ := HB p k (Or.inl ⟨hp, hk⟩)
  have ring : S.2.2.2.2.2.1 (S.1 - 1) + ((la_ga a S p k + la_nd a y_view rw p k) - la_no a y_view rw p k) = S.2.2.2.2.2.1 (S.1 - 1) + la_ga a S p k + dc_v a p 5 := by
    unfold la_nd
    rw [← Int32.add_assoc (la_ga a S p k), Int32.add_sub_cancel, Int32.add_assoc]
  refine nm_r ec ⟨jl, nm_r (by rw [cl]) ⟨jc, jl, nm_r (by rw [cl, cc, g3]) ⟨jc, jl, jl, jc, nm_r (e' := upd y_filled (S.1 - 1) (S.2.2.2.2.2.1 (S.1 - 1) + la_ga a S p k + dc_v a p 5)) (by rw [cl, cc, g3, b6, b7, ring]) ⟨jc, jl, jc, nm_r (by rw [cl, cc, g2, b7]) ⟨jc, jc, nm_r (by rw [cc, g1]) (h _ _ _ _ _ _ ⟨H1, fun i hi => ?_, fun q j hq => ?_⟩)⟩⟩⟩⟩⟩
  · obtain ⟨w1, w2, w3, w4⟩ := H2 i hi
    by_cases e : i = S.1 - 1
    · subst e; exact ⟨pk_us.trans pk_us.symm, pk_us.trans pk_us.symm, pk_us.trans pk_us.symm, w4⟩
    · exact ⟨(pk_un e).trans (w1.trans (pk_un e).symm), (pk_un e).trans (w2.trans (pk_un e).symm), (pk_un e).trans (w3.trans (pk_un e).symm), w4⟩
  · by_cases e : q = p ∧ j = k
    · obtain ⟨rfl, rfl⟩ := e; exact ⟨pk_us.trans pk_us.symm, pk_us.trans pk_us.symm⟩
    · have hq2 : (q < p ∧ j < la_nl a y_view rw q) ∨ (q = p ∧ j < k) := by
        rcases hq with z | ⟨z1, z2⟩
        · exact Or.inl z
        · exact Or.inr ⟨z1, by omega⟩
      have ne : la_Fs a y_view rw q + j ≠ la_Fs a y_view rw p + k ∧ 16 * q + j ≠ 16 * p + k := by
        rcases hq2 with ⟨z1, z2⟩ | ⟨z1, z2⟩
        · have := la_FsM (a := a) (rw := rw) (vw := y_view) z1
          have := (la_nlP (a := a) (rw := rw) (vw := y_view) (dc_Vw hv (p := q) (by omega)).2).2.1
          omega
        · subst z1; omega
      obtain ⟨w1, w2⟩ := H3 q j hq2
      exact ⟨(pk_un ne.1).trans (w1.trans (pk_un ne.2).symm), (pk_un ne.1).trans (w2.trans (pk_un ne.2).symm)⟩
/-- comparing heights -/
theorem la_cm1 {x : Int32} {b c : Nat} (h1 : -1000000 ≤ x.toInt) (h2 : x.toInt ≤ 1000000) (hb : b ≤ 1000) (hc : c ≤ 1000) : x < nI b + nI c ↔ ¬ 0 ≤ x - nI b - nI c := by
  rw [Int32.lt_iff_toInt_lt, Int32.le_iff_toInt_le, nI_add, nI_toInt (by omega), Int32.toInt_sub, Int32.toInt_sub, nI_toInt (by omega), nI_toInt (by omega), show (0 : Int32).toInt = 0 from by decide, Int.bmod_eq_of_le (n := x.toInt - b) (by omega) (by omega), Int.bmod_eq_of_le (by omega) (by omega)]
  omega
theorem la_cm2 {x : Int32} {b c d : Nat} (h1 : -1000000 ≤ x.toInt) (h2 : x.toInt ≤ 1000000) (hb : b ≤ 1000) (hc : c ≤ 1000) (hd : d ≤ 1000) : nI b + nI c + (nI b + nI d) ≤ x ↔ nI b + nI d ≤ x - nI b - nI c := by
  rw [Int32.le_iff_toInt_le, Int32.le_iff_toInt_le, nI_add, nI_add, nI_add, nI_toInt (by omega), nI_toInt (by omega), Int32.toInt_sub, Int32.toInt_sub, nI_toInt (by omega), nI_toInt (by omega), Int.bmod_eq_of_le (n := x.toInt - b) (by omega) (by omega), Int.bmod_eq_of_le (by omega) (by omega)]
  omega
theorem la_fhB {S : la_F} {c L : Nat} (hv : dc_V a) (h : la_J S c L) (h1 : 1 ≤ S.1) (hL : L ≤ 384) : -1000000 ≤ (la_fh a S).toInt ∧ (la_fh a S).toInt ≤ 1000000 := by
  obtain ⟨m, f, g, _, _, e2, b2, e3, b3⟩ := h.2 (S.1 - 1) (by omega)
  obtain ⟨n, hn, en⟩ := yl_N' hv.2.1
  unfold la_fh
  rw [e2, e3, en, Int32.toInt_sub, Int32.toInt_sub, nI_toInt (by omega), nI_toInt (by omega), nI_toInt (by omega), Int.bmod_eq_of_le (n := (n : Int) - f) (by omega) (by omega), Int.bmod_eq_of_le (by omega) (by omega)]
  omega
