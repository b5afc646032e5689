/-- how far a word's column is from the page's left; where a word is -/
def rd_s (a : Nat → Int32) (vw : Int32) (rw : Nat → Int32) (p k : Nat) : Int32 := if a 3 = 2 then (if (la_fl a vw rw (dc_n a)).2.2.2.2.2.2.1 (16 * p + k) - (la_fl a vw rw (dc_n a)).2.2.2.2.2.2.1 (16 * p + k) / 2 * 2 = 1 then la_cw a + 2 else 0) else 0
def rd_w (a : Nat → Int32) (vw : Int32) (rw : Nat → Int32) (p k w : Nat) : Int32 := 100 * nI k + rd_s a vw rw p k + la_ps a vw rw p k w
variable {x_tracking x_view x_slotNow x_stepsBack x_stepsAgain x_stale x_rounds x_columnCount : Int32} {x_doc x_kept x_referenceWidth x_labelValue x_labelWidth x_lineCount x_gapBefore x_headNeeds x_groupNeeds x_wordLine x_wordLeft x_lineFirst x_lineWords x_lineLeft x_lineSlack x_lineNotes x_lineColumn x_lineTop x_columnParagraph x_columnFirst x_columnLines x_columnNotes x_columnFilled : Nat → Int32} {y_doc y_tracking y_view y_done y_steps y_lines y_columns y_rounds y_known : Int32} {y_many y_styleOf y_markOf y_words y_width y_note y_status y_styles y_pages y_stepKind y_stepA y_stepB y_stepC y_stepOn y_ofParagraph y_firstWord y_wordsOf y_slack y_begin y_needs y_notes y_columnOf y_topOf y_firstLine y_label y_labelWide y_counter y_refWide y_nextWide y_columnLine y_columnLines y_filled y_foot : Nat → Int32} {a rw : Nat → Int32}
theorem yr_wpL {post : Int32 → SY → Prop} {p k w : Nat} (hv : dc_V a) (Z : yz_Z a y_many y_pages y_styles y_styleOf y_markOf y_words y_width y_note y_status) (hr : ∀ m, m < 8 → y_refWide m = rw m) (HB : yb_B a y_view rw (dc_n a) 0 y_ofParagraph y_firstWord y_wordsOf y_slack y_begin y_needs y_notes) (HF : ∀ q, q ≤ dc_n a → y_firstLine q = nI (la_Fs a y_view rw q)) (HC : yf_C a y_view rw (la_fl a y_view rw (dc_n a)) (dc_n a) 0 y_columns y_columnOf y_topOf y_columnLine y_columnLines y_filled y_foot) (hp : p < dc_n a) (hk : k < la_nl a y_view rw p) (hw : w < dc_w a p) (h : post (rd_w a y_view rw p k w) (y_doc, y_tracking, y_view, y_done, y_steps, y_lines, y_columns, y_rounds, y_known, y_many, y_styleOf, y_markOf, y_words, y_width, y_note, y_status, y_styles, y_pages, y_stepKind, y_stepA, y_stepB, y_stepC, y_stepOn, y_ofParagraph, y_firstWord, y_wordsOf, y_slack, y_begin, y_needs, y_notes, y_columnOf, y_topOf, y_firstLine, y_label, y_labelWide, y_counter, y_refWide, y_nextWide, y_columnLine, y_columnLines, y_filled, y_foot)) : ∀ d m, la_f a y_view rw p k + m + d = w →
    wY_word_165 post (nI p) (nI w) (nI (la_Fs a y_view rw p + k)) (la_sp a y_view rw p k) (nI (la_t a y_view rw p k) - 1) y_doc y_tracking y_view y_done y_steps y_lines y_columns y_rounds y_known y_many y_styleOf y_markOf y_words y_width y_note y_status y_styles y_pages y_stepKind y_stepA y_stepB y_stepC y_stepOn y_ofParagraph y_firstWord y_wordsOf y_slack y_begin y_needs y_notes y_columnOf y_topOf y_firstLine y_label y_labelWide y_counter y_refWide y_nextWide y_columnLine y_columnLines y_filled y_foot (d + 1) (la_po a y_view rw p (la_sl a y_view rw p k) (nI (la_t a y_view rw p k) - 1) (la_sp a y_view rw p k) (la_al a y_view rw p k) (la_f a y_view rw p k) m).1 (nI (la_cn a y_view p (la_f a y_view rw p k) m)) (nI (la_f a y_view rw p k + m))
  | d, m, hm => by
    have h24 := (dc_Vn hv).2
    have hp24 : p < 24 := by omega
    have h16 := (dc_Vw hv hp24).2
    have hF := la_FsB (rw := rw) (vw := y_view) hv (p := p) (by omega)
    have hn := (la_nlP (a := a) (rw := rw) (vw := y_view) h16).2.1
    have jl := vp_in_nI (n := la_Fs a y_view rw p + k) (N := 384) (by omega) (by omega)
    have cl := nI_clamp (n := la_Fs a y_view rw p + k) (by omega)
    have hcm := la_cnL (a := a) (vw := y_view) (p := p) (w := la_f a y_view rw p k) (m := m)
    obtain ⟨b1, b2, b3, b4, b5, b6, b7⟩ := HB p k (Or.inl ⟨hp, hk⟩)
    obtain ⟨c1, c2⟩ := HC.2.2 p k (Or.inl ⟨hp, hk⟩)
    match d with
    | 0 =>
      have em : m = w - la_f a y_view rw p k := by omega
      have eps : (la_po a y_view rw p (la_sl a y_view rw p k) (nI (la_t a y_view rw p k) - 1) (la_sp a y_view rw p k) (la_al a y_view rw p k) (la_f a y_view rw p k) m).1 = la_ps a y_view rw p k w := by rw [em]; rfl
      have ek : nI (la_Fs a y_view rw p + k) - nI (la_Fs a y_view rw p) = nI k := by rw [pk_sub (by omega)]; exact congrArg nI (by omega)
      have e2 : y_pages 2 = a 3 := Z.2.1 2 (by omega)
      have f297 : ∀ z0 : Int32, z0 = rd_s a y_view rw p k → wY_word_297 post (nI p) (nI (la_Fs a y_view rw p + k)) (la_po a y_view rw p (la_sl a y_view rw p k) (nI (la_t a y_view rw p k) - 1) (la_sp a y_view rw p k) (la_al a y_view rw p k) (la_f a y_view rw p k) m).1 z0 y_doc y_tracking y_view y_done y_steps y_lines y_columns y_rounds y_known y_many y_styleOf y_markOf y_words y_width y_note y_status y_styles y_pages y_stepKind y_stepA y_stepB y_stepC y_stepOn y_ofParagraph y_firstWord y_wordsOf y_slack y_begin y_needs y_notes y_columnOf y_topOf y_firstLine y_label y_labelWide y_counter y_refWide y_nextWide y_columnLine y_columnLines y_filled y_foot := fun z0 ez => by
        subst ez
        refine ⟨vp_in_nI (by omega) (by omega), ?_⟩
        rw [nI_clamp (by omega), HF p (by omega), ek, eps]; exact h
      refine br_t (nI_le (by omega) (by omega)) ?_
      rw [e2]
      refine br_c (fun z => ⟨jl, by decide, ?_⟩) (fun z => f297 0 ?_)
      · rw [cl, c1]
        refine br_c (fun y => yr_cw Z (f297 _ ?_)) (fun y => f297 0 ?_)
        · unfold rd_s; rw [if_pos z, if_pos y]
        · unfold rd_s; rw [if_pos z, if_neg y]
      · unfold rd_s; rw [if_neg z]
    | d + 1 =>
      refine br_f (nI_ge (by omega) (by omega)) (yr_sh Z (ad_yl p _) hp24 (by omega) (fun hs => br_f (by decide) (yr_wd hv Z hr (ad_yl p _) hp24 (by omega) (nm_e (br_c (fun s0 => nm_r (nI_1 _) (nm_r (nI_1 _) ?_)) (fun s0 => ⟨jl, ?_⟩))))) (fun hs => br_t rfl (nm_r (nI_1 _) ?_)))
      · have q3 : la_po a y_view rw p (la_sl a y_view rw p k) (nI (la_t a y_view rw p k) - 1) (la_sp a y_view rw p k) (la_al a y_view rw p k) (la_f a y_view rw p k) (m + 1) = _ := if_pos hs
        have q4 : la_cn a y_view p (la_f a y_view rw p k) (m + 1) = la_cn a y_view p (la_f a y_view rw p k) m + 1 := congrArg (la_cn a y_view p (la_f a y_view rw p k) m + ·) (if_pos hs)
        have ih := yr_wpL hv Z hr HB HF HC hp hk hw h d (m + 1) (by omega)
        rw [q3, q4, la_poC] at ih
        have ih1 : ∀ v : Int32, v = la_s1 (la_po a y_view rw p (la_sl a y_view rw p k) (nI (la_t a y_view rw p k) - 1) (la_sp a y_view rw p k) (la_al a y_view rw p k) (la_f a y_view rw p k) m).1 (la_wd a rw p (la_f a y_view rw p k + m)) (la_sl a y_view rw p k) (nI (la_t a y_view rw p k) - 1) (la_sp a y_view rw p k) (la_cn a y_view p (la_f a y_view rw p k) m) → _ := fun v ev => ev ▸ ih
        refine ih1 _ ?_
        unfold la_s1; rw [if_pos s0]
      · have q3 : la_po a y_view rw p (la_sl a y_view rw p k) (nI (la_t a y_view rw p k) - 1) (la_sp a y_view rw p k) (la_al a y_view rw p k) (la_f a y_view rw p k) (m + 1) = _ := if_pos hs
        have q4 : la_cn a y_view p (la_f a y_view rw p k) (m + 1) = la_cn a y_view p (la_f a y_view rw p k) m + 1 := congrArg (la_cn a y_view p (la_f a y_view rw p k) m + ·) (if_pos hs)
        have ih := yr_wpL hv Z hr HB HF HC hp hk hw h d (m + 1) (by omega)
        rw [q3, q4, la_poC] at ih
        have ih1 : ∀ v : Int32, v = la_s1 (la_po a y_view rw p (la_sl a y_view rw p k) (nI (la_t a y_view rw p k) - 1) (la_sp a y_view rw p k) (la_al a y_view rw p k) (la_f a y_view rw p k) m).1 (la_wd a rw p (la_f a y_view rw p k + m)) (la_sl a y_view rw p k) (nI (la_t a y_view rw p k) - 1) (la_sp a y_view rw p k) (la_cn a y_view p (la_f a y_view rw p k) m) → _ := fun v ev => ev ▸ ih
        have ht1 : 1 < la_t a y_view rw p k := by
          have s1 := s0
          unfold la_sp at s1
          split at s1
          · rename_i c; exact c.2.1
          · exact absurd rfl s1
        have ht16 := la_tB (a := a) (rw := rw) (vw := y_view) (p := p) (k := k) h16
        have hne : ¬ nI (la_t a y_view rw p k) - 1 = 0 := by
          obtain ⟨s, hs⟩ : ∃ s, la_t a y_view rw p k = s + 1 := ⟨la_t a y_view rw p k - 1, by omega⟩
          rw [hs, nI_pred]; exact nI_ne0 (by omega) (by omega)
        refine ⟨hne, jl, hne, ?_⟩
        rw [cl, b4]
        refine br_c (fun s1 => nm_e (nm_r (nI_1 _) (nm_r (nI_1 _) ?_))) (fun s1 => nm_e (nm_r (nI_1 _) (nm_r (nI_1 _) ?_)))
        · refine ih1 _ ?_
          unfold la_s1; rw [if_neg s0, if_pos s1]
        · refine ih1 _ ?_
          unfold la_s1; rw [if_neg s0, if_neg s1]
      · have q3 : la_po a y_view rw p (la_sl a y_view rw p k) (nI (la_t a y_view rw p k) - 1) (la_sp a y_view rw p k) (la_al a y_view rw p k) (la_f a y_view rw p k) (m + 1) = _ := if_neg hs
        have q4 : la_cn a y_view p (la_f a y_view rw p k) (m + 1) = la_cn a y_view p (la_f a y_view rw p k) m := congrArg (la_cn a y_view p (la_f a y_view rw p k) m + ·) (if_neg hs)
        have ih := yr_wpL hv Z hr HB HF HC hp hk hw h d (m + 1) (by omega)
        rw [q3, q4] at ih
        exact ih
  termination_by d => d
theorem yr_w90 {post : Int32 → SY → Prop} {p k w : Nat} (hv : dc_V a) (Z : yz_Z a y_many y_pages y_styles y_styleOf y_markOf y_words y_width y_note y_status) (hr : ∀ m, m < 8 → y_refWide m = rw m) (HB : yb_B a y_view rw (dc_n a) 0 y_ofParagraph y_firstWord y_wordsOf y_slack y_begin y_needs y_notes) (HF : ∀ q, q ≤ dc_n a → y_firstLine q = nI (la_Fs a y_view rw q)) (HC : yf_C a y_view rw (la_fl a y_view rw (dc_n a)) (dc_n a) 0 y_columns y_columnOf y_topOf y_columnLine y_columnLines y_filled y_foot) (hp : p < dc_n a) (hk : k < la_nl a y_view rw p) (hw : w < dc_w a p) (hf : la_f a y_view rw p k ≤ w) (h : post (rd_w a y_view rw p k w) (y_doc, y_tracking, y_view, y_done, y_steps, y_lines, y_columns, y_rounds, y_known, y_many, y_styleOf, y_markOf, y_words, y_width, y_note, y_status, y_styles, y_pages, y_stepKind, y_stepA, y_stepB, y_stepC, y_stepOn, y_ofParagraph, y_firstWord, y_wordsOf, y_slack, y_begin, y_needs, y_notes, y_columnOf, y_topOf, y_firstLine, y_label, y_labelWide, y_counter, y_refWide, y_nextWide, y_columnLine, y_columnLines, y_filled, y_foot)) :
    wY_word_90 post (nI p) (nI w) (nI (la_Fs a y_view rw p + k)) y_doc y_tracking y_view y_done y_steps y_lines y_columns y_rounds y_known y_many y_styleOf y_markOf y_words y_width y_note y_status y_styles y_pages y_stepKind y_stepA y_stepB y_stepC y_stepOn y_ofParagraph y_firstWord y_wordsOf y_slack y_begin y_needs y_notes y_columnOf y_topOf y_firstLine y_label y_labelWide y_counter y_refWide y_nextWide y_columnLine y_columnLines y_filled y_foot := by
  have h24 := (dc_Vn hv).2
  have hp24 : p < 24 := by omega
  have h16 := (dc_Vw hv hp24).2
  have hF := la_FsB (rw := rw) (vw := y_view) hv (p := p) (by omega)
  have hn := (la_nlP (a := a) (rw := rw) (vw := y_view) h16).2.1
  have ht16 := la_tB (a := a) (rw := rw) (vw := y_view) (p := p) (k := k) h16
  have jl := vp_in_nI (n := la_Fs a y_view rw p + k) (N := 384) (by omega) (by omega)
  have cl := nI_clamp (n := la_Fs a y_view rw p + k) (by omega)
  obtain ⟨b1, b2, b3, b4, b5, b6, b7⟩ := HB p k (Or.inl ⟨hp, hk⟩)
  have f132 : ∀ st : Int32, st = la_sp a y_view rw p k → wY_word_132 post (nI p) (nI w) (nI (la_Fs a y_view rw p + k)) st y_doc y_tracking y_view y_done y_steps y_lines y_columns y_rounds y_known y_many y_styleOf y_markOf y_words y_width y_note y_status y_styles y_pages y_stepKind y_stepA y_stepB y_stepC y_stepOn y_ofParagraph y_firstWord y_wordsOf y_slack y_begin y_needs y_notes y_columnOf y_topOf y_firstLine y_label y_labelWide y_counter y_refWide y_nextWide y_columnLine y_columnLines y_filled y_foot := fun st es => by
    subst es
    exact ⟨jl, nm_r (e' := nI (la_t a y_view rw p k) - 1) (by rw [cl, b3]) (yr_st hv Z HB hp hk rfl ⟨jl, nm_r (e' := nI (la_f a y_view rw p k)) (by rw [cl, b2]) ⟨_, yr_wpL (m := 0) hv Z hr HB HF HC hp hk hw h (w - la_f a y_view rw p k) (by omega)⟩⟩)⟩
  have f131 : ¬ (dc_v a p 6 = 3 ∧ 1 < la_t a y_view rw p k ∧ k + 1 < la_nl a y_view rw p) → wY_word_131 post (nI p) (nI w) (nI (la_Fs a y_view rw p + k)) y_doc y_tracking y_view y_done y_steps y_lines y_columns y_rounds y_known y_many y_styleOf y_markOf y_words y_width y_note y_status y_styles y_pages y_stepKind y_stepA y_stepB y_stepC y_stepOn y_ofParagraph y_firstWord y_wordsOf y_slack y_begin y_needs y_notes y_columnOf y_topOf y_firstLine y_label y_labelWide y_counter y_refWide y_nextWide y_columnLine y_columnLines y_filled y_foot := fun z => f132 0 (if_neg z).symm
  have e1 : y_firstLine (nI p + 1).toNatClampNeg = nI (la_Fs a y_view rw p + la_nl a y_view rw p) := by rw [ix_c (nI_1 p) (by omega), HF (p + 1) (by omega)]; rfl
  unfold wY_word_90
  refine yr_tr hv Z rfl hp24 (t := 6) rfl (by omega) (br_c (fun z => ⟨ix_in (nI_1 p) (by omega) (by omega), ?_⟩) (fun z => f131 fun q => z q.1))
  rw [e1, nI_1]
  refine pk_le (la_Fs a y_view rw p + la_nl a y_view rw p) (la_Fs a y_view rw p + k + 1) (fun y => f131 fun q => absurd q.2.2 (by omega)) (fun y => ⟨jl, ?_⟩)
  rw [cl, b3]
  exact pk_le (la_t a y_view rw p k) 1 (fun q => f131 fun q2 => absurd q2.2.1 (by omega)) (fun q => f132 1 (if_pos ⟨z, q, by omega⟩).symm)
theorem yr_w56 {post : Int32 → SY → Prop} {p k w : Nat} (hv : dc_V a) (HB : yb_B a y_view rw (dc_n a) 0 y_ofParagraph y_firstWord y_wordsOf y_slack y_begin y_needs y_notes) (HF : ∀ q, q ≤ dc_n a → y_firstLine q = nI (la_Fs a y_view rw q)) (hp : p < dc_n a) (hk : k < la_nl a y_view rw p) (hw1 : la_fr a y_view rw p k ≤ w) (hw2 : w < la_fr a y_view rw p (k + 1)) (h : wY_word_90 post (nI p) (nI w) (nI (la_Fs a y_view rw p + k)) y_doc y_tracking y_view y_done y_steps y_lines y_columns y_rounds y_known y_many y_styleOf y_markOf y_words y_width y_note y_status y_styles y_pages y_stepKind y_stepA y_stepB y_stepC y_stepOn y_ofParagraph y_firstWord y_wordsOf y_slack y_begin y_needs y_notes y_columnOf y_topOf y_firstLine y_label y_labelWide y_counter y_refWide y_nextWide y_columnLine y_columnLines y_filled y_foot) : ∀ d i, i + d = k →
    wY_word_56 post (nI p) (nI w) y_doc y_tracking y_view y_done y_steps y_lines y_columns y_rounds y_known y_many y_styleOf y_markOf y_words y_width y_note y_status y_styles y_pages y_stepKind y_stepA y_stepB y_stepC y_stepOn y_ofParagraph y_firstWord y_wordsOf y_slack y_begin y_needs y_notes y_columnOf y_topOf y_firstLine y_label y_labelWide y_counter y_refWide y_nextWide y_columnLine y_columnLines y_filled y_foot (d + 1) (nI (la_Fs a y_view rw p + i))
  | d, i, hi => by
    have h24 := (dc_Vn hv).2
    have hp24 : p < 24 := by omega
    have h16 := (dc_Vw hv hp24).2
    have hF := la_FsB (rw := rw) (vw := y_view) hv (p := p) (by omega)
    have hn := la_nlP (a := a) (rw := rw) (vw := y_view) h16
    have hwW := la_frW (a := a) (rw := rw) (vw := y_view) (p := p) (k + 1)
    have e1 : y_firstLine (nI p + 1).toNatClampNeg = nI (la_Fs a y_view rw p + la_nl a y_view rw p) := by rw [ix_c (nI_1 p) (by omega), HF (p + 1) (by omega)]; rfl
    refine ⟨ix_in (nI_1 p) (by omega) (by omega), ?_⟩
    rw [e1, nI_1]
    match d with
    | 0 =>
      obtain rfl : i = k := by omega
      refine pk_le (la_Fs a y_view rw p + la_nl a y_view rw p) (la_Fs a y_view rw p + i + 1) (fun y => h) (fun y => ⟨vp_in_nI (by omega) (by omega), ?_⟩)
      have ef := (HB p (i + 1) (Or.inl ⟨hp, by omega⟩)).2.1
      have e2 := (la_f1 (hn.2.2.1 (i + 1) (by omega) (by omega))).1
      rw [nI_clamp (by omega), show la_Fs a y_view rw p + i + 1 = la_Fs a y_view rw p + (i + 1) from by omega, ef, e2]
      exact br_t (nI_lt hw2 (by omega)) h
    | d + 1 =>
      have ef := (HB p (i + 1) (Or.inl ⟨hp, by omega⟩)).2.1
      have e2 := (la_f1 (hn.2.2.1 (i + 1) (by omega) (by omega))).1
      have hm := la_frm (a := a) (rw := rw) (vw := y_view) (p := p) (show i + 1 ≤ k from by omega)
      refine br_f (nI_ge (by omega) (by omega)) ⟨vp_in_nI (by omega) (by omega), ?_⟩
      rw [nI_clamp (by omega), show la_Fs a y_view rw p + i + 1 = la_Fs a y_view rw p + (i + 1) from by omega, ef, e2]
      exact br_f (nI_nlt (by omega) (by omega)) (nm_e (yr_w56 hv HB HF hp hk hw1 hw2 h d (i + 1) (by omega)))
  termination_by d => d
theorem i_vc_word {k : Nat} {u : SX} {v : SY} (I : i_Rel k u v) (hk : k + 4 ≤ 2048) (v1 : Int32) (v2 : Int32) : wpX_word (fun r u' => wpY_word (fun r' v' => r' = r ∧ i_Rel (k + 4) u' v') v v1 v2) u v1 v2 := by
  obtain ⟨x_tracking, x_view, x_slotNow, x_stepsBack, x_stepsAgain, x_stale, x_rounds, x_columnCount, x_doc, x_kept, x_referenceWidth, x_labelValue, x_labelWidth, x_lineCount, x_gapBefore, x_headNeeds, x_groupNeeds, x_wordLine, x_wordLeft, x_lineFirst, x_lineWords, x_lineLeft, x_lineSlack, x_lineNotes, x_lineColumn, x_lineTop, x_columnParagraph, x_columnFirst, x_columnLines, x_columnNotes, x_columnFilled⟩ := u
  obtain ⟨y_doc, y_tracking, y_view, y_done, y_steps, y_lines, y_columns, y_rounds, y_known, y_many, y_styleOf, y_markOf, y_words, y_width, y_note, y_status, y_styles, y_pages, y_stepKind, y_stepA, y_stepB, y_stepC, y_stepOn, y_ofParagraph, y_firstWord, y_wordsOf, y_slack, y_begin, y_needs, y_notes, y_columnOf, y_topOf, y_firstLine, y_label, y_labelWide, y_counter, y_refWide, y_nextWide, y_columnLine, y_columnLines, y_filled, y_foot⟩ := v
  obtain ⟨s, n, _, _, _, _, hv⟩ := re_f I
  obtain ⟨e0, h24⟩ := dc_Vn hv
  have Z := re_z I
  have eview : x_view = y_view := I.2.2.1
  unfold wpX_word
  refine xr_isP (fun z => br_t rfl ?_) (fun z1 z2 => br_f (by decide) ?_)
  · unfold wpY_word
    exact re_isT I (fun _ => br_t rfl ⟨rfl, I⟩) (fun q1 q2 => absurd ⟨q1, q2⟩ z)
  · obtain ⟨p, hp, rfl⟩ := op_ix z1 (e0 ▸ z2) (by omega)
    have hp24 : p < 24 := by omega
    obtain ⟨ew, h16⟩ := dc_Vw hv hp24
    have eyw : y_words (nI p).toNatClampNeg = nI (dc_w x_doc p) := by rw [nI_clamp (by omega), Z.2.2.2.2.2.1 p hp24, ew]
    have bad : ¬ (0 ≤ v2 ∧ v2 ≤ nI (dc_w x_doc p) - 1) → wpY_word (fun r' v' => r' = -1 ∧ i_Rel (k + 4) (x_tracking, x_view, x_slotNow, x_stepsBack, x_stepsAgain, x_stale, x_rounds, x_columnCount, x_doc, x_kept, x_referenceWidth, x_labelValue, x_labelWidth, x_lineCount, x_gapBefore, x_headNeeds, x_groupNeeds, x_wordLine, x_wordLeft, x_lineFirst, x_lineWords, x_lineLeft, x_lineSlack, x_lineNotes, x_lineColumn, x_lineTop, x_columnParagraph, x_columnFirst, x_columnLines, x_columnNotes, x_columnFilled) v') (y_doc, y_tracking, y_view, y_done, y_steps, y_lines, y_columns, y_rounds, y_known, y_many, y_styleOf, y_markOf, y_words, y_width, y_note, y_status, y_styles, y_pages, y_stepKind, y_stepA, y_stepB, y_stepC, y_stepOn, y_ofParagraph, y_firstWord, y_wordsOf, y_slack, y_begin, y_needs, y_notes, y_columnOf, y_topOf, y_firstLine, y_label, y_labelWide, y_counter, y_refWide, y_nextWide, y_columnLine, y_columnLines, y_filled, y_foot) (nI p) v2 := fun z => by
      unfold wpY_word
      refine re_isT I (fun q => absurd ⟨z1, z2⟩ q) (fun _ _ => br_f (by decide) ⟨vp_in_nI (by omega) (by omega), ?_⟩)
      rw [eyw]
      exact yr_in (fun _ => br_t rfl ⟨rfl, I⟩) (fun q1 q2 => absurd ⟨q1, q2⟩ z)
    refine br_c (fun w => bad fun q => Int32.not_lt.mpr q.1 w) (fun w1 => xr_wo rfl hp24 ?_)
    rw [ew]
    refine br_c (fun w2 => ?_) (fun w2 => bad fun q => w2 ?_)
    · obtain ⟨w, hw, rfl⟩ := op_ix (Int32.not_lt.mp w1) w2 (by omega)
      have inw : 0 ≤ nI w ∧ nI w ≤ nI (dc_w x_doc p) - 1 := ⟨Int32.not_lt.mp w1, by rw [op_m1 (by omega) (Int32.not_lt.mp w1)]; exact w2⟩
      refine xr_sh rfl hp24 rfl (by omega) (fun hs => br_f (by decide) (re_x I ?_)) (fun hs => br_t rfl ?_)
      · intro x_rounds x_columnCount x_referenceWidth x_labelValue x_labelWidth x_lineCount x_wordLine x_wordLeft x_lineFirst x_lineWords x_lineLeft x_lineSlack x_lineNotes x_gapBefore x_headNeeds x_groupNeeds x_lineColumn x_lineTop x_columnParagraph x_columnFirst x_columnLines x_columnNotes x_columnFilled GX I
        obtain ⟨r, fr, ro, lb, xB, fC⟩ := GX
        obtain ⟨i, hi, hi1, hi2⟩ := la_li (a := x_doc) (rw := la_rk x_doc x_view (r - 1)) (vw := x_view) h16 hw
        have hn := la_nlP (a := x_doc) (rw := la_rk x_doc x_view (r - 1)) (vw := x_view) h16
        obtain ⟨x1, x2⟩ := (xB p hp).2.2 i w hi hi1 hi2 hs
        obtain ⟨c1, _⟩ := fC.2.2 p i (by omega) (Or.inl ⟨hp, hi⟩)
        have go : ∀ val : Int32, val = rd_w x_doc x_view (la_rk x_doc x_view (r - 1)) p i w → wpY_word (fun r' v' => r' = val ∧ i_Rel (k + 4) (x_tracking, x_view, x_slotNow, x_stepsBack, x_stepsAgain, 0, x_rounds, x_columnCount, x_doc, x_kept, x_referenceWidth, x_labelValue, x_labelWidth, x_lineCount, x_gapBefore, x_headNeeds, x_groupNeeds, x_wordLine, x_wordLeft, x_lineFirst, x_lineWords, x_lineLeft, x_lineSlack, x_lineNotes, x_lineColumn, x_lineTop, x_columnParagraph, x_columnFirst, x_columnLines, x_columnNotes, x_columnFilled) v') (y_doc, y_tracking, y_view, y_done, y_steps, y_lines, y_columns, y_rounds, y_known, y_many, y_styleOf, y_markOf, y_words, y_width, y_note, y_status, y_styles, y_pages, y_stepKind, y_stepA, y_stepB, y_stepC, y_stepOn, y_ofParagraph, y_firstWord, y_wordsOf, y_slack, y_begin, y_needs, y_notes, y_columnOf, y_topOf, y_firstLine, y_label, y_labelWide, y_counter, y_refWide, y_nextWide, y_columnLine, y_columnLines, y_filled, y_foot) (nI p) (nI w) := fun val hval => by
          subst hval
          subst eview
          unfold wpY_word
          refine re_isT I (fun q => absurd ⟨z1, z2⟩ q) (fun _ _ => br_f (by decide) ⟨vp_in_nI (by omega) (by omega), ?_⟩)
          rw [eyw]
          refine yr_in (fun q => absurd inw q) (fun _ _ => br_f (by decide) (yr_sh Z (ad_yl p w) hp24 (by omega) (fun _ => br_f (by decide) (re_k I ?_)) (fun q => absurd hs q)))
          intro y_lines y_columns y_rounds y_label y_labelWide y_counter y_refWide y_nextWide y_firstLine y_ofParagraph y_firstWord y_wordsOf y_slack y_begin y_needs y_notes y_columnOf y_topOf y_columnLine y_columnLines y_filled y_foot ⟨r', fr', _, lb', hr, hB, hF, fC'⟩ I
          obtain rfl := la_finU fr fr'
          refine ⟨vp_in_nI (by omega) (by omega), nm_r (e' := nI (la_Fs x_doc x_view (la_rk x_doc x_view (r - 1)) p)) (by rw [nI_clamp (by omega), hF p (by omega)]) ⟨i + 1, ?_⟩⟩
          exact yr_w56 hv hB hF hp hi hi1 hi2 (yr_w90 hv Z hr hB hF fC' hp hi hw (la_fS hi1 hi2 hs) ⟨rfl, I⟩) i 0 (by omega)
        have el := ad_l p w
        have jl := vp_in_nI (n := 16 * p + w) (N := 384) (by omega) (by omega)
        have cl := nI_clamp (n := 16 * p + w) (by omega)
        have ei := ad_l p i
        have f104 : ∀ z0 : Int32, z0 = rd_s x_doc x_view (la_rk x_doc x_view (r - 1)) p i → wX_word_104 (fun r u' => wpY_word (fun r' v' => r' = r ∧ i_Rel (k + 4) u' v') (y_doc, y_tracking, y_view, y_done, y_steps, y_lines, y_columns, y_rounds, y_known, y_many, y_styleOf, y_markOf, y_words, y_width, y_note, y_status, y_styles, y_pages, y_stepKind, y_stepA, y_stepB, y_stepC, y_stepOn, y_ofParagraph, y_firstWord, y_wordsOf, y_slack, y_begin, y_needs, y_notes, y_columnOf, y_topOf, y_firstLine, y_label, y_labelWide, y_counter, y_refWide, y_nextWide, y_columnLine, y_columnLines, y_filled, y_foot) (nI p) (nI w)) (nI (16 * p + w)) (nI i) z0 x_tracking x_view x_slotNow x_stepsBack x_stepsAgain 0 x_rounds x_columnCount x_doc x_kept x_referenceWidth x_labelValue x_labelWidth x_lineCount x_gapBefore x_headNeeds x_groupNeeds x_wordLine x_wordLeft x_lineFirst x_lineWords x_lineLeft x_lineSlack x_lineNotes x_lineColumn x_lineTop x_columnParagraph x_columnFirst x_columnLines x_columnNotes x_columnFilled := fun z0 ez => by
          subst ez
          refine ⟨jl, go _ ?_⟩
          rw [cl, x2]; rfl
        refine nm_r el ⟨jl, nm_r (e' := nI i) (by rw [cl, x1]) (br_c (fun c => ⟨ix_in ei (by omega) (by omega), by decide, ?_⟩) (fun c => br_t rfl (f104 0 ?_)))⟩
        · rw [ix_c ei (by omega), c1]
          refine br_c (fun q => br_f (by decide) (xr_cw (f104 _ ?_))) (fun q => br_t rfl (f104 0 ?_))
          · unfold rd_s; rw [if_pos c, if_pos q]
          · unfold rd_s; rw [if_pos c, if_neg q]
        · unfold rd_s; rw [if_neg c]
      · subst eview
        unfold wpY_word
        refine re_isT I (fun q => absurd ⟨z1, z2⟩ q) (fun _ _ => br_f (by decide) ⟨vp_in_nI (by omega) (by omega), ?_⟩)
        rw [eyw]
        exact yr_in (fun q => absurd inw q) (fun _ _ => br_f (by decide) (yr_sh Z (ad_yl p w) hp24 (by omega) (fun q => absurd q hs) (fun _ => br_t rfl ⟨rfl, I⟩)))
    · rw [← op_m1 (by omega) (Int32.not_lt.mp w1)]; exact q.2
