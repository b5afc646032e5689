variable {x_tracking x_view x_slotNow x_stepsBack x_stepsAgain x_stale x_rounds x_columnCount : Int32} {x_doc x_kept x_referenceWidth x_labelValue x_labelWidth x_lineCount x_gapBefore x_headNeeds x_groupNeeds x_wordLine x_wordLeft x_lineFirst x_lineWords x_lineLeft x_lineSlack x_lineNotes x_lineColumn x_lineTop x_columnParagraph x_columnFirst x_columnLines x_columnNotes x_columnFilled : Nat → Int32}
theorem xs_drop65 {post : Int32 → SX → Prop} {b s p : Nat} (hs : x_slotNow = nI s) (h21 : s < 21) (hb : x_stepsBack = nI b) (h20 : b ≤ 20) (hp : p < 24)
    (h : post (x_doc (78 + 51 * p)) (x_tracking, x_view, (nI ((s + 1) % 21)), (nI (if b < 20 then b + 1 else b)), 0, 1, x_rounds, x_columnCount, x_doc, (st_b x_kept (1300 * ((s + 1) % 21)) 1300 x_doc), x_referenceWidth, x_labelValue, x_labelWidth, x_lineCount, x_gapBefore, x_headNeeds, x_groupNeeds, x_wordLine, x_wordLeft, x_lineFirst, x_lineWords, x_lineLeft, x_lineSlack, x_lineNotes, x_lineColumn, x_lineTop, x_columnParagraph, x_columnFirst, x_columnLines, x_columnNotes, x_columnFilled)) :
    wX_drop_65 post (nI p) x_tracking x_view x_slotNow x_stepsBack x_stepsAgain x_stale x_rounds x_columnCount x_doc x_kept x_referenceWidth x_labelValue x_labelWidth x_lineCount x_gapBefore x_headNeeds x_groupNeeds x_wordLine x_wordLeft x_lineFirst x_lineWords x_lineLeft x_lineSlack x_lineNotes x_lineColumn x_lineTop x_columnParagraph x_columnFirst x_columnLines x_columnNotes x_columnFilled := by
  unfold wX_drop_65
  exact xs_keep hs h21 hb h20 (xr_wo rfl hp h)
theorem xo_drp {post : Int32 → SX → Prop} {p : Int32} {b s : Nat} (hs : x_slotNow = nI s) (h21 : s < 21) (hb : x_stepsBack = nI b) (h20 : b ≤ 20) (hv : dc_V x_doc)
    (h0 : ∀ r, op_drp x_doc p x_tracking = (r, x_doc) → r < 0 → post r (x_tracking, x_view, x_slotNow, x_stepsBack, x_stepsAgain, x_stale, x_rounds, x_columnCount, x_doc, x_kept, x_referenceWidth, x_labelValue, x_labelWidth, x_lineCount, x_gapBefore, x_headNeeds, x_groupNeeds, x_wordLine, x_wordLeft, x_lineFirst, x_lineWords, x_lineLeft, x_lineSlack, x_lineNotes, x_lineColumn, x_lineTop, x_columnParagraph, x_columnFirst, x_columnLines, x_columnNotes, x_columnFilled))
    (h1 : ∀ r e, op_drp x_doc p x_tracking = (r, e) → ¬ r < 0 → post r (x_tracking, x_view, (nI ((s + 1) % 21)), (nI (if b < 20 then b + 1 else b)), 0, 1, x_rounds, x_columnCount, e, (st_b x_kept (1300 * ((s + 1) % 21)) 1300 e), x_referenceWidth, x_labelValue, x_labelWidth, x_lineCount, x_gapBefore, x_headNeeds, x_groupNeeds, x_wordLine, x_wordLeft, x_lineFirst, x_lineWords, x_lineLeft, x_lineSlack, x_lineNotes, x_lineColumn, x_lineTop, x_columnParagraph, x_columnFirst, x_columnLines, x_columnNotes, x_columnFilled)) :
    wpX_drop post (x_tracking, x_view, x_slotNow, x_stepsBack, x_stepsAgain, x_stale, x_rounds, x_columnCount, x_doc, x_kept, x_referenceWidth, x_labelValue, x_labelWidth, x_lineCount, x_gapBefore, x_headNeeds, x_groupNeeds, x_wordLine, x_wordLeft, x_lineFirst, x_lineWords, x_lineLeft, x_lineSlack, x_lineNotes, x_lineColumn, x_lineTop, x_columnParagraph, x_columnFirst, x_columnLines, x_columnNotes, x_columnFilled) p := by
  unfold wpX_drop
  obtain ⟨e0, h24⟩ := dc_Vn hv
  refine xr_isP (fun z => br_t rfl ?_) (fun z1 z2 => br_f (by decide) ?_)
  · exact h0 _ (if_neg z) (by decide)
  · obtain ⟨j, hj, rfl⟩ := op_ix z1 (e0 ▸ z2) (by omega)
    obtain ⟨ew, h16⟩ := dc_Vw hv (p := j) (by omega)
    have ec := nI_clamp (n := j) (by omega)
    have e : op_drp x_doc (nI j) x_tracking = _ := if_pos ⟨z1, z2⟩
    rw [ec] at e
    unfold wpX_lastNotGone
    refine xr_wo rfl (by omega) ?_
    rw [ew]
    refine nm_e ⟨dc_w x_doc j + 1, xs_lgL (by omega) _ h16 ?_⟩
    cases hg : dc_lg x_doc j (dc_w x_doc j) with
    | none =>
      rw [hg] at e
      exact br_f (by decide) (h0 _ e (by decide))
    | some w =>
      rw [hg] at e
      have hw := dc_lgw hg
      have e' : op_drp x_doc (nI j) x_tracking = if ¬ x_tracking = 0 ∧ x_doc (81 + 51 * j + 3 * w) = 0 then (x_doc (78 + 51 * j), upd x_doc (81 + 51 * j + 3 * w) 2) else (nI (dc_w x_doc j - 1), dc_tk x_doc j w) := e
      have tk : ∀ (hc : ¬ (¬ x_tracking = 0 ∧ x_doc (81 + 51 * j + 3 * w) = 0)), wX_drop_59 post (nI j) (nI w) x_tracking x_view x_slotNow x_stepsBack x_stepsAgain x_stale x_rounds x_columnCount x_doc x_kept x_referenceWidth x_labelValue x_labelWidth x_lineCount x_gapBefore x_headNeeds x_groupNeeds x_wordLine x_wordLeft x_lineFirst x_lineWords x_lineLeft x_lineSlack x_lineNotes x_lineColumn x_lineTop x_columnParagraph x_columnFirst x_columnLines x_columnNotes x_columnFilled := fun hc => by
        rw [if_neg hc] at e'
        refine xs_tk rfl rfl hv (by omega) hw (xs_drop65 hs h21 hb h20 (by omega) ?_)
        have q : dc_tk x_doc j w (78 + 51 * j) = nI (dc_w x_doc j - 1) := pk_us
        rw [q]
        exact h1 _ _ e' (nI_pos (by omega))
      refine br_t (nI_pos' (by omega)) (xr_wa rfl rfl (br_c (fun zt => tk fun q => q.1 zt) (fun zt => ⟨ix_in (nI_add _ 2) (by omega) (by omega), br_c (fun zs => ⟨ix_in (nI_add _ 2) (by omega) (by omega), nm_r (e' := upd x_doc (81 + 51 * j + 3 * w) 2) ?_ ?_⟩) (fun zs => tk fun q => zs ?_)⟩)))
      · rw [ix_c (ad_2 _) (by omega)]; exact congrArg (fun i => upd _ i _) (by omega)
      · rw [ix_c (ad_2 _) (by omega), show 79 + 51 * j + 3 * w + 2 = 81 + 51 * j + 3 * w from by omega] at zs
        rw [if_pos ⟨zt, zs⟩] at e'
        refine xs_drop65 hs h21 hb h20 (by omega) ?_
        rw [pk_un (by omega)]
        exact h1 _ _ e' (by rw [ew]; exact nI_pos (by omega))
      · rw [ix_c (ad_2 _) (by omega), show 79 + 51 * j + 3 * w + 2 = 81 + 51 * j + 3 * w from by omega]; exact q.2
/-- resolve -/
theorem xs_cgL {post : Int32 → Prop} {p : Nat} (hv : dc_V x_doc) (hp : p < 24) (h : post (nI (dc_cg x_doc p (dc_w x_doc p)))) : ∀ d w, w + d = dc_w x_doc p →
    wX_changedWords_4 post (nI p) x_tracking x_view x_slotNow x_stepsBack x_stepsAgain x_stale x_rounds x_columnCount x_doc x_kept x_referenceWidth x_labelValue x_labelWidth x_lineCount x_gapBefore x_headNeeds x_groupNeeds x_wordLine x_wordLeft x_lineFirst x_lineWords x_lineLeft x_lineSlack x_lineNotes x_lineColumn x_lineTop x_columnParagraph x_columnFirst x_columnLines x_columnNotes x_columnFilled (d + 1) (nI (dc_cg x_doc p w)) (nI w)
  | 0, w, hw => by
    obtain ⟨ew, h16⟩ := dc_Vw hv hp
    obtain rfl : w = dc_w x_doc p := by omega
    unfold wX_changedWords_4
    refine xr_wo rfl hp ?_
    rw [ew]
    exact br_t (nI_le (by omega) (by omega)) h
  | d + 1, w, hw => by
    obtain ⟨ew, h16⟩ := dc_Vw hv hp
    unfold wX_changedWords_4
    refine xr_wo rfl hp ?_
    rw [ew]
    refine br_f (nI_ge (by omega) (by omega)) (xr_wa rfl rfl ⟨ix_in (nI_add _ 2) (by omega) (by omega), ?_⟩)
    rw [ix_c (ad_2 _) (by omega), show 79 + 51 * p + 3 * w + 2 = 81 + 51 * p + 3 * w from by omega]
    have L := xs_cgL hv hp h d (w + 1) (by omega)
    have ec : dc_cg x_doc p (w + 1) = dc_cg x_doc p w + if x_doc (81 + 51 * p + 3 * w) = 0 then 0 else 1 := rfl
    refine br_c (fun z => nm_r (nI_1 _) ?_) (fun z => nm_r (nI_1 _) (nm_r (nI_1 _) ?_))
    · rw [if_pos z] at ec; rw [ec] at L; exact L
    · rw [if_neg z] at ec; rw [ec] at L; exact L
theorem xs_cg {post : Int32 → Prop} {x : Int32} {p : Nat} (hx : x = nI p) (hv : dc_V x_doc) (hp : p < 24) (h : post (nI (dc_cg x_doc p (dc_w x_doc p)))) : wpX_changedWords post (x_tracking, x_view, x_slotNow, x_stepsBack, x_stepsAgain, x_stale, x_rounds, x_columnCount, x_doc, x_kept, x_referenceWidth, x_labelValue, x_labelWidth, x_lineCount, x_gapBefore, x_headNeeds, x_groupNeeds, x_wordLine, x_wordLeft, x_lineFirst, x_lineWords, x_lineLeft, x_lineSlack, x_lineNotes, x_lineColumn, x_lineTop, x_columnParagraph, x_columnFirst, x_columnLines, x_columnNotes, x_columnFilled) x := by
  subst hx
  exact ⟨_, xs_cgL hv hp h (dc_w x_doc p) 0 (by omega)⟩
theorem xs_rsL {post : Int32 → SX → Prop} {p b s : Nat} {x3 un : Int32} (hs : x_slotNow = nI s) (h21 : s < 21) (hb : x_stepsBack = nI b) (h20 : b ≤ 20) (hp : p < 24) : ∀ (w : Nat) (x_doc : Nat → Int32), dc_V x_doc → w ≤ dc_w x_doc p →
    (∀ e, e = dc_rs p un w x_doc → post x3 (x_tracking, x_view, (nI ((s + 1) % 21)), (nI (if b < 20 then b + 1 else b)), 0, 1, x_rounds, x_columnCount, e, (st_b x_kept (1300 * ((s + 1) % 21)) 1300 e), x_referenceWidth, x_labelValue, x_labelWidth, x_lineCount, x_gapBefore, x_headNeeds, x_groupNeeds, x_wordLine, x_wordLeft, x_lineFirst, x_lineWords, x_lineLeft, x_lineSlack, x_lineNotes, x_lineColumn, x_lineTop, x_columnParagraph, x_columnFirst, x_columnLines, x_columnNotes, x_columnFilled)) →
    wX_resolve_42 post (nI p) x3 un (w + 1) (nI w - 1) x_tracking x_view x_slotNow x_stepsBack x_stepsAgain x_stale x_rounds x_columnCount x_doc x_kept x_referenceWidth x_labelValue x_labelWidth x_lineCount x_gapBefore x_headNeeds x_groupNeeds x_wordLine x_wordLeft x_lineFirst x_lineWords x_lineLeft x_lineSlack x_lineNotes x_lineColumn x_lineTop x_columnParagraph x_columnFirst x_columnLines x_columnNotes x_columnFilled
  | 0, x_doc, hv, hw, h => br_t (by decide) (xs_keep hs h21 hb h20 (h _ rfl))
  | w + 1, x_doc, hv, hw, h => by
    have h16 := (dc_Vw hv hp).2
    rw [nI_pred]
    have e6 : nI (79 + 51 * p + 3 * w) + 2 = nI (81 + 51 * p + 3 * w) := (nI_add _ 2).trans (congrArg nI (by omega))
    refine br_f (nI_pos (by omega)) (xr_wa rfl rfl (nm_r e6 ⟨vp_in_nI (by omega) (by omega), ?_⟩))
    rw [nI_clamp (by omega)]
    refine br_c (fun z => ?_) (fun z => ⟨vp_in_nI (by omega) (by omega), nm_e (nm_r (Int32.sub_eq_add_neg (nI w) 1).symm ?_)⟩)
    · obtain ⟨v, ew⟩ := dc_tkV hv hp (w := w) (by omega)
      refine xs_tk rfl rfl hv hp (by omega) (nm_r (Int32.sub_eq_add_neg (nI w) 1).symm ?_)
      exact xs_rsL hs h21 hb h20 hp w _ v (by omega) (fun e he => h e (he.trans (congrArg (dc_rs p un w) (if_pos z).symm)))
    · have v := dc_cell (p := p) (j := 5 + 3 * w) (v := nI 0) hv hp (by omega) (dc_R5 (hv.2.2.2.2.1 p hp) (by omega))
      rw [show 76 + 51 * p + (5 + 3 * w) = 81 + 51 * p + 3 * w from by omega] at v
      refine xs_rsL hs h21 hb h20 hp w _ v ?_ (fun e he => h e (he.trans (congrArg (dc_rs p un w) (if_neg z).symm)))
      unfold dc_w; rw [pk_un (by omega)]; unfold dc_w at hw; omega
theorem xo_res {post : Int32 → SX → Prop} {p ac : Int32} {b s : Nat} (hs : x_slotNow = nI s) (h21 : s < 21) (hb : x_stepsBack = nI b) (h20 : b ≤ 20) (hv : dc_V x_doc)
    (h0 : ∀ r e, op_res x_doc p ac = (r, e) → r < 0 ∨ r = 0 → post r (x_tracking, x_view, x_slotNow, x_stepsBack, x_stepsAgain, x_stale, x_rounds, x_columnCount, x_doc, x_kept, x_referenceWidth, x_labelValue, x_labelWidth, x_lineCount, x_gapBefore, x_headNeeds, x_groupNeeds, x_wordLine, x_wordLeft, x_lineFirst, x_lineWords, x_lineLeft, x_lineSlack, x_lineNotes, x_lineColumn, x_lineTop, x_columnParagraph, x_columnFirst, x_columnLines, x_columnNotes, x_columnFilled))
    (h1 : ∀ r e, op_res x_doc p ac = (r, e) → ¬ (r < 0 ∨ r = 0) → post r (x_tracking, x_view, (nI ((s + 1) % 21)), (nI (if b < 20 then b + 1 else b)), 0, 1, x_rounds, x_columnCount, e, (st_b x_kept (1300 * ((s + 1) % 21)) 1300 e), x_referenceWidth, x_labelValue, x_labelWidth, x_lineCount, x_gapBefore, x_headNeeds, x_groupNeeds, x_wordLine, x_wordLeft, x_lineFirst, x_lineWords, x_lineLeft, x_lineSlack, x_lineNotes, x_lineColumn, x_lineTop, x_columnParagraph, x_columnFirst, x_columnLines, x_columnNotes, x_columnFilled)) :
    wpX_resolve post (x_tracking, x_view, x_slotNow, x_stepsBack, x_stepsAgain, x_stale, x_rounds, x_columnCount, x_doc, x_kept, x_referenceWidth, x_labelValue, x_labelWidth, x_lineCount, x_gapBefore, x_headNeeds, x_groupNeeds, x_wordLine, x_wordLeft, x_lineFirst, x_lineWords, x_lineLeft, x_lineSlack, x_lineNotes, x_lineColumn, x_lineTop, x_columnParagraph, x_columnFirst, x_columnLines, x_columnNotes, x_columnFilled) p ac := by
  unfold wpX_resolve
  obtain ⟨e0, h24⟩ := dc_Vn hv
  refine xr_isP (fun z => br_t rfl ?_) (fun z1 z2 => br_f (by decide) ?_)
  · exact h0 _ _ (if_neg z) (Or.inl (by decide))
  · obtain ⟨j, hj, rfl⟩ := op_ix z1 (e0 ▸ z2) (by omega)
    have ec := nI_clamp (n := j) (by omega)
    have e : op_res x_doc (nI j) ac = _ := if_pos ⟨z1, z2⟩
    rw [ec] at e
    have hc : dc_cg x_doc j (dc_w x_doc j) < 2 ^ 31 := by
      have q : ∀ w, dc_cg x_doc j w ≤ w := by
        intro w
        induction w with
        | zero => exact Nat.le_refl _
        | succ w ih => unfold dc_cg; split <;> omega
      have := q (dc_w x_doc j); have := (dc_Vw hv (p := j) (by omega)).2; omega
    refine xs_cg rfl hv (by omega) (br_c (fun z => ?_) (fun z => ?_))
    · have q := h0 _ _ e (Or.inr z); rw [z] at q; exact q
    · have h2 := h1 _ _ e (fun q => q.elim (nI_pos hc) z)
      have go : ∀ un : Int32, un = (if ac = 0 then 1 else 2) → wX_resolve_31 post (nI j) (nI (dc_cg x_doc j (dc_w x_doc j))) un x_tracking x_view x_slotNow x_stepsBack x_stepsAgain x_stale x_rounds x_columnCount x_doc x_kept x_referenceWidth x_labelValue x_labelWidth x_lineCount x_gapBefore x_headNeeds x_groupNeeds x_wordLine x_wordLeft x_lineFirst x_lineWords x_lineLeft x_lineSlack x_lineNotes x_lineColumn x_lineTop x_columnParagraph x_columnFirst x_columnLines x_columnNotes x_columnFilled := fun un hu => by
        subst hu
        unfold wX_resolve_31
        refine xr_wo rfl (by omega) ?_
        rw [(dc_Vw hv (p := j) (by omega)).1]
        exact nm_e ⟨_, xs_rsL hs h21 hb h20 (by omega) _ x_doc hv (by omega) (fun e' he => by subst he; exact h2)⟩
      exact br_c (fun za => go 1 (if_pos za).symm) (fun za => go 2 (if_neg za).symm)
/-- step -/
theorem xo_step {post : Int32 → SX → Prop} {bk : Int32} {b s g : Nat} (hs : x_slotNow = nI s) (h21 : s < 21) (hb : x_stepsBack = nI b) (hg : x_stepsAgain = nI g) (h20 : b + g ≤ 20)
    (h0 : (bk = 0 → g = 0) → (¬ bk = 0 → b = 0) → post 0 (x_tracking, x_view, x_slotNow, x_stepsBack, x_stepsAgain, x_stale, x_rounds, x_columnCount, x_doc, x_kept, x_referenceWidth, x_labelValue, x_labelWidth, x_lineCount, x_gapBefore, x_headNeeds, x_groupNeeds, x_wordLine, x_wordLeft, x_lineFirst, x_lineWords, x_lineLeft, x_lineSlack, x_lineNotes, x_lineColumn, x_lineTop, x_columnParagraph, x_columnFirst, x_columnLines, x_columnNotes, x_columnFilled))
    (h1 : bk = 0 → 0 < g → post 1 (x_tracking, x_view, (nI ((s + 1) % 21)), (nI (b + 1)), (nI (g - 1)), 1, x_rounds, x_columnCount, (st_b x_doc 0 1300 (fun i => x_kept (1300 * ((s + 1) % 21) + i))), x_kept, x_referenceWidth, x_labelValue, x_labelWidth, x_lineCount, x_gapBefore, x_headNeeds, x_groupNeeds, x_wordLine, x_wordLeft, x_lineFirst, x_lineWords, x_lineLeft, x_lineSlack, x_lineNotes, x_lineColumn, x_lineTop, x_columnParagraph, x_columnFirst, x_columnLines, x_columnNotes, x_columnFilled))
    (h2 : ¬ bk = 0 → 0 < b → post 1 (x_tracking, x_view, (nI ((s + 20) % 21)), (nI (b - 1)), (nI (g + 1)), 1, x_rounds, x_columnCount, (st_b x_doc 0 1300 (fun i => x_kept (1300 * ((s + 20) % 21) + i))), x_kept, x_referenceWidth, x_labelValue, x_labelWidth, x_lineCount, x_gapBefore, x_headNeeds, x_groupNeeds, x_wordLine, x_wordLeft, x_lineFirst, x_lineWords, x_lineLeft, x_lineSlack, x_lineNotes, x_lineColumn, x_lineTop, x_columnParagraph, x_columnFirst, x_columnLines, x_columnNotes, x_columnFilled)) :
    wpX_step post (x_tracking, x_view, x_slotNow, x_stepsBack, x_stepsAgain, x_stale, x_rounds, x_columnCount, x_doc, x_kept, x_referenceWidth, x_labelValue, x_labelWidth, x_lineCount, x_gapBefore, x_headNeeds, x_groupNeeds, x_wordLine, x_wordLeft, x_lineFirst, x_lineWords, x_lineLeft, x_lineSlack, x_lineNotes, x_lineColumn, x_lineTop, x_columnParagraph, x_columnFirst, x_columnLines, x_columnNotes, x_columnFilled) bk := by
  subst hs hb hg
  refine br_c (fun z => pk_eq g 0 (fun y => h0 (fun _ => y) (fun q => absurd z q)) (fun y => ?_)) (fun z => pk_eq b 0 (fun y => h0 (fun q => absurd q z) (fun _ => y)) (fun y => ?_))
  · refine br_t z (nm_r (nI_1 b) (nm_r (e' := nI (g - 1)) ?_ ⟨by decide, nm_r (e' := nI ((s + 1) % 21)) ?_ (xs_load rfl (by omega) (h1 z (by omega)))⟩))
    · exact pk_sub (b := 1) (by omega)
    · have e : nI s + 1 + 21 = nI (s + 1 + 21) := by rw [nI_1]; exact nI_add _ 21
      rw [e]
      exact (pk_rem (d := 21) (by omega) (by omega) (by omega)).trans (congrArg nI (by omega))
  · refine br_f z (nm_r (e' := nI (b - 1)) ?_ (nm_r (e' := nI (g + 1)) ?_ ⟨by decide, nm_r (e' := nI ((s + 20) % 21)) ?_ (xs_load rfl (by omega) (h2 z (by omega)))⟩))
    · obtain ⟨k, rfl⟩ : ∃ k, b = k + 1 := ⟨b - 1, by omega⟩
      exact pk_m1 k
    · rw [← nI_1, Int32.sub_eq_add_neg, show (-(-1) : Int32) = 1 from by decide]
    · have e : nI s + (-1) + 21 = nI (s + 20) := by
        rw [Int32.add_assoc, show (-1 : Int32) + 21 = nI 20 from by decide, nI_add]
      rw [e]
      exact pk_rem (d := 21) (by omega) (by omega) (by omega)
theorem xo_track {post : Int32 → SX → Prop} {on vw : Int32} (ho : on = 0 ∨ on = 1)
    (h0 : ¬ (0 ≤ vw ∧ vw ≤ 2) → post 0 (x_tracking, x_view, x_slotNow, x_stepsBack, x_stepsAgain, x_stale, x_rounds, x_columnCount, x_doc, x_kept, x_referenceWidth, x_labelValue, x_labelWidth, x_lineCount, x_gapBefore, x_headNeeds, x_groupNeeds, x_wordLine, x_wordLeft, x_lineFirst, x_lineWords, x_lineLeft, x_lineSlack, x_lineNotes, x_lineColumn, x_lineTop, x_columnParagraph, x_columnFirst, x_columnLines, x_columnNotes, x_columnFilled)) (h1 : 0 ≤ vw ∧ vw ≤ 2 → post 1 (on, vw, x_slotNow, x_stepsBack, x_stepsAgain, 1, x_rounds, x_columnCount, x_doc, x_kept, x_referenceWidth, x_labelValue, x_labelWidth, x_lineCount, x_gapBefore, x_headNeeds, x_groupNeeds, x_wordLine, x_wordLeft, x_lineFirst, x_lineWords, x_lineLeft, x_lineSlack, x_lineNotes, x_lineColumn, x_lineTop, x_columnParagraph, x_columnFirst, x_columnLines, x_columnNotes, x_columnFilled)) : wpX_track post (x_tracking, x_view, x_slotNow, x_stepsBack, x_stepsAgain, x_stale, x_rounds, x_columnCount, x_doc, x_kept, x_referenceWidth, x_labelValue, x_labelWidth, x_lineCount, x_gapBefore, x_headNeeds, x_groupNeeds, x_wordLine, x_wordLeft, x_lineFirst, x_lineWords, x_lineLeft, x_lineSlack, x_lineNotes, x_lineColumn, x_lineTop, x_columnParagraph, x_columnFirst, x_columnLines, x_columnNotes, x_columnFilled) on vw := by
  unfold wpX_track
  refine xr_in (fun z => br_t rfl (h0 z)) (fun z1 z2 => br_f (by decide) ⟨?_, ?_, h1 ⟨z1, z2⟩⟩)
  · rcases ho with rfl | rfl <;> rfl
  · rcases ho with rfl | rfl <;> rfl
