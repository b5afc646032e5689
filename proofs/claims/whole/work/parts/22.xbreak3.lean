variable {x_tracking x_view x_slotNow x_stepsBack x_stepsAgain x_stale x_rounds x_columnCount : Int32} {x_doc x_kept x_referenceWidth x_labelValue x_labelWidth x_lineCount x_gapBefore x_headNeeds x_groupNeeds x_wordLine x_wordLeft x_lineFirst x_lineWords x_lineLeft x_lineSlack x_lineNotes x_lineColumn x_lineTop x_columnParagraph x_columnFirst x_columnLines x_columnNotes x_columnFilled : Nat → Int32}
theorem xb_L2 {post : SX → Prop} {p : Nat} {rw : Nat → Int32} (hv : dc_V x_doc) (hr : ∀ m, m < 8 → x_referenceWidth m = rw m) (hp : p < 24) (hlc : x_lineCount p = nI (la_nl x_doc x_view rw p))
    (hT : ∀ j, j < la_nl x_doc x_view rw p → x_lineFirst (16 * p + j) = nI (la_f x_doc x_view rw p j) ∧ x_lineWords (16 * p + j) = nI (la_t x_doc x_view rw p j) ∧ x_lineSlack (16 * p + j) = la_sl x_doc x_view rw p j ∧ x_lineNotes (16 * p + j) = la_no x_doc x_view rw p j)
    (h : ∀ x_wordLine x_wordLeft x_lineLeft, xb_B x_doc x_view rw (p + 1) x_lineCount x_wordLine x_wordLeft x_lineFirst x_lineWords x_lineLeft x_lineSlack x_lineNotes → post (x_tracking, x_view, x_slotNow, x_stepsBack, x_stepsAgain, x_stale, x_rounds, x_columnCount, x_doc, x_kept, x_referenceWidth, x_labelValue, x_labelWidth, x_lineCount, x_gapBefore, x_headNeeds, x_groupNeeds, x_wordLine, x_wordLeft, x_lineFirst, x_lineWords, x_lineLeft, x_lineSlack, x_lineNotes, x_lineColumn, x_lineTop, x_columnParagraph, x_columnFirst, x_columnLines, x_columnNotes, x_columnFilled)) : ∀ (d k : Nat) (x_wordLine x_wordLeft x_lineLeft : Nat → Int32), k + d = la_nl x_doc x_view rw p → xb_B x_doc x_view rw p x_lineCount x_wordLine x_wordLeft x_lineFirst x_lineWords x_lineLeft x_lineSlack x_lineNotes →
    (∀ j, j < k → x_lineLeft (16 * p + j) = la_al x_doc x_view rw p j) → (∀ j, k ≤ j → j < la_nl x_doc x_view rw p → x_lineLeft (16 * p + j) = la_l0 x_doc p j) →
    (∀ j w, j < k → la_fr x_doc x_view rw p j ≤ w → w < la_fr x_doc x_view rw p (j + 1) → la_sh x_doc x_view p w = true → x_wordLine (16 * p + w) = nI j ∧ x_wordLeft (16 * p + w) = la_ps x_doc x_view rw p j w) →
    wX_breakParagraph_56 post (nI p) (nI (la_nl x_doc x_view rw p)) (d + 1) (nI k) x_tracking x_view x_slotNow x_stepsBack x_stepsAgain x_stale x_rounds x_columnCount x_doc x_kept x_referenceWidth x_labelValue x_labelWidth x_lineCount x_gapBefore x_headNeeds x_groupNeeds x_wordLine x_wordLeft x_lineFirst x_lineWords x_lineLeft x_lineSlack x_lineNotes x_lineColumn x_lineTop x_columnParagraph x_columnFirst x_columnLines x_columnNotes x_columnFilled
  | 0, k, x_wordLine, x_wordLeft, x_lineLeft, hk, H, h1, h2, h3 => by
    have hn := (la_nlP (a := x_doc) (rw := rw) (vw := x_view) (dc_Vw hv hp).2).2.1
    obtain rfl : k = la_nl x_doc x_view rw p := by omega
    refine br_t (nI_le (by omega) (by omega)) (h _ _ _ fun q hq => ?_)
    by_cases e : q = p
    · subst e
      exact ⟨hlc, fun j hj => ⟨(hT j hj).1, (hT j hj).2.1, h1 j hj, (hT j hj).2.2.1, (hT j hj).2.2.2⟩, h3⟩
    · exact H q (by omega)
  | d + 1, k, x_wordLine, x_wordLeft, x_lineLeft, hk, H, h1, h2, h3 => by
    have h16 := (dc_Vw hv hp).2
    have hn := (la_nlP (a := x_doc) (rw := rw) (vw := x_view) h16).2.1
    have hw1 := la_frW (a := x_doc) (rw := rw) (vw := x_view) (p := p) (k + 1)
    have hrange : ∀ v, la_f x_doc x_view rw p k ≤ v → v < la_fr x_doc x_view rw p (k + 1) → la_fr x_doc x_view rw p k ≤ v := fun v q1 q2 => by
      rcases la_fC (a := x_doc) (rw := rw) (vw := x_view) (p := p) (k := k) with z | z <;> omega
    have hfe := la_fE (a := x_doc) (rw := rw) (vw := x_view) (p := p) (k := k)
    refine br_f (nI_ge (by omega) (by omega)) (xp_place hv hr rfl hp rfl (by omega) (hT k (by omega)).1 (hT k (by omega)).2.1 (h2 k (by omega) (by omega)) (hT k (by omega)).2.2.1 hlc (nm_r (nI_1 k) ?_))
    refine xb_L2 hv hr hp hlc hT h d (k + 1) _ _ _ (by omega) (xb_fr hv (by omega) H (fun _ _ => rfl) (fun i hi => la_wrO fun v _ _ _ => by omega) (fun i hi => la_wrO fun v _ _ _ => by omega) (fun _ _ => rfl) (fun _ _ => rfl) (fun i hi => pk_un (by omega)) (fun _ _ => rfl) (fun _ _ => rfl)) (fun j hj => ?_) (fun j hj1 hj2 => ?_) (fun j w hj hw2 hw3 hs => ?_)
    · by_cases e : j = k
      · subst e; exact pk_us
      · rw [pk_un (by omega)]; exact h1 j (by omega)
    · rw [pk_un (by omega)]; exact h2 j (by omega) hj2
    · by_cases e : j = k
      · subst e
        have q := la_fS hw2 hw3 hs
        exact ⟨la_wrI hs q (by omega), la_wrI (val := fun w => la_ps x_doc x_view rw p j w) hs q (by omega)⟩
      · have hm := la_frm (a := x_doc) (rw := rw) (vw := x_view) (p := p) (show j + 1 ≤ k from by omega)
        have e1 : la_wL x_doc x_view rw p k x_wordLine (16 * p + w) = x_wordLine (16 * p + w) := la_wrO fun v q1 q2 _ => by have := hrange v q1 (by omega); omega
        have e2 : la_wX x_doc x_view rw p k x_wordLeft (16 * p + w) = x_wordLeft (16 * p + w) := la_wrO fun v q1 q2 _ => by have := hrange v q1 (by omega); omega
        rw [e1, e2]
        exact h3 j w (by omega) hw2 hw3 hs
theorem xb_L1 {post : SX → Prop} {p : Nat} {rw : Nat → Int32} (hv : dc_V x_doc) (hr : ∀ m, m < 8 → x_referenceWidth m = rw m) (hl : x_labelWidth p = la_lw x_doc p) (hp : p < 24)
    (h : ∀ x_lineCount x_wordLine x_wordLeft x_lineFirst x_lineWords x_lineLeft x_lineSlack x_lineNotes, xb_B x_doc x_view rw (p + 1) x_lineCount x_wordLine x_wordLeft x_lineFirst x_lineWords x_lineLeft x_lineSlack x_lineNotes → post (x_tracking, x_view, x_slotNow, x_stepsBack, x_stepsAgain, x_stale, x_rounds, x_columnCount, x_doc, x_kept, x_referenceWidth, x_labelValue, x_labelWidth, x_lineCount, x_gapBefore, x_headNeeds, x_groupNeeds, x_wordLine, x_wordLeft, x_lineFirst, x_lineWords, x_lineLeft, x_lineSlack, x_lineNotes, x_lineColumn, x_lineTop, x_columnParagraph, x_columnFirst, x_columnLines, x_columnNotes, x_columnFilled)) : ∀ (d k : Nat) (x3 : Int32) (x_lineFirst x_lineWords x_lineLeft x_lineSlack x_lineNotes : Nat → Int32), k + d = 16 → (∀ j, 1 ≤ j → j ≤ k → la_fr x_doc x_view rw p j < dc_w x_doc p) → xb_B x_doc x_view rw p x_lineCount x_wordLine x_wordLeft x_lineFirst x_lineWords x_lineLeft x_lineSlack x_lineNotes →
    (∀ j, j < k → x_lineFirst (16 * p + j) = nI (la_f x_doc x_view rw p j) ∧ x_lineWords (16 * p + j) = nI (la_t x_doc x_view rw p j) ∧ x_lineLeft (16 * p + j) = la_l0 x_doc p j ∧ x_lineSlack (16 * p + j) = la_sl x_doc x_view rw p j ∧ x_lineNotes (16 * p + j) = la_no x_doc x_view rw p j) →
    wX_breakParagraph_7 post (nI p) (d + 1) (nI (la_fr x_doc x_view rw p k)) x3 (nI k) x_tracking x_view x_slotNow x_stepsBack x_stepsAgain x_stale x_rounds x_columnCount x_doc x_kept x_referenceWidth x_labelValue x_labelWidth x_lineCount x_gapBefore x_headNeeds x_groupNeeds x_wordLine x_wordLeft x_lineFirst x_lineWords x_lineLeft x_lineSlack x_lineNotes x_lineColumn x_lineTop x_columnParagraph x_columnFirst x_columnLines x_columnNotes x_columnFilled
  | 0, k, x3, x_lineFirst, x_lineWords, x_lineLeft, x_lineSlack, x_lineNotes, hk, hj, H, hT => by
    have h16 := (dc_Vw hv hp).2
    have z := hj k (by omega) (Nat.le_refl _)
    rcases la_frB (a := x_doc) (rw := rw) (vw := x_view) (p := p) k with q | q <;> exact absurd z (by omega)
  | d + 1, k, x3, x_lineFirst, x_lineWords, x_lineLeft, x_lineSlack, x_lineNotes, hk, hj, H, hT => by
    have h16 := (dc_Vw hv hp).2
    have hw1 := la_frW (a := x_doc) (rw := rw) (vw := x_view) (p := p) (k + 1)
    have jp := vp_in_nI (n := p) (N := 24) hp (by omega)
    have hT1 : ∀ j, j < k + 1 → upd x_lineFirst (16 * p + k) (nI (la_f x_doc x_view rw p k)) (16 * p + j) = nI (la_f x_doc x_view rw p j) ∧ upd x_lineWords (16 * p + k) (nI (la_t x_doc x_view rw p k)) (16 * p + j) = nI (la_t x_doc x_view rw p j) ∧ upd x_lineLeft (16 * p + k) (la_l0 x_doc p k) (16 * p + j) = la_l0 x_doc p j ∧ upd x_lineSlack (16 * p + k) (la_sl x_doc x_view rw p k) (16 * p + j) = la_sl x_doc x_view rw p j ∧ upd x_lineNotes (16 * p + k) (la_no x_doc x_view rw p k) (16 * p + j) = la_no x_doc x_view rw p j := fun j hj => by
      by_cases e : j = k
      · subst e; rw [pk_us, pk_us, pk_us, pk_us, pk_us]; exact ⟨rfl, rfl, rfl, rfl, rfl⟩
      · rw [pk_un (by omega), pk_un (by omega), pk_un (by omega), pk_un (by omega), pk_un (by omega)]; exact hT j (by omega)
    refine br_f (nI_ge (b := 16) (by omega) (by omega)) (xt_line hv hr hl rfl hp rfl (by omega) rfl (nm_r (nI_1 k) (xr_wo rfl hp ?_)))
    rw [(dc_Vw hv hp).1]
    refine pk_lt (la_fr x_doc x_view rw p (k + 1)) (dc_w x_doc p) (fun z => nm_r (nI_1 k) ?_) (fun z => ⟨jp, nm_r (e' := upd x_lineCount p (nI (k + 1))) (by rw [nI_clamp (by omega)]) ⟨k + 1 + 1, ?_⟩⟩)
    · refine xb_L1 hv hr hl hp h d (k + 1) _ _ _ _ _ _ (by omega) (fun j q1 q2 => ?_) (xb_fr hv (by omega) H (fun _ _ => rfl) (fun _ _ => rfl) (fun _ _ => rfl) (fun i hi => pk_un (by omega)) (fun i hi => pk_un (by omega)) (fun i hi => pk_un (by omega)) (fun i hi => pk_un (by omega)) (fun i hi => pk_un (by omega))) hT1
      by_cases e : j = k + 1
      · subst e; exact z
      · exact hj j q1 (by omega)
    · have en : la_nl x_doc x_view rw p = k + 1 := la_nlE h16 (by omega) (fun j q1 q2 => hj j q1 (by omega)) (by omega)
      have L := xb_L2 (post := post) (x_lineCount := upd x_lineCount p (nI (k + 1))) (x_lineFirst := upd x_lineFirst (16 * p + k) (nI (la_f x_doc x_view rw p k))) (x_lineWords := upd x_lineWords (16 * p + k) (nI (la_t x_doc x_view rw p k))) (x_lineSlack := upd x_lineSlack (16 * p + k) (la_sl x_doc x_view rw p k)) (x_lineNotes := upd x_lineNotes (16 * p + k) (la_no x_doc x_view rw p k))
        hv hr hp (by rw [pk_us, en]) (fun j hj => ⟨(hT1 j (by omega)).1, (hT1 j (by omega)).2.1, (hT1 j (by omega)).2.2.2⟩) (fun _ _ _ G => h _ _ _ _ _ _ _ _ G) (k + 1) 0 x_wordLine x_wordLeft (upd x_lineLeft (16 * p + k) (la_l0 x_doc p k)) (by omega)
        (xb_fr hv (by omega) H (fun q hq => pk_un (by omega)) (fun _ _ => rfl) (fun _ _ => rfl) (fun i hi => pk_un (by omega)) (fun i hi => pk_un (by omega)) (fun i hi => pk_un (by omega)) (fun i hi => pk_un (by omega)) (fun i hi => pk_un (by omega)))
        (fun j hj => absurd hj (by omega)) (fun j _ hj => (hT1 j (by omega)).2.2.1) (fun j w hj => absurd hj (by omega))
      rw [en] at L
      exact L
theorem xs_break {post : SX → Prop} {x : Int32} {p : Nat} {rw : Nat → Int32} (hv : dc_V x_doc) (hr : ∀ m, m < 8 → x_referenceWidth m = rw m) (hl : x_labelWidth p = la_lw x_doc p) (hx : x = nI p) (hp : p < 24) (H : xb_B x_doc x_view rw p x_lineCount x_wordLine x_wordLeft x_lineFirst x_lineWords x_lineLeft x_lineSlack x_lineNotes)
    (h : ∀ x_lineCount x_wordLine x_wordLeft x_lineFirst x_lineWords x_lineLeft x_lineSlack x_lineNotes, xb_B x_doc x_view rw (p + 1) x_lineCount x_wordLine x_wordLeft x_lineFirst x_lineWords x_lineLeft x_lineSlack x_lineNotes → post (x_tracking, x_view, x_slotNow, x_stepsBack, x_stepsAgain, x_stale, x_rounds, x_columnCount, x_doc, x_kept, x_referenceWidth, x_labelValue, x_labelWidth, x_lineCount, x_gapBefore, x_headNeeds, x_groupNeeds, x_wordLine, x_wordLeft, x_lineFirst, x_lineWords, x_lineLeft, x_lineSlack, x_lineNotes, x_lineColumn, x_lineTop, x_columnParagraph, x_columnFirst, x_columnLines, x_columnNotes, x_columnFilled)) : wpX_breakParagraph post (x_tracking, x_view, x_slotNow, x_stepsBack, x_stepsAgain, x_stale, x_rounds, x_columnCount, x_doc, x_kept, x_referenceWidth, x_labelValue, x_labelWidth, x_lineCount, x_gapBefore, x_headNeeds, x_groupNeeds, x_wordLine, x_wordLeft, x_lineFirst, x_lineWords, x_lineLeft, x_lineSlack, x_lineNotes, x_lineColumn, x_lineTop, x_columnParagraph, x_columnFirst, x_columnLines, x_columnNotes, x_columnFilled) x := by
  subst hx
  exact ⟨17, xb_L1 (k := 0) hv hr hl hp h 16 0 _ _ _ _ _ (by omega) (fun j q1 q2 => absurd q1 (by omega)) H (fun j hj => absurd hj (by omega))⟩
