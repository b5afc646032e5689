variable {x_tracking x_view x_slotNow x_stepsBack x_stepsAgain x_stale x_rounds x_columnCount : Int32} {x_doc x_kept x_referenceWidth x_labelValue x_labelWidth x_lineCount x_gapBefore x_headNeeds x_groupNeeds x_wordLine x_wordLeft x_lineFirst x_lineWords x_lineLeft x_lineSlack x_lineNotes x_lineColumn x_lineTop x_columnParagraph x_columnFirst x_columnLines x_columnNotes x_columnFilled : Nat → Int32}
theorem xf_L19 {post : SX → Prop} {p n : Nat} {rw : Nat → Int32} (hv : dc_V x_doc) (HB : xb_B x_doc x_view rw (dc_n x_doc) x_lineCount x_wordLine x_wordLeft x_lineFirst x_lineWords x_lineLeft x_lineSlack x_lineNotes) (HM : xm_M x_doc x_view rw 0 x_gapBefore x_headNeeds x_groupNeeds) (hp : p < dc_n x_doc)
    (h : ∀ x_columnCount x_lineColumn x_lineTop x_columnParagraph x_columnFirst x_columnLines x_columnNotes x_columnFilled, xf_C x_doc x_view rw (la_fl x_doc x_view rw (p + 1)) (p + 1) 0 x_columnCount x_lineColumn x_lineTop x_columnParagraph x_columnFirst x_columnLines x_columnNotes x_columnFilled → wX_fillColumns_7 post n (nI (p + 1)) x_tracking x_view x_slotNow x_stepsBack x_stepsAgain x_stale x_rounds x_columnCount x_doc x_kept x_referenceWidth x_labelValue x_labelWidth x_lineCount x_gapBefore x_headNeeds x_groupNeeds x_wordLine x_wordLeft x_lineFirst x_lineWords x_lineLeft x_lineSlack x_lineNotes x_lineColumn x_lineTop x_columnParagraph x_columnFirst x_columnLines x_columnNotes x_columnFilled) : ∀ (d k : Nat) (x_columnCount : Int32) (x_lineColumn x_lineTop x_columnParagraph x_columnFirst x_columnLines x_columnNotes x_columnFilled : Nat → Int32), k + d = la_nl x_doc x_view rw p →
    xf_C x_doc x_view rw (la_fp x_doc x_view rw (la_fl x_doc x_view rw p) p k) p k x_columnCount x_lineColumn x_lineTop x_columnParagraph x_columnFirst x_columnLines x_columnNotes x_columnFilled → wX_fillColumns_19 post (wX_fillColumns_7 post n) (nI p) (d + 1) (nI k) x_tracking x_view x_slotNow x_stepsBack x_stepsAgain x_stale x_rounds x_columnCount x_doc x_kept x_referenceWidth x_labelValue x_labelWidth x_lineCount x_gapBefore x_headNeeds x_groupNeeds x_wordLine x_wordLeft x_lineFirst x_lineWords x_lineLeft x_lineSlack x_lineNotes x_lineColumn x_lineTop x_columnParagraph x_columnFirst x_columnLines x_columnNotes x_columnFilled
  | 0, k, x_columnCount, x_lineColumn, x_lineTop, x_columnParagraph, x_columnFirst, x_columnLines, x_columnNotes, x_columnFilled, hk, H => by
    have h24 := (dc_Vn hv).2
    obtain ⟨hc, hT, _⟩ := HB p hp
    have hn := la_nlP (a := x_doc) (rw := rw) (vw := x_view) (dc_Vw hv (p := p) (by omega)).2
    obtain rfl : k = la_nl x_doc x_view rw p := by omega
    refine ⟨vp_in_nI (by omega) (by omega), ?_⟩
    rw [nI_clamp (by omega), hc]
    refine br_t (nI_le (by omega) (by omega)) (nm_r (nI_1 p) (h _ _ _ _ _ _ _ _ ⟨H.1, H.2.1, fun q j hj hq => H.2.2 q j hj ?_⟩))
    rcases hq with ⟨q1, q2⟩ | ⟨q1, q2⟩
    · by_cases e : q = p
      · subst e; exact Or.inr ⟨rfl, q2⟩
      · exact Or.inl ⟨by omega, q2⟩
    · exact absurd q2 (by omega)
  | d + 1, k, x_columnCount, x_lineColumn, x_lineTop, x_columnParagraph, x_columnFirst, x_columnLines, x_columnNotes, x_columnFilled, hk, H => by
    have h24 := (dc_Vn hv).2
    have hp24 : p < 24 := by omega
    obtain ⟨hc, hT, _⟩ := HB p hp
    have hn := la_nlP (a := x_doc) (rw := rw) (vw := x_view) (dc_Vw hv hp24).2
    have hlo : ∀ j, j < la_nl x_doc x_view rw p → x_lineNotes (16 * p + j) = la_no x_doc x_view rw p j := fun j hj => (hT j hj).2.2.2.2
    obtain ⟨g1, g2⟩ := la_flI (rw := rw) (vw := x_view) hv p (by omega)
    obtain ⟨q1, q2, q3⟩ := la_fpI (rw := rw) (vw := x_view) hv hp24 g1 g2 k
    have qb := q1.1
    have q4 := (la_adI (rw := rw) (vw := x_view) hv hp24 q1 q3).2.2
    have ih := xf_L19 hv HB HM hp h d (k + 1)
    have estep : la_fp x_doc x_view rw (la_fl x_doc x_view rw p) p (k + 1) = la_put x_doc x_view rw (if la_is x_doc x_view rw (la_fp x_doc x_view rw (la_fl x_doc x_view rw p) p k) p k = true then la_new (la_fp x_doc x_view rw (la_fl x_doc x_view rw p) p k) p k else la_fp x_doc x_view rw (la_fl x_doc x_view rw p) p k) p k := rfl
    rw [estep] at ih
    have f58 : ∀ (S : la_F) (x_columnCount : Int32) (x_lineColumn x_lineTop x_columnParagraph x_columnFirst x_columnLines x_columnNotes x_columnFilled : Nat → Int32), S = (if la_is x_doc x_view rw (la_fp x_doc x_view rw (la_fl x_doc x_view rw p) p k) p k = true then la_new (la_fp x_doc x_view rw (la_fl x_doc x_view rw p) p k) p k else la_fp x_doc x_view rw (la_fl x_doc x_view rw p) p k) → S.1 ≤ 384 → xf_C x_doc x_view rw S p k x_columnCount x_lineColumn x_lineTop x_columnParagraph x_columnFirst x_columnLines x_columnNotes x_columnFilled →
        wX_fillColumns_58 post (wX_fillColumns_7 post n) (wX_fillColumns_19 post (wX_fillColumns_7 post n) (nI p) (d + 1)) (nI p) (nI k) x_tracking x_view x_slotNow x_stepsBack x_stepsAgain x_stale x_rounds x_columnCount x_doc x_kept x_referenceWidth x_labelValue x_labelWidth x_lineCount x_gapBefore x_headNeeds x_groupNeeds x_wordLine x_wordLeft x_lineFirst x_lineWords x_lineLeft x_lineSlack x_lineNotes x_lineColumn x_lineTop x_columnParagraph x_columnFirst x_columnLines x_columnNotes x_columnFilled := fun S cc x_lineColumn1 x_lineTop1 x_columnParagraph1 x_columnFirst1 x_columnLines1 x_columnNotes1 x_columnFilled1 eS hS H' => by
      rw [← eS] at ih q4
      unfold wX_fillColumns_58
      refine xf_put hv rfl hp24 rfl (by omega) q4 hS (HM p (by omega) hp).1 (hlo k (by omega)) H' ?_
      intro x_lineColumn x_lineTop x_columnParagraph x_columnFirst x_columnLines x_columnNotes x_columnFilled H2
      exact nm_r (nI_1 k) (ih _ _ _ _ _ _ _ _ (by omega) H2)
    have f47t : la_is x_doc x_view rw (la_fp x_doc x_view rw (la_fl x_doc x_view rw p) p k) p k = true → wX_fillColumns_47 post (wX_fillColumns_7 post n) (wX_fillColumns_19 post (wX_fillColumns_7 post n) (nI p) (d + 1)) (nI p) (nI k) 1 x_tracking x_view x_slotNow x_stepsBack x_stepsAgain x_stale x_rounds x_columnCount x_doc x_kept x_referenceWidth x_labelValue x_labelWidth x_lineCount x_gapBefore x_headNeeds x_groupNeeds x_wordLine x_wordLeft x_lineFirst x_lineWords x_lineLeft x_lineSlack x_lineNotes x_lineColumn x_lineTop x_columnParagraph x_columnFirst x_columnLines x_columnNotes x_columnFilled := fun z => by
      refine br_f (by decide) (xf_start rfl rfl (by omega) H ?_)
      intro x_columnCount x_lineColumn x_lineTop x_columnParagraph x_columnFirst x_columnLines x_columnNotes x_columnFilled H2
      exact f58 _ _ _ _ _ _ _ _ _ (if_pos z).symm (by show _ + 1 ≤ 384; omega) H2
    have f47f : ¬ la_is x_doc x_view rw (la_fp x_doc x_view rw (la_fl x_doc x_view rw p) p k) p k = true → wX_fillColumns_47 post (wX_fillColumns_7 post n) (wX_fillColumns_19 post (wX_fillColumns_7 post n) (nI p) (d + 1)) (nI p) (nI k) 0 x_tracking x_view x_slotNow x_stepsBack x_stepsAgain x_stale x_rounds x_columnCount x_doc x_kept x_referenceWidth x_labelValue x_labelWidth x_lineCount x_gapBefore x_headNeeds x_groupNeeds x_wordLine x_wordLeft x_lineFirst x_lineWords x_lineLeft x_lineSlack x_lineNotes x_lineColumn x_lineTop x_columnParagraph x_columnFirst x_columnLines x_columnNotes x_columnFilled := fun z =>
      br_t rfl (f58 _ _ _ _ _ _ _ _ _ (if_neg z).symm (by omega) H)
    refine ⟨vp_in_nI (by omega) (by omega), ?_⟩
    rw [nI_clamp (by omega), hc]
    refine br_f (nI_ge (by omega) (by omega)) (pk_eq k 0 (fun z => ?_) (fun z => ?_))
    · subst z
      exact xf_opens hv rfl hp (fun z0 => by have := g2; show 1 ≤ (la_fl x_doc x_view rw p).1; omega) (by omega) HM H f47t f47f
    · have ei : la_is x_doc x_view rw (la_fp x_doc x_view rw (la_fl x_doc x_view rw p) p k) p k = la_tu x_doc x_view rw (la_fp x_doc x_view rw (la_fl x_doc x_view rw p) p k) p k := if_neg z
      rw [ei] at f47t f47f
      exact xf_turns hv rfl hp24 rfl (by omega) (q2 (by omega)) (by omega) hc hlo H f47t f47f
theorem xf_L7 {post : SX → Prop} {rw : Nat → Int32} (hv : dc_V x_doc) (HB : xb_B x_doc x_view rw (dc_n x_doc) x_lineCount x_wordLine x_wordLeft x_lineFirst x_lineWords x_lineLeft x_lineSlack x_lineNotes) (HM : xm_M x_doc x_view rw 0 x_gapBefore x_headNeeds x_groupNeeds)
    (h : ∀ x_columnCount x_lineColumn x_lineTop x_columnParagraph x_columnFirst x_columnLines x_columnNotes x_columnFilled, xf_C x_doc x_view rw (la_fl x_doc x_view rw (dc_n x_doc)) (dc_n x_doc) 0 x_columnCount x_lineColumn x_lineTop x_columnParagraph x_columnFirst x_columnLines x_columnNotes x_columnFilled → post (x_tracking, x_view, x_slotNow, x_stepsBack, x_stepsAgain, x_stale, x_rounds, x_columnCount, x_doc, x_kept, x_referenceWidth, x_labelValue, x_labelWidth, x_lineCount, x_gapBefore, x_headNeeds, x_groupNeeds, x_wordLine, x_wordLeft, x_lineFirst, x_lineWords, x_lineLeft, x_lineSlack, x_lineNotes, x_lineColumn, x_lineTop, x_columnParagraph, x_columnFirst, x_columnLines, x_columnNotes, x_columnFilled)) : ∀ (d p : Nat) (x_columnCount : Int32) (x_lineColumn x_lineTop x_columnParagraph x_columnFirst x_columnLines x_columnNotes x_columnFilled : Nat → Int32), p + d = dc_n x_doc →
    xf_C x_doc x_view rw (la_fl x_doc x_view rw p) p 0 x_columnCount x_lineColumn x_lineTop x_columnParagraph x_columnFirst x_columnLines x_columnNotes x_columnFilled → wX_fillColumns_7 post (d + 1) (nI p) x_tracking x_view x_slotNow x_stepsBack x_stepsAgain x_stale x_rounds x_columnCount x_doc x_kept x_referenceWidth x_labelValue x_labelWidth x_lineCount x_gapBefore x_headNeeds x_groupNeeds x_wordLine x_wordLeft x_lineFirst x_lineWords x_lineLeft x_lineSlack x_lineNotes x_lineColumn x_lineTop x_columnParagraph x_columnFirst x_columnLines x_columnNotes x_columnFilled
  | 0, p, x_columnCount, x_lineColumn, x_lineTop, x_columnParagraph, x_columnFirst, x_columnLines, x_columnNotes, x_columnFilled, hp, H => by
    obtain ⟨e0, h24⟩ := dc_Vn hv
    obtain rfl : p = dc_n x_doc := by omega
    exact br_t (by rw [e0]; exact nI_le (by omega) (by omega)) (h _ _ _ _ _ _ _ _ H)
  | d + 1, p, x_columnCount, x_lineColumn, x_lineTop, x_columnParagraph, x_columnFirst, x_columnLines, x_columnNotes, x_columnFilled, hp, H => by
    obtain ⟨e0, h24⟩ := dc_Vn hv
    refine br_f (by rw [e0]; exact nI_ge (by omega) (by omega)) ⟨la_nl x_doc x_view rw p + 1, ?_⟩
    exact xf_L19 (k := 0) hv HB HM (by omega) (fun cc c1 c2 c3 c4 c5 c6 c7 H2 => xf_L7 hv HB HM h d (p + 1) cc c1 c2 c3 c4 c5 c6 c7 (by omega) H2) (la_nl x_doc x_view rw p) _ _ _ _ _ _ _ _ (by omega) H
theorem xs_fill {post : SX → Prop} {rw : Nat → Int32} (hv : dc_V x_doc) (HB : xb_B x_doc x_view rw (dc_n x_doc) x_lineCount x_wordLine x_wordLeft x_lineFirst x_lineWords x_lineLeft x_lineSlack x_lineNotes) (HM : xm_M x_doc x_view rw 0 x_gapBefore x_headNeeds x_groupNeeds)
    (h : ∀ x_columnCount x_lineColumn x_lineTop x_columnParagraph x_columnFirst x_columnLines x_columnNotes x_columnFilled, xf_C x_doc x_view rw (la_fl x_doc x_view rw (dc_n x_doc)) (dc_n x_doc) 0 x_columnCount x_lineColumn x_lineTop x_columnParagraph x_columnFirst x_columnLines x_columnNotes x_columnFilled → post (x_tracking, x_view, x_slotNow, x_stepsBack, x_stepsAgain, x_stale, x_rounds, x_columnCount, x_doc, x_kept, x_referenceWidth, x_labelValue, x_labelWidth, x_lineCount, x_gapBefore, x_headNeeds, x_groupNeeds, x_wordLine, x_wordLeft, x_lineFirst, x_lineWords, x_lineLeft, x_lineSlack, x_lineNotes, x_lineColumn, x_lineTop, x_columnParagraph, x_columnFirst, x_columnLines, x_columnNotes, x_columnFilled)) : wpX_fillColumns post (x_tracking, x_view, x_slotNow, x_stepsBack, x_stepsAgain, x_stale, x_rounds, x_columnCount, x_doc, x_kept, x_referenceWidth, x_labelValue, x_labelWidth, x_lineCount, x_gapBefore, x_headNeeds, x_groupNeeds, x_wordLine, x_wordLeft, x_lineFirst, x_lineWords, x_lineLeft, x_lineSlack, x_lineNotes, x_lineColumn, x_lineTop, x_columnParagraph, x_columnFirst, x_columnLines, x_columnNotes, x_columnFilled) :=
  ⟨_, xf_L7 (p := 0) hv HB HM h (dc_n x_doc) 0 _ _ _ _ _ _ _ (by omega) ⟨rfl, fun i hi => absurd hi (Nat.not_lt_zero _), fun q j _ hq => absurd hq (by omega)⟩⟩
/-- references -/
theorem xr_pgL {post : Int32 → Prop} {m : Nat} {lC : Nat → Int32} (hv : dc_V x_doc) (hl : ∀ q, q < dc_n x_doc → x_lineColumn (16 * q) = lC (16 * q)) : ∀ (d p : Nat), p + d = dc_n x_doc → post (la_pg x_doc lC m d p) → wX_pageDigits_2 post (nI m) x_tracking x_view x_slotNow x_stepsBack x_stepsAgain x_stale x_rounds x_columnCount x_doc x_kept x_referenceWidth x_labelValue x_labelWidth x_lineCount x_gapBefore x_headNeeds x_groupNeeds x_wordLine x_wordLeft x_lineFirst x_lineWords x_lineLeft x_lineSlack x_lineNotes x_lineColumn x_lineTop x_columnParagraph x_columnFirst x_columnLines x_columnNotes x_columnFilled (d + 1) (nI p)
  | 0, p, hp, h => by
    obtain ⟨e0, h24⟩ := dc_Vn hv
    exact br_t (by rw [e0]; exact nI_le (by omega) (by omega)) h
  | d + 1, p, hp, h => by
    obtain ⟨e0, h24⟩ := dc_Vn hv
    refine br_f (by rw [e0]; exact nI_ge (by omega) (by omega)) (xr_rec rfl ⟨ix_in (nI_1 _) (by omega) (by omega), ?_⟩)
    rw [ix_c (nI_1 _) (by omega), show 76 + 51 * p + 1 = 77 + 51 * p from by omega]
    unfold la_pg at h
    have e16 : nI p * 16 = nI (16 * p) := by simp only [li_, pk_mul]; exact congrArg nI (by omega)
    refine br_c (fun z => ⟨ix_in e16 (by omega) (by omega), nm_r (e' := lC (16 * p)) (by rw [ix_c e16 (by omega), hl p (by omega)]) ?_⟩) (fun z => nm_r (nI_1 p) (xr_pgL hv hl d (p + 1) (by omega) ?_))
    · rw [if_pos z] at h
      refine br_c (fun y => ⟨by decide, ?_⟩) (fun y => ?_)
      · rw [if_pos y] at h; unfold wX_pageDigits_55; exact xr_dg h
      · rw [if_neg y] at h; unfold wX_pageDigits_55; exact xr_dg h
    · rw [if_neg z] at h; exact h
theorem xr_pg {post : Int32 → Prop} {x : Int32} {m : Nat} {lC : Nat → Int32} (hv : dc_V x_doc) (hx : x = nI m) (hl : ∀ q, q < dc_n x_doc → x_lineColumn (16 * q) = lC (16 * q)) (h : post (la_pg x_doc lC m (dc_n x_doc) 0)) : wpX_pageDigits post (x_tracking, x_view, x_slotNow, x_stepsBack, x_stepsAgain, x_stale, x_rounds, x_columnCount, x_doc, x_kept, x_referenceWidth, x_labelValue, x_labelWidth, x_lineCount, x_gapBefore, x_headNeeds, x_groupNeeds, x_wordLine, x_wordLeft, x_lineFirst, x_lineWords, x_lineLeft, x_lineSlack, x_lineNotes, x_lineColumn, x_lineTop, x_columnParagraph, x_columnFirst, x_columnLines, x_columnNotes, x_columnFilled) x := by
  subst hx
  exact ⟨_, xr_pgL hv hl (dc_n x_doc) 0 (by omega) h⟩
theorem xr_rfL14 {post : Int32 → Prop} {m p n : Nat} (hv : dc_V x_doc) (hp : p < dc_n x_doc) (h1 : la_rf x_doc m → post 1) (h0 : (∀ w, w < dc_w x_doc p → ¬ x_doc (79 + 51 * p + 3 * w) = -1 - nI m) → wX_isReferredTo_2 post (nI m) x_tracking x_view x_slotNow x_stepsBack x_stepsAgain x_stale x_rounds x_columnCount x_doc x_kept x_referenceWidth x_labelValue x_labelWidth x_lineCount x_gapBefore x_headNeeds x_groupNeeds x_wordLine x_wordLeft x_lineFirst x_lineWords x_lineLeft x_lineSlack x_lineNotes x_lineColumn x_lineTop x_columnParagraph x_columnFirst x_columnLines x_columnNotes x_columnFilled n (nI (p + 1))) : ∀ (d w : Nat), w + d = dc_w x_doc p → (∀ v, v < w → ¬ x_doc (79 + 51 * p + 3 * v) = -1 - nI m) →
    wX_isReferredTo_14 post (wX_isReferredTo_2 post (nI m) x_tracking x_view x_slotNow x_stepsBack x_stepsAgain x_stale x_rounds x_columnCount x_doc x_kept x_referenceWidth x_labelValue x_labelWidth x_lineCount x_gapBefore x_headNeeds x_groupNeeds x_wordLine x_wordLeft x_lineFirst x_lineWords x_lineLeft x_lineSlack x_lineNotes x_lineColumn x_lineTop x_columnParagraph x_columnFirst x_columnLines x_columnNotes x_columnFilled n) (nI m) (nI p) x_tracking x_view x_slotNow x_stepsBack x_stepsAgain x_stale x_rounds x_columnCount x_doc x_kept x_referenceWidth x_labelValue x_labelWidth x_lineCount x_gapBefore x_headNeeds x_groupNeeds x_wordLine x_wordLeft x_lineFirst x_lineWords x_lineLeft x_lineSlack x_lineNotes x_lineColumn x_lineTop x_columnParagraph x_columnFirst x_columnLines x_columnNotes x_columnFilled (d + 1) (nI w)
  | 0, w, hw, H => by
    have h24 := (dc_Vn hv).2
    obtain ⟨ew, h16⟩ := dc_Vw hv (p := p) (by omega)
    unfold wX_isReferredTo_14
    refine xr_wo rfl (by omega) ?_
    rw [ew]
    exact br_t (nI_le (by omega) (by omega)) (nm_r (nI_1 p) (h0 fun v hv => H v (by omega)))
  | d + 1, w, hw, H => by
    have h24 := (dc_Vn hv).2
    obtain ⟨ew, h16⟩ := dc_Vw hv (p := p) (by omega)
    unfold wX_isReferredTo_14
    refine xr_wo rfl (by omega) ?_
    rw [ew]
    refine br_f (nI_ge (by omega) (by omega)) (xr_wa rfl rfl ⟨ix_in (ad_0 _) (by omega) (by omega), ?_⟩)
    rw [ix_c (ad_0 _) (by omega)]
    refine br_c (fun z => h1 ⟨p, w, hp, by omega, z⟩) (fun z => nm_r (nI_1 w) (xr_rfL14 hv hp h1 h0 d (w + 1) (by omega) fun v hv => ?_))
    by_cases e : v = w
    · subst e; exact z
    · exact H v (by omega)
theorem xr_rfL {post : Int32 → Prop} {m : Nat} (hv : dc_V x_doc) (h1 : la_rf x_doc m → post 1) (h0 : ¬ la_rf x_doc m → post 0) : ∀ (d p : Nat), p + d = dc_n x_doc → (∀ q w, q < p → w < dc_w x_doc q → ¬ x_doc (79 + 51 * q + 3 * w) = -1 - nI m) → wX_isReferredTo_2 post (nI m) x_tracking x_view x_slotNow x_stepsBack x_stepsAgain x_stale x_rounds x_columnCount x_doc x_kept x_referenceWidth x_labelValue x_labelWidth x_lineCount x_gapBefore x_headNeeds x_groupNeeds x_wordLine x_wordLeft x_lineFirst x_lineWords x_lineLeft x_lineSlack x_lineNotes x_lineColumn x_lineTop x_columnParagraph x_columnFirst x_columnLines x_columnNotes x_columnFilled (d + 1) (nI p)
  | 0, p, hp, H => by
    obtain ⟨e0, h24⟩ := dc_Vn hv
    refine br_t (by rw [e0]; exact nI_le (by omega) (by omega)) (h0 ?_)
    rintro ⟨q, w, q1, q2, q3⟩
    exact H q w (by omega) q2 q3
  | d + 1, p, hp, H => by
    obtain ⟨e0, h24⟩ := dc_Vn hv
    refine br_f (by rw [e0]; exact nI_ge (by omega) (by omega)) ⟨dc_w x_doc p + 1, xr_rfL14 hv (by omega) h1 (fun G => xr_rfL hv h1 h0 d (p + 1) (by omega) fun q w q1 q2 => ?_) (dc_w x_doc p) 0 (by omega) (fun v hv => absurd hv (by omega))⟩
    by_cases e : q = p
    · subst e; exact G w q2
    · exact H q w (by omega) q2
theorem xr_rf {post : Int32 → Prop} {x : Int32} {m : Nat} (hv : dc_V x_doc) (hx : x = nI m) (h1 : la_rf x_doc m → post 1) (h0 : ¬ la_rf x_doc m → post 0) : wpX_isReferredTo post (x_tracking, x_view, x_slotNow, x_stepsBack, x_stepsAgain, x_stale, x_rounds, x_columnCount, x_doc, x_kept, x_referenceWidth, x_labelValue, x_labelWidth, x_lineCount, x_gapBefore, x_headNeeds, x_groupNeeds, x_wordLine, x_wordLeft, x_lineFirst, x_lineWords, x_lineLeft, x_lineSlack, x_lineNotes, x_lineColumn, x_lineTop, x_columnParagraph, x_columnFirst, x_columnLines, x_columnNotes, x_columnFilled) x := by
  subst hx
  exact ⟨_, xr_rfL hv h1 h0 (dc_n x_doc) 0 (by omega) (fun q w hq => absurd hq (by omega))⟩
