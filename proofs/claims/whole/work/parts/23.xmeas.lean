variable {x_tracking x_view x_slotNow x_stepsBack x_stepsAgain x_stale x_rounds x_columnCount : Int32} {x_doc x_kept x_referenceWidth x_labelValue x_labelWidth x_lineCount x_gapBefore x_headNeeds x_groupNeeds x_wordLine x_wordLeft x_lineFirst x_lineWords x_lineLeft x_lineSlack x_lineNotes x_lineColumn x_lineTop x_columnParagraph x_columnFirst x_columnLines x_columnNotes x_columnFilled : Nat → Int32}
theorem xr_gap {post : Int32 → Prop} {x : Int32} {p : Nat} (hv : dc_V x_doc) (hx : x = nI p) (hp : p + 1 < 24) (h : post (la_gb x_doc (p + 1))) : wpX_gapBehind post (x_tracking, x_view, x_slotNow, x_stepsBack, x_stepsAgain, x_stale, x_rounds, x_columnCount, x_doc, x_kept, x_referenceWidth, x_labelValue, x_labelWidth, x_lineCount, x_gapBefore, x_headNeeds, x_groupNeeds, x_wordLine, x_wordLeft, x_lineFirst, x_lineWords, x_lineLeft, x_lineSlack, x_lineNotes, x_lineColumn, x_lineTop, x_columnParagraph, x_columnFirst, x_columnLines, x_columnNotes, x_columnFilled) x := by
  subst hx
  unfold la_gb at h
  rw [if_neg (by omega), show p + 1 - 1 = p from by omega] at h
  unfold wpX_gapBehind
  refine xr_tr hv rfl (by omega) (t := 4) rfl (by omega) ?_
  refine xr_tr hv (nI_1 p) hp (t := 3) rfl (by omega) (br_c (fun z => ?_) (fun z => ?_))
  · rw [if_pos z] at h; exact h
  · rw [if_neg z] at h; exact h
theorem xr_sf {post : Int32 → Prop} {x : Int32} {p : Nat} {rw : Nat → Int32} (hv : dc_V x_doc) (hx : x = nI p) (hp : p < 24) (hc : x_lineCount p = nI (la_nl x_doc x_view rw p)) (h1 : la_sf x_doc x_view rw p = true → post 1) (h0 : ¬ la_sf x_doc x_view rw p = true → post 0) : wpX_isStiff post (x_tracking, x_view, x_slotNow, x_stepsBack, x_stepsAgain, x_stale, x_rounds, x_columnCount, x_doc, x_kept, x_referenceWidth, x_labelValue, x_labelWidth, x_lineCount, x_gapBefore, x_headNeeds, x_groupNeeds, x_wordLine, x_wordLeft, x_lineFirst, x_lineWords, x_lineLeft, x_lineSlack, x_lineNotes, x_lineColumn, x_lineTop, x_columnParagraph, x_columnFirst, x_columnLines, x_columnNotes, x_columnFilled) x := by
  subst hx
  have hn := (la_nlP (a := x_doc) (rw := rw) (vw := x_view) (dc_Vw hv hp).2).2.1
  unfold la_sf at h1 h0
  unfold wpX_isStiff
  refine xr_tr hv rfl hp (t := 8) rfl (by omega) (br_c (fun z => ?_) (fun z => xr_tr hv rfl hp (t := 11) rfl (by omega) (br_c (fun y => ⟨vp_in_nI hp (by omega), ?_⟩) (fun y => ?_))))
  · rw [if_pos z] at h1; exact h1 rfl
  · rw [nI_clamp (by omega), hc]
    rw [if_neg z, if_pos y] at h1 h0
    refine pk_le 4 (la_nl x_doc x_view rw p) (fun q => h0 ?_) (fun q => h1 (decide_eq_true q))
    rw [decide_eq_false (by omega)]; decide
  · rw [if_neg z, if_neg y] at h0; exact h0 (by decide)
theorem xr_hd {post : Int32 → Prop} {x : Int32} {p : Nat} {rw : Nat → Int32} (hv : dc_V x_doc) (hx : x = nI p) (hp : p < 24) (hc : x_lineCount p = nI (la_nl x_doc x_view rw p)) (h : post (nI (la_hd x_doc x_view rw p))) : wpX_headLines post (x_tracking, x_view, x_slotNow, x_stepsBack, x_stepsAgain, x_stale, x_rounds, x_columnCount, x_doc, x_kept, x_referenceWidth, x_labelValue, x_labelWidth, x_lineCount, x_gapBefore, x_headNeeds, x_groupNeeds, x_wordLine, x_wordLeft, x_lineFirst, x_lineWords, x_lineLeft, x_lineSlack, x_lineNotes, x_lineColumn, x_lineTop, x_columnParagraph, x_columnFirst, x_columnLines, x_columnNotes, x_columnFilled) x := by
  subst hx
  unfold la_hd at h
  unfold wpX_headLines
  refine xr_sf hv rfl hp hc (fun z => br_f (by decide) ⟨vp_in_nI hp (by omega), ?_⟩) (fun z => br_t rfl (xr_tr hv rfl hp (t := 11) rfl (by omega) (br_c (fun y => ?_) (fun y => ?_))))
  · rw [nI_clamp (by omega), hc]; rw [if_pos z] at h; exact h
  · rw [if_neg z, if_pos y] at h; exact h
  · rw [if_neg z, if_neg y] at h; exact h
theorem xr_ndL {post : Int32 → Prop} {p n : Nat} {rw : Nat → Int32} (hp : p < 24) (hn : n ≤ 16) (hl : ∀ j, j < n → x_lineNotes (16 * p + j) = la_no x_doc x_view rw p j) (h : post (la_hs x_doc x_view rw p n)) : ∀ d i, i + d = n →
    wX_needsOfLines_12 post (nI p) (nI n) x_tracking x_view x_slotNow x_stepsBack x_stepsAgain x_stale x_rounds x_columnCount x_doc x_kept x_referenceWidth x_labelValue x_labelWidth x_lineCount x_gapBefore x_headNeeds x_groupNeeds x_wordLine x_wordLeft x_lineFirst x_lineWords x_lineLeft x_lineSlack x_lineNotes x_lineColumn x_lineTop x_columnParagraph x_columnFirst x_columnLines x_columnNotes x_columnFilled (d + 1) (nI n * dc_v x_doc p 5 + la_sn x_doc x_view rw p i) (nI i)
  | 0, i, hi => by
    obtain rfl : i = n := by omega
    refine br_t (nI_le (by omega) (by omega)) ?_
    rw [la_hsn]; exact h
  | d + 1, i, hi => by
    have el := ad_l p i
    refine br_f (nI_ge (by omega) (by omega)) ⟨ix_in el (by omega) (by omega), nm_r (e' := nI n * dc_v x_doc p 5 + la_sn x_doc x_view rw p (i + 1)) ?_ (nm_r (nI_1 i) (xr_ndL hp hn hl h d (i + 1) (by omega)))⟩
    rw [ix_c el (by omega), hl i (by omega), Int32.add_assoc]; rfl
theorem xr_nd {post : Int32 → Prop} {x y : Int32} {p n : Nat} {rw : Nat → Int32} (hv : dc_V x_doc) (hx : x = nI p) (hy : y = nI n) (hp : p < 24) (hn : n ≤ 16) (hl : ∀ j, j < n → x_lineNotes (16 * p + j) = la_no x_doc x_view rw p j) (h : post (la_hs x_doc x_view rw p n)) : wpX_needsOfLines post (x_tracking, x_view, x_slotNow, x_stepsBack, x_stepsAgain, x_stale, x_rounds, x_columnCount, x_doc, x_kept, x_referenceWidth, x_labelValue, x_labelWidth, x_lineCount, x_gapBefore, x_headNeeds, x_groupNeeds, x_wordLine, x_wordLeft, x_lineFirst, x_lineWords, x_lineLeft, x_lineSlack, x_lineNotes, x_lineColumn, x_lineTop, x_columnParagraph, x_columnFirst, x_columnLines, x_columnNotes, x_columnFilled) x y := by
  subst hx hy
  unfold wpX_needsOfLines
  exact xr_tr hv rfl hp (t := 5) rfl (by omega) (nm_r (e' := nI n * dc_v x_doc p 5 + la_sn x_doc x_view rw p 0) (Int32.add_zero _).symm ⟨n + 1, xr_ndL hp hn hl h n 0 (by omega)⟩)
def xm_M (a : Nat → Int32) (vw : Int32) (rw : Nat → Int32) (m : Nat) (gb hn gn : Nat → Int32) : Prop := ∀ q, m ≤ q → q < dc_n a → gb q = la_gb a q ∧ hn q = la_hs a vw rw q (la_hd a vw rw q) ∧ gn q = la_gr a vw rw (dc_n a - 1 - q) q
theorem xm_L {post : SX → Prop} {rw : Nat → Int32} (hv : dc_V x_doc) (HB : xb_B x_doc x_view rw (dc_n x_doc) x_lineCount x_wordLine x_wordLeft x_lineFirst x_lineWords x_lineLeft x_lineSlack x_lineNotes) (h : ∀ x_gapBefore x_headNeeds x_groupNeeds, xm_M x_doc x_view rw 0 x_gapBefore x_headNeeds x_groupNeeds → post (x_tracking, x_view, x_slotNow, x_stepsBack, x_stepsAgain, x_stale, x_rounds, x_columnCount, x_doc, x_kept, x_referenceWidth, x_labelValue, x_labelWidth, x_lineCount, x_gapBefore, x_headNeeds, x_groupNeeds, x_wordLine, x_wordLeft, x_lineFirst, x_lineWords, x_lineLeft, x_lineSlack, x_lineNotes, x_lineColumn, x_lineTop, x_columnParagraph, x_columnFirst, x_columnLines, x_columnNotes, x_columnFilled)) : ∀ (m : Nat) (x_gapBefore x_headNeeds x_groupNeeds : Nat → Int32), m ≤ dc_n x_doc → xm_M x_doc x_view rw m x_gapBefore x_headNeeds x_groupNeeds →
    wX_measureParagraphs_11 post (nI (dc_n x_doc) - 1) x_tracking x_view x_slotNow x_stepsBack x_stepsAgain x_stale x_rounds x_columnCount (m + 1) (nI m - 1) x_doc x_kept x_referenceWidth x_labelValue x_labelWidth x_lineCount x_gapBefore x_headNeeds x_groupNeeds x_wordLine x_wordLeft x_lineFirst x_lineWords x_lineLeft x_lineSlack x_lineNotes x_lineColumn x_lineTop x_columnParagraph x_columnFirst x_columnLines x_columnNotes x_columnFilled
  | 0, x_gapBefore, x_headNeeds, x_groupNeeds, hm, H => br_t (by decide) (h _ _ _ H)
  | m + 1, x_gapBefore, x_headNeeds, x_groupNeeds, hm, H => by
    obtain ⟨e0, h24⟩ := dc_Vn hv
    have hp : m < 24 := by omega
    obtain ⟨hc, hT, _⟩ := HB m (by omega)
    have h16 := (dc_Vw hv hp).2
    have hn := (la_nlP (a := x_doc) (rw := rw) (vw := x_view) h16).2.1
    have hh := la_hdB (a := x_doc) (rw := rw) (vw := x_view) h16
    have hlo : ∀ j, j < la_nl x_doc x_view rw m → x_lineNotes (16 * m + j) = la_no x_doc x_view rw m j := fun j hj => (hT j hj).2.2.2.2
    have jm := vp_in_nI (n := m) (N := 24) hp (by omega)
    have cm := nI_clamp (n := m) (by omega)
    have elast : nI (dc_n x_doc) - 1 = nI (dc_n x_doc - 1) := pk_sub (b := 1) (by omega)
    have next : ∀ v : Int32, v = la_gr x_doc x_view rw (dc_n x_doc - 1 - m) m → ∀ x_groupNeeds' : Nat → Int32, x_groupNeeds' m = v → (∀ q, q ≠ m → x_groupNeeds' q = x_groupNeeds q) →
        wX_measureParagraphs_11 post (nI (dc_n x_doc) - 1) x_tracking x_view x_slotNow x_stepsBack x_stepsAgain x_stale x_rounds x_columnCount (m + 1) (nI m - 1) x_doc x_kept x_referenceWidth x_labelValue x_labelWidth x_lineCount (upd x_gapBefore m (la_gb x_doc m)) (upd x_headNeeds m (la_hs x_doc x_view rw m (la_hd x_doc x_view rw m))) x_groupNeeds' x_wordLine x_wordLeft x_lineFirst x_lineWords x_lineLeft x_lineSlack x_lineNotes x_lineColumn x_lineTop x_columnParagraph x_columnFirst x_columnLines x_columnNotes x_columnFilled := fun v ev g eg eo => by
      refine xm_L hv HB h m _ _ _ (by omega) fun q q1 q2 => ?_
      by_cases e : q = m
      · subst e; rw [pk_us, pk_us]; exact ⟨rfl, rfl, eg.trans ev⟩
      · rw [pk_un e, pk_un e, eo q e]; exact H q (by omega) q2
    have f35 : ∀ z0 : Int32, z0 = la_gb x_doc m → wX_measureParagraphs_35 post (wX_measureParagraphs_11 post (nI (dc_n x_doc) - 1) x_tracking x_view x_slotNow x_stepsBack x_stepsAgain x_stale x_rounds x_columnCount (m + 1)) (nI (dc_n x_doc) - 1) (nI m) z0 (nI m) x_tracking x_view x_slotNow x_stepsBack x_stepsAgain x_stale x_rounds x_columnCount x_doc x_kept x_referenceWidth x_labelValue x_labelWidth x_lineCount x_gapBefore x_headNeeds x_groupNeeds x_wordLine x_wordLeft x_lineFirst x_lineWords x_lineLeft x_lineSlack x_lineNotes x_lineColumn x_lineTop x_columnParagraph x_columnFirst x_columnLines x_columnNotes x_columnFilled := fun z0 ez => by
      subst ez
      refine ⟨jm, nm_r (by rw [cm]) (xr_hd (rw := rw) hv rfl hp hc (xr_nd (rw := rw) hv rfl rfl hp (by omega) (fun j hj => hlo j (by omega)) ⟨jm, nm_r (by rw [cm]) ⟨jm, jm, nm_r (e' := upd x_groupNeeds m (la_hs x_doc x_view rw m (la_hd x_doc x_view rw m))) (by rw [cm, pk_us]) ?_⟩⟩))⟩
      rw [elast]
      refine pk_le (dc_n x_doc - 1) m (fun z => nm_r (Int32.sub_eq_add_neg (nI m) 1).symm ?_) (fun z => ?_)
      · rw [← elast]
        refine next _ ?_ _ pk_us (fun q hq => pk_un hq)
        rw [show dc_n x_doc - 1 - m = 0 from by omega]; rfl
      · obtain ⟨d, hd⟩ : ∃ d, dc_n x_doc - 1 - m = d + 1 := ⟨dc_n x_doc - 1 - m - 1, by omega⟩
        have eg : la_gr x_doc x_view rw (dc_n x_doc - 1 - m) m = if dc_v x_doc m 9 = 1 then la_hs x_doc x_view rw m (la_nl x_doc x_view rw m) + la_gb x_doc (m + 1) + la_gr x_doc x_view rw d (m + 1) else la_hs x_doc x_view rw m (la_hd x_doc x_view rw m) := by rw [hd]; rfl
        refine xr_tr hv rfl hp (t := 9) rfl (by omega) (br_c (fun y => ⟨jm, ?_⟩) (fun y => nm_r (Int32.sub_eq_add_neg (nI m) 1).symm ?_))
        · rw [cm, hc]
          obtain ⟨g1, _, g3⟩ := H (m + 1) (by omega) (by omega)
          have j1 := ix_in (N := 24) (nI_1 m) (by omega) (by omega)
          refine xr_nd (rw := rw) hv rfl rfl hp hn hlo ⟨j1, j1, jm, nm_r (e' := upd (upd x_groupNeeds m (la_hs x_doc x_view rw m (la_hd x_doc x_view rw m))) m (la_gr x_doc x_view rw (dc_n x_doc - 1 - m) m)) ?_ (nm_r (Int32.sub_eq_add_neg (nI m) 1).symm ?_)⟩
          · rw [ix_c (nI_1 m) (by omega), pk_un (by omega), pk_un (by omega), g1, g3, eg, if_pos y, show dc_n x_doc - 1 - (m + 1) = d from by omega]
          · rw [← elast]
            exact next _ rfl _ pk_us (fun q hq => by rw [pk_un hq, pk_un hq])
        · rw [← elast]
          refine next _ ?_ _ pk_us (fun q hq => pk_un hq)
          rw [eg, if_neg y]
    rw [nI_pred]
    refine br_f (nI_pos (by omega)) (pk_eq m 0 (fun z => f35 _ ?_) (fun z => xr_gap (p := m - 1) hv (pk_sub (b := 1) (by omega)) (by omega) (f35 _ ?_)))
    · subst z; rfl
    · rw [show m - 1 + 1 = m from by omega]
theorem xs_meas {post : SX → Prop} {rw : Nat → Int32} (hv : dc_V x_doc) (HB : xb_B x_doc x_view rw (dc_n x_doc) x_lineCount x_wordLine x_wordLeft x_lineFirst x_lineWords x_lineLeft x_lineSlack x_lineNotes) (h : ∀ x_gapBefore x_headNeeds x_groupNeeds, xm_M x_doc x_view rw 0 x_gapBefore x_headNeeds x_groupNeeds → post (x_tracking, x_view, x_slotNow, x_stepsBack, x_stepsAgain, x_stale, x_rounds, x_columnCount, x_doc, x_kept, x_referenceWidth, x_labelValue, x_labelWidth, x_lineCount, x_gapBefore, x_headNeeds, x_groupNeeds, x_wordLine, x_wordLeft, x_lineFirst, x_lineWords, x_lineLeft, x_lineSlack, x_lineNotes, x_lineColumn, x_lineTop, x_columnParagraph, x_columnFirst, x_columnLines, x_columnNotes, x_columnFilled)) : wpX_measureParagraphs post (x_tracking, x_view, x_slotNow, x_stepsBack, x_stepsAgain, x_stale, x_rounds, x_columnCount, x_doc, x_kept, x_referenceWidth, x_labelValue, x_labelWidth, x_lineCount, x_gapBefore, x_headNeeds, x_groupNeeds, x_wordLine, x_wordLeft, x_lineFirst, x_lineWords, x_lineLeft, x_lineSlack, x_lineNotes, x_lineColumn, x_lineTop, x_columnParagraph, x_columnFirst, x_columnLines, x_columnNotes, x_columnFilled) := by
  obtain ⟨e0, h24⟩ := dc_Vn hv
  refine nm_r (e' := nI (dc_n x_doc) - 1) (by rw [e0]) ⟨dc_n x_doc + 1, ?_⟩
  exact xm_L hv HB h _ _ _ _ (Nat.le_refl _) (fun q q1 q2 => absurd q1 (by omega))
