variable {x_tracking x_view x_slotNow x_stepsBack x_stepsAgain x_stale x_rounds x_columnCount : Int32} {x_doc x_kept x_referenceWidth x_labelValue x_labelWidth x_lineCount x_gapBefore x_headNeeds x_groupNeeds x_wordLine x_wordLeft x_lineFirst x_lineWords x_lineLeft x_lineSlack x_lineNotes x_lineColumn x_lineTop x_columnParagraph x_columnFirst x_columnLines x_columnNotes x_columnFilled : Nat → Int32}
theorem xr_tr {post : Int32 → Prop} {x y : Int32} {p t : Nat} (hv : dc_V x_doc) (hx : x = nI p) (hp : p < 24) (hy : y = nI t) (ht : t < 12) (h : post (dc_v x_doc p t)) : wpX_traitOf post (x_tracking, x_view, x_slotNow, x_stepsBack, x_stepsAgain, x_stale, x_rounds, x_columnCount, x_doc, x_kept, x_referenceWidth, x_labelValue, x_labelWidth, x_lineCount, x_gapBefore, x_headNeeds, x_groupNeeds, x_wordLine, x_wordLeft, x_lineFirst, x_lineWords, x_lineLeft, x_lineSlack, x_lineNotes, x_lineColumn, x_lineTop, x_columnParagraph, x_columnFirst, x_columnLines, x_columnNotes, x_columnFilled) x y := by
  have e : ((76 : Int32) + x * 51) + 0 = nI (76 + 51 * p) := by subst hx; rw [ad_r]; exact ad_0 _
  obtain ⟨es, h5⟩ := dc_Vs hv hp
  have e2 : (4 : Int32) + nI (dc_s x_doc p) * 12 + y = nI (4 + 12 * dc_s x_doc p + t) := by subst hy; exact ad_s _ _
  refine ⟨ix_in e (by omega) (by omega), nm_r (e' := nI (dc_s x_doc p)) (by rw [ix_c e (by omega), es]) ⟨ix_in e2 (by omega) (by omega), ?_⟩⟩
  rw [ix_c e2 (by omega)]; exact h
theorem xr_dg {post : Int32 → Prop} {x : Int32} (h : post (la_dg x)) : wpX_digits post x := by
  unfold la_dg at h
  refine br_c (fun z => br_c (fun y => ?_) (fun y => ?_)) (fun z => ?_)
  · rw [if_pos z, if_pos y] at h; exact h
  · rw [if_pos z, if_neg y] at h; exact h
  · rw [if_neg z] at h; exact h
theorem xr_cw {post : Int32 → Prop} (h : post (la_cw x_doc)) : wpX_columnWidth post (x_tracking, x_view, x_slotNow, x_stepsBack, x_stepsAgain, x_stale, x_rounds, x_columnCount, x_doc, x_kept, x_referenceWidth, x_labelValue, x_labelWidth, x_lineCount, x_gapBefore, x_headNeeds, x_groupNeeds, x_wordLine, x_wordLeft, x_lineFirst, x_lineWords, x_lineLeft, x_lineSlack, x_lineNotes, x_lineColumn, x_lineTop, x_columnParagraph, x_columnFirst, x_columnLines, x_columnNotes, x_columnFilled) := by
  unfold la_cw at h
  refine nm_e (br_c (fun z => ?_) (fun z => ⟨by decide, ?_⟩))
  · rw [if_pos z] at h; exact h
  · rw [if_neg z] at h; exact h
theorem xr_sh {post : Int32 → Prop} {x y : Int32} {p w : Nat} (hx : x = nI p) (hp : p < 24) (hy : y = nI w) (hw : w < 16) (h1 : la_sh x_doc x_view p w = true → post 1) (h0 : ¬ la_sh x_doc x_view p w = true → post 0) : wpX_isShown post (x_tracking, x_view, x_slotNow, x_stepsBack, x_stepsAgain, x_stale, x_rounds, x_columnCount, x_doc, x_kept, x_referenceWidth, x_labelValue, x_labelWidth, x_lineCount, x_gapBefore, x_headNeeds, x_groupNeeds, x_wordLine, x_wordLeft, x_lineFirst, x_lineWords, x_lineLeft, x_lineSlack, x_lineNotes, x_lineColumn, x_lineTop, x_columnParagraph, x_columnFirst, x_columnLines, x_columnNotes, x_columnFilled) x y := by
  unfold wpX_isShown
  refine xr_wa hx hy ⟨ix_in (ad_2 _) (by omega) (by omega), nm_r (e' := x_doc (81 + 51 * p + 3 * w)) (by rw [ix_c (ad_2 _) (by omega)]; exact congrArg x_doc (by omega)) ?_⟩
  unfold la_sh at h1 h0
  refine br_c (fun z => ?_) (fun z => br_c (fun y => br_c (fun q => ?_) (fun q => ?_)) (fun y => br_c (fun q => ?_) (fun q => ?_)))
  · rw [if_pos z] at h1; exact h1 rfl
  · rw [if_neg z, if_pos y, decide_eq_true q] at h0; exact h0 (by decide)
  · rw [if_neg z, if_pos y, decide_eq_false q] at h1; exact h1 rfl
  · rw [if_neg z, if_neg y, decide_eq_true q] at h0; exact h0 (by decide)
  · rw [if_neg z, if_neg y, decide_eq_false q] at h1; exact h1 rfl
theorem la_neg {x : Int32} (h8 : -8 ≤ x.toInt) (h0 : ¬ 0 ≤ x) : ∃ m, m < 8 ∧ (-1) - x = nI m := by
  have n1 : (-1 : Int32).toInt = -1 := by decide
  have h1 : x.toInt < 0 := by
    have := Int32.lt_iff_toInt_lt.mp (Int32.not_le.mp h0)
    rw [show (0 : Int32).toInt = 0 from by decide] at this; exact this
  refine ⟨(-1 - x.toInt).toNat, by omega, ?_⟩
  apply Int32.toInt_inj.mp
  rw [nI_toInt (by omega), Int32.toInt_sub, n1, Int.bmod_eq_of_le (by omega) (by omega)]
  omega
theorem xr_wd {post : Int32 → Prop} {x y : Int32} {p w : Nat} {rw : Nat → Int32} (hv : dc_V x_doc) (hr : ∀ m, m < 8 → x_referenceWidth m = rw m) (hx : x = nI p) (hp : p < 24) (hy : y = nI w) (hw : w < dc_w x_doc p) (h : post (la_wd x_doc rw p w)) : wpX_widthOf post (x_tracking, x_view, x_slotNow, x_stepsBack, x_stepsAgain, x_stale, x_rounds, x_columnCount, x_doc, x_kept, x_referenceWidth, x_labelValue, x_labelWidth, x_lineCount, x_gapBefore, x_headNeeds, x_groupNeeds, x_wordLine, x_wordLeft, x_lineFirst, x_lineWords, x_lineLeft, x_lineSlack, x_lineNotes, x_lineColumn, x_lineTop, x_columnParagraph, x_columnFirst, x_columnLines, x_columnNotes, x_columnFilled) x y := by
  have h16 := (dc_Vw hv hp).2
  unfold wpX_widthOf
  refine xr_wa hx hy ⟨ix_in (ad_0 _) (by omega) (by omega), nm_r (e' := x_doc (79 + 51 * p + 3 * w)) (by rw [ix_c (ad_0 _) (by omega)]) ?_⟩
  unfold la_wd at h
  refine br_c (fun z => ?_) (fun z => ?_)
  · rw [if_pos z] at h; exact h
  · rw [if_neg z] at h
    obtain ⟨m, hm, e⟩ := la_neg (dc_Vo hv hp hw).1.1 z
    rw [e, nI_clamp (by omega)] at h ⊢
    refine ⟨vp_in_nI hm (by omega), ?_⟩
    rw [hr m hm]; exact h
/-- labels -/
def xl_N (a lv lw : Nat → Int32) (p : Nat) : Prop := ∀ q, q < p → lv q = la_lb a q ∧ lw q = la_lw a q
theorem xn_105 {post : SX → Prop} {J9 : Int32 → Int32 → Int32 → Int32 → (Nat → Int32) → (Nat → Int32) → (Nat → Int32) → (Nat → Int32) → (Nat → Int32) → (Nat → Int32) → (Nat → Int32) → (Nat → Int32) → (Nat → Int32) → (Nat → Int32) → (Nat → Int32) → (Nat → Int32) → (Nat → Int32) → (Nat → Int32) → (Nat → Int32) → (Nat → Int32) → (Nat → Int32) → (Nat → Int32) → (Nat → Int32) → (Nat → Int32) → (Nat → Int32) → (Nat → Int32) → (Nat → Int32) → Prop} {x1 x2 x5 z0 : Int32} {p : Nat} (hp : p < 24)
    (h : J9 x1 x2 z0 (nI (p + 1)) x_doc x_kept x_referenceWidth (upd x_labelValue p (x1 * 10000 + x2 * 100 + z0)) (upd x_labelWidth p ((la_dg x1 + 1 + (if 2 ≤ x5 then la_dg x2 + 1 else 0)) + (if 3 ≤ x5 then la_dg z0 + 1 else 0))) x_lineCount x_gapBefore x_headNeeds x_groupNeeds x_wordLine x_wordLeft x_lineFirst x_lineWords x_lineLeft x_lineSlack x_lineNotes x_lineColumn x_lineTop x_columnParagraph x_columnFirst x_columnLines x_columnNotes x_columnFilled) :
    wX_numberParagraphs_105 post J9 x1 x2 (nI p) x5 z0 x_tracking x_view x_slotNow x_stepsBack x_stepsAgain x_stale x_rounds x_columnCount x_doc x_kept x_referenceWidth x_labelValue x_labelWidth x_lineCount x_gapBefore x_headNeeds x_groupNeeds x_wordLine x_wordLeft x_lineFirst x_lineWords x_lineLeft x_lineSlack x_lineNotes x_lineColumn x_lineTop x_columnParagraph x_columnFirst x_columnLines x_columnNotes x_columnFilled := by
  have jp := vp_in_nI (n := p) (N := 24) hp (by omega)
  have cp := nI_clamp (n := p) (by omega)
  have f172 : ∀ z0' z1' : Int32, z1' + z0' = (la_dg x1 + 1 + (if 2 ≤ x5 then la_dg x2 + 1 else 0)) + (if 3 ≤ x5 then la_dg z0 + 1 else 0) → wX_numberParagraphs_172 post J9 x1 x2 z0 (nI p) z0' z1' x_tracking x_view x_slotNow x_stepsBack x_stepsAgain x_stale x_rounds x_columnCount x_doc x_kept x_referenceWidth (upd x_labelValue p (x1 * 10000 + x2 * 100 + z0)) x_labelWidth x_lineCount x_gapBefore x_headNeeds x_groupNeeds x_wordLine x_wordLeft x_lineFirst x_lineWords x_lineLeft x_lineSlack x_lineNotes x_lineColumn x_lineTop x_columnParagraph x_columnFirst x_columnLines x_columnNotes x_columnFilled := fun z0' z1' e =>
    nm_r e ⟨jp, nm_r (by rw [cp]) (nm_r (nI_1 p) h)⟩
  have f151 : ∀ z0' z1' : Int32, z1' + z0' = (la_dg x1 + 1 + (if 2 ≤ x5 then la_dg x2 + 1 else 0)) → wX_numberParagraphs_151 post J9 x1 x2 z0 (nI p) x5 z0' z1' x_tracking x_view x_slotNow x_stepsBack x_stepsAgain x_stale x_rounds x_columnCount x_doc x_kept x_referenceWidth (upd x_labelValue p (x1 * 10000 + x2 * 100 + z0)) x_labelWidth x_lineCount x_gapBefore x_headNeeds x_groupNeeds x_wordLine x_wordLeft x_lineFirst x_lineWords x_lineLeft x_lineSlack x_lineNotes x_lineColumn x_lineTop x_columnParagraph x_columnFirst x_columnLines x_columnNotes x_columnFilled := fun z0' z1' e =>
    nm_r e (br_c (fun z => xr_dg (f172 _ _ (by rw [if_pos z]))) (fun z => f172 _ _ (by rw [if_neg z])))
  refine ⟨jp, nm_r (by rw [cp]) (xr_dg (nm_e (br_c (fun z => xr_dg (f151 _ _ (by rw [if_pos z]))) (fun z => f151 _ _ (by rw [if_neg z])))))⟩
theorem xn_L {post : SX → Prop} (hv : dc_V x_doc) (h : ∀ x_labelValue x_labelWidth, xl_N x_doc x_labelValue x_labelWidth (dc_n x_doc) → post (x_tracking, x_view, x_slotNow, x_stepsBack, x_stepsAgain, x_stale, x_rounds, x_columnCount, x_doc, x_kept, x_referenceWidth, x_labelValue, x_labelWidth, x_lineCount, x_gapBefore, x_headNeeds, x_groupNeeds, x_wordLine, x_wordLeft, x_lineFirst, x_lineWords, x_lineLeft, x_lineSlack, x_lineNotes, x_lineColumn, x_lineTop, x_columnParagraph, x_columnFirst, x_columnLines, x_columnNotes, x_columnFilled)) : ∀ (d p : Nat) (x_labelValue x_labelWidth : Nat → Int32), p + d = dc_n x_doc → xl_N x_doc x_labelValue x_labelWidth p →
    wX_numberParagraphs_9 post x_tracking x_view x_slotNow x_stepsBack x_stepsAgain x_stale x_rounds x_columnCount (d + 1) (la_ct x_doc p).1 (la_ct x_doc p).2.1 (la_ct x_doc p).2.2 (nI p) x_doc x_kept x_referenceWidth x_labelValue x_labelWidth x_lineCount x_gapBefore x_headNeeds x_groupNeeds x_wordLine x_wordLeft x_lineFirst x_lineWords x_lineLeft x_lineSlack x_lineNotes x_lineColumn x_lineTop x_columnParagraph x_columnFirst x_columnLines x_columnNotes x_columnFilled
  | 0, p, x_labelValue, x_labelWidth, hp, H => by
    obtain ⟨e0, h24⟩ := dc_Vn hv
    obtain rfl : p = dc_n x_doc := by omega
    exact br_t (by rw [e0]; exact nI_le (by omega) (by omega)) (h _ _ H)
  | d + 1, p, x_labelValue, x_labelWidth, hp, H => by
    obtain ⟨e0, h24⟩ := dc_Vn hv
    have jp := vp_in_nI (n := p) (N := 24) (by omega) (by omega)
    have cp := nI_clamp (n := p) (by omega)
    have ext : ∀ v w, v = la_lb x_doc p → w = la_lw x_doc p → xl_N x_doc (upd (upd x_labelValue p 0) p v) (upd (upd x_labelWidth p 0) p w) (p + 1) := fun v w ev ew q hq => by
      by_cases c : q = p
      · subst c; rw [pk_us, pk_us]; exact ⟨ev, ew⟩
      · rw [pk_un c, pk_un c, pk_un c, pk_un c]; exact H q (by omega)
    refine br_f (by rw [e0]; exact nI_ge (by omega) (by omega)) (xr_tr hv rfl (by omega) (t := 7) rfl (by omega) ⟨jp, nm_r (by rw [cp]) ⟨jp, nm_r (by rw [cp]) (br_c (fun z => ?_) (fun z => ?_))⟩⟩)
    · have ec : la_ct x_doc (p + 1) = la_ct x_doc p := if_pos z
      have L := xn_L hv h d (p + 1) (upd x_labelValue p 0) (upd x_labelWidth p 0) (by omega) (by
        have E := ext 0 0 (by unfold la_lb; rw [if_pos z]) (by unfold la_lw; rw [if_pos z])
        rw [op_upd2 (a := upd x_labelValue p 0) pk_us, op_upd2 (a := upd x_labelWidth p 0) pk_us] at E; exact E)
      rw [ec] at L
      exact nm_r (nI_1 p) L
    · have ec : la_ct x_doc (p + 1) = ((la_ct x_doc p).1 + (if dc_v x_doc p 7 = 1 then 1 else 0), (if dc_v x_doc p 7 = 1 then 0 else if dc_v x_doc p 7 = 2 then (la_ct x_doc p).2.1 + 1 else (la_ct x_doc p).2.1), (if dc_v x_doc p 7 = 3 then (la_ct x_doc p).2.2 + 1 else 0)) := if_neg z
      have L := fun v w ev ew => xn_L hv h d (p + 1) _ _ (by omega) (ext v w ev ew)
      have fin : ∀ c1 c2 c3 : Int32, la_ct x_doc (p + 1) = (c1, c2, c3) → wX_numberParagraphs_105 post (wX_numberParagraphs_9 post x_tracking x_view x_slotNow x_stepsBack x_stepsAgain x_stale x_rounds x_columnCount (d + 1)) c1 c2 (nI p) (dc_v x_doc p 7) c3 x_tracking x_view x_slotNow x_stepsBack x_stepsAgain x_stale x_rounds x_columnCount x_doc x_kept x_referenceWidth (upd x_labelValue p 0) (upd x_labelWidth p 0) x_lineCount x_gapBefore x_headNeeds x_groupNeeds x_wordLine x_wordLeft x_lineFirst x_lineWords x_lineLeft x_lineSlack x_lineNotes x_lineColumn x_lineTop x_columnParagraph x_columnFirst x_columnLines x_columnNotes x_columnFilled := fun c1 c2 c3 e => by
        refine xn_105 (by omega) ?_
        have L1 := L _ _ rfl rfl
        unfold la_lb la_lw at L1
        rw [if_neg z, if_neg z, e] at L1
        exact L1
      have f91 : ∀ c1 c2 : Int32, (la_ct x_doc (p + 1)).1 = c1 → (la_ct x_doc (p + 1)).2.1 = c2 → wX_numberParagraphs_91 post (wX_numberParagraphs_9 post x_tracking x_view x_slotNow x_stepsBack x_stepsAgain x_stale x_rounds x_columnCount (d + 1)) c1 (la_ct x_doc p).2.2 (nI p) (dc_v x_doc p 7) c2 x_tracking x_view x_slotNow x_stepsBack x_stepsAgain x_stale x_rounds x_columnCount x_doc x_kept x_referenceWidth (upd x_labelValue p 0) (upd x_labelWidth p 0) x_lineCount x_gapBefore x_headNeeds x_groupNeeds x_wordLine x_wordLeft x_lineFirst x_lineWords x_lineLeft x_lineSlack x_lineNotes x_lineColumn x_lineTop x_columnParagraph x_columnFirst x_columnLines x_columnNotes x_columnFilled := fun c1 c2 e1 e2 => by
        refine br_c (fun z3 => fin _ _ _ ?_) (fun z3 => fin _ _ _ ?_)
        · rw [← e1, ← e2, ec, if_pos z3]
        · rw [← e1, ← e2, ec, if_neg z3]
      have f66 : ∀ z0 : Int32, (if dc_v x_doc p 7 = 1 then 1 else 0) = z0 → wX_numberParagraphs_66 post (wX_numberParagraphs_9 post x_tracking x_view x_slotNow x_stepsBack x_stepsAgain x_stale x_rounds x_columnCount (d + 1)) (la_ct x_doc p).2.1 (la_ct x_doc p).2.2 (nI p) (dc_v x_doc p 7) z0 (la_ct x_doc p).1 x_tracking x_view x_slotNow x_stepsBack x_stepsAgain x_stale x_rounds x_columnCount x_doc x_kept x_referenceWidth (upd x_labelValue p 0) (upd x_labelWidth p 0) x_lineCount x_gapBefore x_headNeeds x_groupNeeds x_wordLine x_wordLeft x_lineFirst x_lineWords x_lineLeft x_lineSlack x_lineNotes x_lineColumn x_lineTop x_columnParagraph x_columnFirst x_columnLines x_columnNotes x_columnFilled := fun z0 e0' => by
        refine nm_e (br_c (fun z1 => f91 _ _ ?_ ?_) (fun z1 => br_c (fun z2 => f91 _ _ ?_ ?_) (fun z2 => f91 _ _ ?_ ?_)))
        · rw [ec, e0']
        · rw [ec]; show (if _ then _ else _) = _; rw [if_pos z1]
        · rw [ec, e0']
        · rw [ec]; show (if _ then _ else _) = _; rw [if_neg z1, if_pos z2]
        · rw [ec, e0']
        · rw [ec]; show (if _ then _ else _) = _; rw [if_neg z1, if_neg z2]
      exact br_c (fun z1 => f66 1 (if_pos z1)) (fun z1 => f66 0 (if_neg z1))
theorem xs_num {post : SX → Prop} (hv : dc_V x_doc) (h : ∀ x_labelValue x_labelWidth, xl_N x_doc x_labelValue x_labelWidth (dc_n x_doc) → post (x_tracking, x_view, x_slotNow, x_stepsBack, x_stepsAgain, x_stale, x_rounds, x_columnCount, x_doc, x_kept, x_referenceWidth, x_labelValue, x_labelWidth, x_lineCount, x_gapBefore, x_headNeeds, x_groupNeeds, x_wordLine, x_wordLeft, x_lineFirst, x_lineWords, x_lineLeft, x_lineSlack, x_lineNotes, x_lineColumn, x_lineTop, x_columnParagraph, x_columnFirst, x_columnLines, x_columnNotes, x_columnFilled)) : wpX_numberParagraphs post (x_tracking, x_view, x_slotNow, x_stepsBack, x_stepsAgain, x_stale, x_rounds, x_columnCount, x_doc, x_kept, x_referenceWidth, x_labelValue, x_labelWidth, x_lineCount, x_gapBefore, x_headNeeds, x_groupNeeds, x_wordLine, x_wordLeft, x_lineFirst, x_lineWords, x_lineLeft, x_lineSlack, x_lineNotes, x_lineColumn, x_lineTop, x_columnParagraph, x_columnFirst, x_columnLines, x_columnNotes, x_columnFilled) :=
  ⟨_, xn_L hv h (dc_n x_doc) 0 x_labelValue x_labelWidth (by omega) (fun q hq => absurd hq (by omega))⟩
