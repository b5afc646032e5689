variable {x_tracking x_view x_slotNow x_stepsBack x_stepsAgain x_stale x_rounds x_columnCount : Int32} {x_doc x_kept x_referenceWidth x_labelValue x_labelWidth x_lineCount x_gapBefore x_headNeeds x_groupNeeds x_wordLine x_wordLeft x_lineFirst x_lineWords x_lineLeft x_lineSlack x_lineNotes x_lineColumn x_lineTop x_columnParagraph x_columnFirst x_columnLines x_columnNotes x_columnFilled : Nat → Int32}
theorem xt_L {post : Int32 → SX → Prop} {p k : Nat} {l0 rm : Int32} {rw : Nat → Int32} (hv : dc_V x_doc) (hr : ∀ m, m < 8 → x_referenceWidth m = rw m) (hp : p < 24) : ∀ (d w f t : Nat) (u n : Int32), w + d = dc_w x_doc p → t ≤ w → (t = 0 → u = 0) →
    wX_takeLine_196 post (nI p) (nI k) l0 rm (nI (la_tl x_doc x_view rw p rm d w f t u n).2.1) (nI (la_tl x_doc x_view rw p rm d w f t u n).2.2.1) (la_tl x_doc x_view rw p rm d w f t u n).2.2.2.1 (la_tl x_doc x_view rw p rm d w f t u n).2.2.2.2 (nI (la_tl x_doc x_view rw p rm d w f t u n).1) x_tracking x_view x_slotNow x_stepsBack x_stepsAgain x_stale x_rounds x_columnCount x_doc x_kept x_referenceWidth x_labelValue x_labelWidth x_lineCount x_gapBefore x_headNeeds x_groupNeeds x_wordLine x_wordLeft x_lineFirst x_lineWords x_lineLeft x_lineSlack x_lineNotes x_lineColumn x_lineTop x_columnParagraph x_columnFirst x_columnLines x_columnNotes x_columnFilled →
    wX_takeLine_83 post (nI p) (nI k) (nI (dc_w x_doc p)) l0 rm x_tracking x_view x_slotNow x_stepsBack x_stepsAgain x_stale x_rounds x_columnCount x_doc x_kept x_referenceWidth x_labelValue x_labelWidth x_lineCount x_gapBefore x_headNeeds x_groupNeeds x_wordLine x_wordLeft x_lineFirst x_lineWords x_lineLeft x_lineSlack x_lineNotes x_lineColumn x_lineTop x_columnParagraph x_columnFirst x_columnLines x_columnNotes x_columnFilled (d + 1) (nI f) (nI t) u n (nI w)
  | 0, w, f, t, u, n, hw, ht, hu, h => by
    have h16 := (dc_Vw hv hp).2
    exact br_t (nI_le (by omega) (by omega)) h
  | d + 1, w, f, t, u, n, hw, ht, hu, h => by
    have h16 := (dc_Vw hv hp).2
    refine br_f (nI_ge (by omega) (by omega)) (xr_sh rfl hp rfl (by omega) (fun hs => br_f (by decide) ?_) (fun hs => br_t rfl (nm_r (nI_1 w) ?_)))
    · have go : ∀ x12 : Int32, u + x12 = la_us x_doc rw p w t u → wX_takeLine_127 post (wX_takeLine_83 post (nI p) (nI k) (nI (dc_w x_doc p)) l0 rm x_tracking x_view x_slotNow x_stepsBack x_stepsAgain x_stale x_rounds x_columnCount x_doc x_kept x_referenceWidth x_labelValue x_labelWidth x_lineCount x_gapBefore x_headNeeds x_groupNeeds x_wordLine x_wordLeft x_lineFirst x_lineWords x_lineLeft x_lineSlack x_lineNotes x_lineColumn x_lineTop x_columnParagraph x_columnFirst x_columnLines x_columnNotes x_columnFilled (d + 1)) (nI p) (nI k) (nI (dc_w x_doc p)) l0 rm (nI f) (nI t) u n (nI w) x12 x_tracking x_view x_slotNow x_stepsBack x_stepsAgain x_stale x_rounds x_columnCount x_doc x_kept x_referenceWidth x_labelValue x_labelWidth x_lineCount x_gapBefore x_headNeeds x_groupNeeds x_wordLine x_wordLeft x_lineFirst x_lineWords x_lineLeft x_lineSlack x_lineNotes x_lineColumn x_lineTop x_columnParagraph x_columnFirst x_columnLines x_columnNotes x_columnFilled := fun x12 ex => by
        have take : ¬ (0 < t ∧ rm < la_us x_doc rw p w t u) → wX_takeLine_147 post (wX_takeLine_83 post (nI p) (nI k) (nI (dc_w x_doc p)) l0 rm x_tracking x_view x_slotNow x_stepsBack x_stepsAgain x_stale x_rounds x_columnCount x_doc x_kept x_referenceWidth x_labelValue x_labelWidth x_lineCount x_gapBefore x_headNeeds x_groupNeeds x_wordLine x_wordLeft x_lineFirst x_lineWords x_lineLeft x_lineSlack x_lineNotes x_lineColumn x_lineTop x_columnParagraph x_columnFirst x_columnLines x_columnNotes x_columnFilled (d + 1)) (nI p) (nI k) (nI (dc_w x_doc p)) l0 rm (nI f) (nI t) u n (nI w) x12 x_tracking x_view x_slotNow x_stepsBack x_stepsAgain x_stale x_rounds x_columnCount x_doc x_kept x_referenceWidth x_labelValue x_labelWidth x_lineCount x_gapBefore x_headNeeds x_groupNeeds x_wordLine x_wordLeft x_lineFirst x_lineWords x_lineLeft x_lineSlack x_lineNotes x_lineColumn x_lineTop x_columnParagraph x_columnFirst x_columnLines x_columnNotes x_columnFilled := fun hc => by
          rw [la_tlt hs hc] at h
          have ih := xt_L hv hr hp d (w + 1) (if t = 0 then w else f) (t + 1) (la_us x_doc rw p w t u) (n + x_doc (80 + 51 * p + 3 * w)) (by omega) (by omega) (fun z => absurd z (by omega)) h
          have f159 : ∀ z0 : Int32, z0 = nI (if t = 0 then w else f) → wX_takeLine_159 post (wX_takeLine_83 post (nI p) (nI k) (nI (dc_w x_doc p)) l0 rm x_tracking x_view x_slotNow x_stepsBack x_stepsAgain x_stale x_rounds x_columnCount x_doc x_kept x_referenceWidth x_labelValue x_labelWidth x_lineCount x_gapBefore x_headNeeds x_groupNeeds x_wordLine x_wordLeft x_lineFirst x_lineWords x_lineLeft x_lineSlack x_lineNotes x_lineColumn x_lineTop x_columnParagraph x_columnFirst x_columnLines x_columnNotes x_columnFilled (d + 1)) (nI p) (nI k) (nI (dc_w x_doc p)) l0 rm (nI t) u n (nI w) x12 z0 x_tracking x_view x_slotNow x_stepsBack x_stepsAgain x_stale x_rounds x_columnCount x_doc x_kept x_referenceWidth x_labelValue x_labelWidth x_lineCount x_gapBefore x_headNeeds x_groupNeeds x_wordLine x_wordLeft x_lineFirst x_lineWords x_lineLeft x_lineSlack x_lineNotes x_lineColumn x_lineTop x_columnParagraph x_columnFirst x_columnLines x_columnNotes x_columnFilled := fun z0 e => by
            subst e
            refine nm_r (nI_1 t) (nm_r ex (xr_wa rfl rfl ⟨ix_in (nI_1 _) (by omega) (by omega), nm_r (e' := n + x_doc (80 + 51 * p + 3 * w)) ?_ (nm_r (nI_1 w) ih)⟩))
            rw [ix_c (nI_1 _) (by omega), show 79 + 51 * p + 3 * w + 1 = 80 + 51 * p + 3 * w from by omega]
          exact pk_eq t 0 (fun z => f159 _ (by rw [if_pos z])) (fun z => f159 _ (by rw [if_neg z]))
        refine pk_le t 0 (fun z => take (by omega)) (fun z => br_c (fun y => take ?_) (fun y => ?_))
        · rw [ex] at y; exact fun q => Int32.not_lt.mpr y q.2
        · rw [ex] at y
          rw [la_tls hs ⟨z, Int32.not_le.mp y⟩] at h
          exact h
      refine pk_eq t 0 (fun z => xr_wd hv hr rfl hp rfl (by omega) (go _ ?_)) (fun z => xr_wd hv hr rfl hp rfl (by omega) (go _ ?_))
      · rw [hu z]; unfold la_us; rw [if_pos z, Int32.zero_add]
      · unfold la_us; rw [if_neg z, Int32.add_assoc]
    · rw [la_tlh hs] at h
      exact xt_L hv hr hp d (w + 1) f t u n (by omega) (by omega) hu h
theorem xt_line {post : Int32 → SX → Prop} {x y z : Int32} {p k : Nat} {rw : Nat → Int32} (hv : dc_V x_doc) (hr : ∀ m, m < 8 → x_referenceWidth m = rw m) (hl : x_labelWidth p = la_lw x_doc p) (hx : x = nI p) (hp : p < 24) (hy : y = nI k) (hk : k < 16) (hz : z = nI (la_fr x_doc x_view rw p k))
    (h : post (nI (la_fr x_doc x_view rw p (k + 1))) (x_tracking, x_view, x_slotNow, x_stepsBack, x_stepsAgain, x_stale, x_rounds, x_columnCount, x_doc, x_kept, x_referenceWidth, x_labelValue, x_labelWidth, x_lineCount, x_gapBefore, x_headNeeds, x_groupNeeds, x_wordLine, x_wordLeft, (upd x_lineFirst (16 * p + k) (nI (la_f x_doc x_view rw p k))), (upd x_lineWords (16 * p + k) (nI (la_t x_doc x_view rw p k))), (upd x_lineLeft (16 * p + k) (la_l0 x_doc p k)), (upd x_lineSlack (16 * p + k) (la_sl x_doc x_view rw p k)), (upd x_lineNotes (16 * p + k) (la_no x_doc x_view rw p k)), x_lineColumn, x_lineTop, x_columnParagraph, x_columnFirst, x_columnLines, x_columnNotes, x_columnFilled)) : wpX_takeLine post (x_tracking, x_view, x_slotNow, x_stepsBack, x_stepsAgain, x_stale, x_rounds, x_columnCount, x_doc, x_kept, x_referenceWidth, x_labelValue, x_labelWidth, x_lineCount, x_gapBefore, x_headNeeds, x_groupNeeds, x_wordLine, x_wordLeft, x_lineFirst, x_lineWords, x_lineLeft, x_lineSlack, x_lineNotes, x_lineColumn, x_lineTop, x_columnParagraph, x_columnFirst, x_columnLines, x_columnNotes, x_columnFilled) x y z := by
  subst hx hy hz
  have h16 := (dc_Vw hv hp).2
  have hf := la_frW (a := x_doc) (rw := rw) (vw := x_view) (p := p) k
  have el := ad_l p k
  have jl := ix_in (N := 384) el (by omega) (by omega)
  have jn := vp_in_nI (n := 16 * p + k) (N := 384) (by omega) (by omega)
  have cn := nI_clamp (n := 16 * p + k) (by omega)
  have e196 : wX_takeLine_196 post (nI p) (nI k) (la_l0 x_doc p k) (la_rm x_doc p k) (nI (la_f x_doc x_view rw p k)) (nI (la_t x_doc x_view rw p k)) (la_L x_doc x_view rw p k).2.2.2.1 (la_no x_doc x_view rw p k) (nI (la_fr x_doc x_view rw p (k + 1))) x_tracking x_view x_slotNow x_stepsBack x_stepsAgain x_stale x_rounds x_columnCount x_doc x_kept x_referenceWidth x_labelValue x_labelWidth x_lineCount x_gapBefore x_headNeeds x_groupNeeds x_wordLine x_wordLeft x_lineFirst x_lineWords x_lineLeft x_lineSlack x_lineNotes x_lineColumn x_lineTop x_columnParagraph x_columnFirst x_columnLines x_columnNotes x_columnFilled := by
    have f253 : ∀ z0 : Int32, z0 = la_sl x_doc x_view rw p k → wX_takeLine_253 post (la_no x_doc x_view rw p k) (nI (la_fr x_doc x_view rw p (k + 1))) (nI (16 * p + k)) z0 (nI (16 * p + k)) x_tracking x_view x_slotNow x_stepsBack x_stepsAgain x_stale x_rounds x_columnCount x_doc x_kept x_referenceWidth x_labelValue x_labelWidth x_lineCount x_gapBefore x_headNeeds x_groupNeeds x_wordLine x_wordLeft (upd x_lineFirst (16 * p + k) (nI (la_f x_doc x_view rw p k))) (upd x_lineWords (16 * p + k) (nI (la_t x_doc x_view rw p k))) (upd x_lineLeft (16 * p + k) (la_l0 x_doc p k)) x_lineSlack x_lineNotes x_lineColumn x_lineTop x_columnParagraph x_columnFirst x_columnLines x_columnNotes x_columnFilled := fun z0 e => by
      subst e
      exact ⟨jn, nm_r (by rw [cn]) ⟨jn, nm_r (by rw [cn]) h⟩⟩
    refine nm_r el ⟨jn, nm_r (by rw [cn]) ⟨jn, nm_r (by rw [cn]) ⟨jn, nm_r (by rw [cn]) (br_c (fun z => f253 _ ?_) (fun z => f253 _ ?_))⟩⟩⟩
    · unfold la_sl; rw [if_pos z]
    · unfold la_sl; rw [if_neg z]
  have f65 : ∀ z0 : Int32, z0 = la_rm x_doc p k → wX_takeLine_65 post (nI p) (nI k) (nI (la_fr x_doc x_view rw p k)) (nI (dc_w x_doc p)) (la_l0 x_doc p k) z0 x_tracking x_view x_slotNow x_stepsBack x_stepsAgain x_stale x_rounds x_columnCount x_doc x_kept x_referenceWidth x_labelValue x_labelWidth x_lineCount x_gapBefore x_headNeeds x_groupNeeds x_wordLine x_wordLeft x_lineFirst x_lineWords x_lineLeft x_lineSlack x_lineNotes x_lineColumn x_lineTop x_columnParagraph x_columnFirst x_columnLines x_columnNotes x_columnFilled := fun z0 e => by
    subst e
    exact ⟨dc_w x_doc p - la_fr x_doc x_view rw p k + 1, xt_L (t := 0) hv hr hp (dc_w x_doc p - la_fr x_doc x_view rw p k) (la_fr x_doc x_view rw p k) (dc_w x_doc p) 0 0 (by omega) (by omega) (fun _ => rfl) e196⟩
  have f37 : ∀ l : Int32, l = la_l0 x_doc p k → wX_takeLine_37 post (nI p) (nI k) (nI (la_fr x_doc x_view rw p k)) (nI (dc_w x_doc p)) l x_tracking x_view x_slotNow x_stepsBack x_stepsAgain x_stale x_rounds x_columnCount x_doc x_kept x_referenceWidth x_labelValue x_labelWidth x_lineCount x_gapBefore x_headNeeds x_groupNeeds x_wordLine x_wordLeft x_lineFirst x_lineWords x_lineLeft x_lineSlack x_lineNotes x_lineColumn x_lineTop x_columnParagraph x_columnFirst x_columnLines x_columnNotes x_columnFilled := fun l e => by
    subst e
    unfold wX_takeLine_37
    refine xr_cw (xr_tr hv rfl hp (t := 1) rfl (by omega) (nm_e (br_c (fun z => f65 _ ?_) (fun z => f65 _ ?_))))
    · unfold la_rm; rw [if_pos z]
    · unfold la_rm; rw [if_neg z]
  unfold wpX_takeLine
  refine xr_wo rfl hp ?_
  rw [(dc_Vw hv hp).1]
  refine xr_tr hv rfl hp (t := 0) rfl (by omega) (pk_eq k 0 (fun q => xr_tr hv rfl hp (t := 2) rfl (by omega) ⟨vp_in_nI hp (by omega), nm_r (e' := la_l0 x_doc p k) ?_ (f37 _ rfl)⟩) (fun q => f37 _ ?_))
  · rw [nI_clamp (by omega), hl]; unfold la_l0; rw [if_pos q]
  · unfold la_l0; rw [if_neg q]
/-- placeWords -/
theorem xp_L {post : SX → Prop} {p k f e t : Nat} {sl st l0 : Int32} {rw : Nat → Int32} (hv : dc_V x_doc) (hr : ∀ m, m < 8 → x_referenceWidth m = rw m) (hp : p < 24) (hf : f ≤ e) (he : e ≤ dc_w x_doc p) (ht : la_cn x_doc x_view p f (e - f) = t) (hst : ¬ st = 0 → 1 < t) (ht16 : t ≤ 16)
    (h : post (x_tracking, x_view, x_slotNow, x_stepsBack, x_stepsAgain, x_stale, x_rounds, x_columnCount, x_doc, x_kept, x_referenceWidth, x_labelValue, x_labelWidth, x_lineCount, x_gapBefore, x_headNeeds, x_groupNeeds, (la_wr x_doc x_view p x_wordLine (fun _ => nI k) f (e - f)), (la_wr x_doc x_view p x_wordLeft (fun w => (la_po x_doc x_view rw p sl (nI t - 1) st l0 f (w - f)).1) f (e - f)), x_lineFirst, x_lineWords, x_lineLeft, x_lineSlack, x_lineNotes, x_lineColumn, x_lineTop, x_columnParagraph, x_columnFirst, x_columnLines, x_columnNotes, x_columnFilled)) : ∀ (d m : Nat), f + m + d = dc_w x_doc p → f + m ≤ e →
    wX_placeWords_122 post (nI p) (nI k) sl (nI t - 1) st x_tracking x_view x_slotNow x_stepsBack x_stepsAgain x_stale x_rounds x_columnCount (d + 1) (la_po x_doc x_view rw p sl (nI t - 1) st l0 f m).1 (nI (la_cn x_doc x_view p f m)) (nI (f + m)) x_doc x_kept x_referenceWidth x_labelValue x_labelWidth x_lineCount x_gapBefore x_headNeeds x_groupNeeds (la_wr x_doc x_view p x_wordLine (fun _ => nI k) f m) (la_wr x_doc x_view p x_wordLeft (fun w => (la_po x_doc x_view rw p sl (nI t - 1) st l0 f (w - f)).1) f m) x_lineFirst x_lineWords x_lineLeft x_lineSlack x_lineNotes x_lineColumn x_lineTop x_columnParagraph x_columnFirst x_columnLines x_columnNotes x_columnFilled
  | d, m, hd, hm => by
    have h16 := (dc_Vw hv hp).2
    have hc := la_cnA (a := x_doc) (vw := x_view) (p := p) (w := f) (m := m) (k := e - f - m)
    rw [show m + (e - f - m) = e - f from by omega, ht] at hc
    have hcm := la_cnL (a := x_doc) (vw := x_view) (p := p) (w := f) (m := m)
    have stop : la_cn x_doc x_view p (f + m) (e - f - m) = 0 → post (x_tracking, x_view, x_slotNow, x_stepsBack, x_stepsAgain, x_stale, x_rounds, x_columnCount, x_doc, x_kept, x_referenceWidth, x_labelValue, x_labelWidth, x_lineCount, x_gapBefore, x_headNeeds, x_groupNeeds, (la_wr x_doc x_view p x_wordLine (fun _ => nI k) f m), (la_wr x_doc x_view p x_wordLeft (fun w => (la_po x_doc x_view rw p sl (nI t - 1) st l0 f (w - f)).1) f m), x_lineFirst, x_lineWords, x_lineLeft, x_lineSlack, x_lineNotes, x_lineColumn, x_lineTop, x_columnParagraph, x_columnFirst, x_columnLines, x_columnNotes, x_columnFilled) := fun z => by
      have e1 := la_wrE (a := x_doc) (vw := x_view) (p := p) (g := x_wordLine) (val := fun _ => nI k) (f := f) (m := m) (k := e - f - m) z
      have e2 := la_wrE (a := x_doc) (vw := x_view) (p := p) (g := x_wordLeft) (val := fun w => (la_po x_doc x_view rw p sl (nI t - 1) st l0 f (w - f)).1) (f := f) (m := m) (k := e - f - m) z
      rw [show m + (e - f - m) = e - f from by omega] at e1 e2
      rw [← e1, ← e2]; exact h
    have gaps : nI t - 1 < nI (la_cn x_doc x_view p f m) ↔ t ≤ la_cn x_doc x_view p f m := by
      by_cases z : t = 0
      · subst z
        refine ⟨fun _ => Nat.zero_le _, fun _ => ?_⟩
        rw [Int32.lt_iff_toInt_lt, nI_toInt (by omega), show (nI 0 - 1).toInt = -1 from by decide]; omega
      · obtain ⟨s, rfl⟩ : ∃ s, t = s + 1 := ⟨t - 1, by omega⟩
        rw [nI_pred, nI_ltI (by omega) (by omega)]; omega
    unfold wX_placeWords_122
    refine xr_wo rfl hp ?_
    rw [(dc_Vw hv hp).1]
    match d with
    | 0 =>
      refine br_t (nI_le (by omega) (by omega)) (stop ?_)
      rw [show e - f - m = 0 from by omega]; rfl
    | d + 1 =>
      refine br_f (nI_ge (by omega) (by omega)) (br_c (fun z => stop ?_) (fun z => ?_))
      · have := gaps.mp z; omega
      · have z' : la_cn x_doc x_view p f m < t := Nat.not_le.mp fun q => z (gaps.mpr q)
        have hlt : f + m < e := by
          rcases Nat.lt_or_ge (f + m) e with q | q
          · exact q
          · rw [show e - f - m = 0 from by omega] at hc
            have : la_cn x_doc x_view p (f + m) 0 = 0 := rfl
            omega
        refine xr_sh rfl hp rfl (by omega) (fun hs => br_f (by decide) ?_) (fun hs => br_t rfl (nm_r (nI_1 _) ?_))
        · have el := ad_l p (f + m)
          have jl := ix_in (N := 384) el (by omega) (by omega)
          have cl := ix_c el (by omega)
          have q1 : la_wr x_doc x_view p x_wordLine (fun _ => nI k) f (m + 1) = _ := if_pos hs
          have q2 : la_wr x_doc x_view p x_wordLeft (fun w => (la_po x_doc x_view rw p sl (nI t - 1) st l0 f (w - f)).1) f (m + 1) = upd (la_wr x_doc x_view p x_wordLeft (fun w => (la_po x_doc x_view rw p sl (nI t - 1) st l0 f (w - f)).1) f m) (16 * p + (f + m)) (la_po x_doc x_view rw p sl (nI t - 1) st l0 f m).1 :=
            (if_pos hs).trans (congrArg (fun z => upd (la_wr x_doc x_view p x_wordLeft (fun w => (la_po x_doc x_view rw p sl (nI t - 1) st l0 f (w - f)).1) f m) (16 * p + (f + m)) (la_po x_doc x_view rw p sl (nI t - 1) st l0 f z).1) (show f + m - f = m from by omega))
          have q3 : la_po x_doc x_view rw p sl (nI t - 1) st l0 f (m + 1) = _ := if_pos hs
          have q4 : la_cn x_doc x_view p f (m + 1) = la_cn x_doc x_view p f m + 1 := congrArg (la_cn x_doc x_view p f m + ·) (if_pos hs)
          have ih := xp_L hv hr hp hf he ht hst ht16 h d (m + 1) (by omega) (by omega)
          rw [q1, q2, q3, q4, la_poC] at ih
          have ih1 : ∀ v : Int32, v = la_s1 (la_po x_doc x_view rw p sl (nI t - 1) st l0 f m).1 (la_wd x_doc rw p (f + m)) sl (nI t - 1) st (la_cn x_doc x_view p f m) → _ := fun v ev => ev ▸ ih
          refine ⟨jl, nm_r (by rw [cl]) ⟨jl, nm_r (by rw [cl]) (xr_wd hv hr rfl hp rfl (by omega) (nm_e (br_c (fun s0 => nm_r (nI_1 _) (nm_r (nI_1 _) ?_)) (fun s0 => ?_))))⟩⟩
          · refine ih1 _ ?_
            unfold la_s1; rw [if_pos s0]
          · have hne : ¬ nI t - 1 = 0 := by
              obtain ⟨s, rfl⟩ : ∃ s, t = s + 1 := ⟨t - 1, by omega⟩
              have := hst s0
              rw [nI_pred]; exact nI_ne0 (by omega) (by omega)
            refine ⟨hne, hne, br_c (fun s1 => nm_e (nm_r (nI_1 _) (nm_r (nI_1 _) ?_))) (fun s1 => nm_e (nm_r (nI_1 _) (nm_r (nI_1 _) ?_)))⟩
            · refine ih1 _ ?_
              unfold la_s1; rw [if_neg s0, if_pos s1]
            · refine ih1 _ ?_
              unfold la_s1; rw [if_neg s0, if_neg s1]
        · have q1 : la_wr x_doc x_view p x_wordLine (fun _ => nI k) f (m + 1) = _ := if_neg hs
          have q2 : la_wr x_doc x_view p x_wordLeft (fun w => (la_po x_doc x_view rw p sl (nI t - 1) st l0 f (w - f)).1) f (m + 1) = _ := if_neg hs
          have q3 : la_po x_doc x_view rw p sl (nI t - 1) st l0 f (m + 1) = _ := if_neg hs
          have q4 : la_cn x_doc x_view p f (m + 1) = la_cn x_doc x_view p f m := congrArg (la_cn x_doc x_view p f m + ·) (if_neg hs)
          have ih := xp_L hv hr hp hf he ht hst ht16 h d (m + 1) (by omega) (by omega)
          rw [q1, q2, q3, q4] at ih
          exact ih
  termination_by d => d
