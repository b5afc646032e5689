/-- what X knows when its layout isn't stale -/
def lx_OK (a : Nat → Int32) (vw ro cc : Int32) (lv lc wl wx lf ln ll ls lo lk lt cp cf cl cn cd : Nat → Int32) : Prop := ∃ r, la_fin a vw r ∧ ro = nI r ∧ (∀ q, q < dc_n a → lv q = la_lb a q)
  ∧ xb_B a vw (la_rk a vw (r - 1)) (dc_n a) lc wl wx lf ln ll ls lo ∧ xf_C a vw (la_rk a vw (r - 1)) (la_fl a vw (la_rk a vw (r - 1)) (dc_n a)) (dc_n a) 0 cc lk lt cp cf cl cn cd
variable {x_tracking x_view x_slotNow x_stepsBack x_stepsAgain x_stale x_rounds x_columnCount : Int32} {x_doc x_kept x_referenceWidth x_labelValue x_labelWidth x_lineCount x_gapBefore x_headNeeds x_groupNeeds x_wordLine x_wordLeft x_lineFirst x_lineWords x_lineLeft x_lineSlack x_lineNotes x_lineColumn x_lineTop x_columnParagraph x_columnFirst x_columnLines x_columnNotes x_columnFilled : Nat → Int32}
theorem xr_chL {post : Int32 → SX → Prop} {rw : Nat → Int32} (hv : dc_V x_doc) (hl : ∀ q, q < dc_n x_doc → x_lineColumn (16 * q) = (la_fl x_doc x_view rw (dc_n x_doc)).2.2.2.2.2.2.1 (16 * q))
    (h1 : la_ch x_doc x_view rw → ∀ x_referenceWidth, (∀ m, m < 8 → x_referenceWidth m = la_nx x_doc x_view rw m) → post 1 (x_tracking, x_view, x_slotNow, x_stepsBack, x_stepsAgain, x_stale, x_rounds, x_columnCount, x_doc, x_kept, x_referenceWidth, x_labelValue, x_labelWidth, x_lineCount, x_gapBefore, x_headNeeds, x_groupNeeds, x_wordLine, x_wordLeft, x_lineFirst, x_lineWords, x_lineLeft, x_lineSlack, x_lineNotes, x_lineColumn, x_lineTop, x_columnParagraph, x_columnFirst, x_columnLines, x_columnNotes, x_columnFilled))
    (h0 : ¬ la_ch x_doc x_view rw → ∀ x_referenceWidth, (∀ m, m < 8 → x_referenceWidth m = la_nx x_doc x_view rw m) → post 0 (x_tracking, x_view, x_slotNow, x_stepsBack, x_stepsAgain, x_stale, x_rounds, x_columnCount, x_doc, x_kept, x_referenceWidth, x_labelValue, x_labelWidth, x_lineCount, x_gapBefore, x_headNeeds, x_groupNeeds, x_wordLine, x_wordLeft, x_lineFirst, x_lineWords, x_lineLeft, x_lineSlack, x_lineNotes, x_lineColumn, x_lineTop, x_columnParagraph, x_columnFirst, x_columnLines, x_columnNotes, x_columnFilled)) : ∀ (d m : Nat) (x1 : Int32) (x_referenceWidth : Nat → Int32), m + d = 8 →
    (∀ i, i < m → x_referenceWidth i = la_nx x_doc x_view rw i) → (∀ i, m ≤ i → i < 8 → x_referenceWidth i = rw i) → ((x1 = 1 ∧ la_ch x_doc x_view rw) ∨ (x1 = 0 ∧ ∀ i, i < m → ¬ (la_nx x_doc x_view rw i ≠ rw i ∧ la_rf x_doc i))) →
    wX_referencesChange_4 post x_tracking x_view x_slotNow x_stepsBack x_stepsAgain x_stale x_rounds x_columnCount (d + 1) x1 (nI m) x_doc x_kept x_referenceWidth x_labelValue x_labelWidth x_lineCount x_gapBefore x_headNeeds x_groupNeeds x_wordLine x_wordLeft x_lineFirst x_lineWords x_lineLeft x_lineSlack x_lineNotes x_lineColumn x_lineTop x_columnParagraph x_columnFirst x_columnLines x_columnNotes x_columnFilled
  | 0, m, x1, x_referenceWidth, hm, q1, q2, q3 => by
    obtain rfl : m = 8 := by omega
    refine br_t (nI_le (a := 8) (b := 8) (by omega) (by omega)) ?_
    rcases q3 with ⟨rfl, c⟩ | ⟨rfl, c⟩
    · exact ⟨rfl, h1 c _ q1⟩
    · refine ⟨rfl, h0 ?_ _ q1⟩
      rintro ⟨i, z1, z2⟩
      exact c i z1 z2
  | d + 1, m, x1, x_referenceWidth, hm, q1, q2, q3 => by
    have jm := vp_in_nI (n := m) (N := 8) (by omega) (by omega)
    have cm := nI_clamp (n := m) (by omega)
    have next : ∀ y1 : Int32, ((y1 = 1 ∧ la_ch x_doc x_view rw) ∨ (y1 = 0 ∧ ∀ i, i < m + 1 → ¬ (la_nx x_doc x_view rw i ≠ rw i ∧ la_rf x_doc i))) → wX_referencesChange_4 post x_tracking x_view x_slotNow x_stepsBack x_stepsAgain x_stale x_rounds x_columnCount (d + 1) y1 (nI (m + 1)) x_doc x_kept (upd x_referenceWidth m (la_nx x_doc x_view rw m)) x_labelValue x_labelWidth x_lineCount x_gapBefore x_headNeeds x_groupNeeds x_wordLine x_wordLeft x_lineFirst x_lineWords x_lineLeft x_lineSlack x_lineNotes x_lineColumn x_lineTop x_columnParagraph x_columnFirst x_columnLines x_columnNotes x_columnFilled := fun y1 q4 => by
      refine xr_chL hv hl h1 h0 d (m + 1) y1 _ (by omega) (fun i hi => ?_) (fun i hi hi2 => ?_) q4
      · by_cases e : i = m
        · subst e; exact pk_us
        · rw [pk_un e]; exact q1 i (by omega)
      · rw [pk_un (by omega)]; exact q2 i (by omega) hi2
    have keep : ¬ (la_nx x_doc x_view rw m ≠ rw m ∧ la_rf x_doc m) → ((x1 = 1 ∧ la_ch x_doc x_view rw) ∨ (x1 = 0 ∧ ∀ i, i < m + 1 → ¬ (la_nx x_doc x_view rw i ≠ rw i ∧ la_rf x_doc i))) := fun z => by
      rcases q3 with c | ⟨c1, c2⟩
      · exact Or.inl c
      · refine Or.inr ⟨c1, fun i hi => ?_⟩
        by_cases e : i = m
        · subst e; exact z
        · exact c2 i (by omega)
    refine br_f (nI_ge (b := 8) (by omega) (by omega)) (xr_pg hv rfl hl ⟨jm, ?_⟩)
    rw [cm, q2 m (by omega) (by omega)]
    refine br_c (fun z => ⟨jm, nm_e (nm_r (nI_1 m) (next x1 (keep fun c => c.1 z)))⟩) (fun z => xr_rf hv rfl (fun c => br_f (by decide) ⟨jm, nm_r rfl (nm_r (nI_1 m) (next 1 (Or.inl ⟨rfl, ⟨m, by omega, z, c⟩⟩)))⟩) (fun c => br_t rfl ⟨jm, nm_r rfl (nm_r (nI_1 m) (next x1 (keep fun c2 => c c2.2)))⟩))
theorem xs_ch {post : Int32 → SX → Prop} {rw : Nat → Int32} (hv : dc_V x_doc) (hr : ∀ m, m < 8 → x_referenceWidth m = rw m) (hl : ∀ q, q < dc_n x_doc → x_lineColumn (16 * q) = (la_fl x_doc x_view rw (dc_n x_doc)).2.2.2.2.2.2.1 (16 * q))
    (h1 : la_ch x_doc x_view rw → ∀ x_referenceWidth, (∀ m, m < 8 → x_referenceWidth m = la_nx x_doc x_view rw m) → post 1 (x_tracking, x_view, x_slotNow, x_stepsBack, x_stepsAgain, x_stale, x_rounds, x_columnCount, x_doc, x_kept, x_referenceWidth, x_labelValue, x_labelWidth, x_lineCount, x_gapBefore, x_headNeeds, x_groupNeeds, x_wordLine, x_wordLeft, x_lineFirst, x_lineWords, x_lineLeft, x_lineSlack, x_lineNotes, x_lineColumn, x_lineTop, x_columnParagraph, x_columnFirst, x_columnLines, x_columnNotes, x_columnFilled))
    (h0 : ¬ la_ch x_doc x_view rw → ∀ x_referenceWidth, (∀ m, m < 8 → x_referenceWidth m = la_nx x_doc x_view rw m) → post 0 (x_tracking, x_view, x_slotNow, x_stepsBack, x_stepsAgain, x_stale, x_rounds, x_columnCount, x_doc, x_kept, x_referenceWidth, x_labelValue, x_labelWidth, x_lineCount, x_gapBefore, x_headNeeds, x_groupNeeds, x_wordLine, x_wordLeft, x_lineFirst, x_lineWords, x_lineLeft, x_lineSlack, x_lineNotes, x_lineColumn, x_lineTop, x_columnParagraph, x_columnFirst, x_columnLines, x_columnNotes, x_columnFilled)) : wpX_referencesChange post (x_tracking, x_view, x_slotNow, x_stepsBack, x_stepsAgain, x_stale, x_rounds, x_columnCount, x_doc, x_kept, x_referenceWidth, x_labelValue, x_labelWidth, x_lineCount, x_gapBefore, x_headNeeds, x_groupNeeds, x_wordLine, x_wordLeft, x_lineFirst, x_lineWords, x_lineLeft, x_lineSlack, x_lineNotes, x_lineColumn, x_lineTop, x_columnParagraph, x_columnFirst, x_columnLines, x_columnNotes, x_columnFilled) :=
  ⟨9, xr_chL (m := 0) hv hl h1 h0 8 0 _ (by omega) (fun i hi => absurd hi (by omega)) (fun i _ hi => hr i hi) (Or.inr ⟨rfl, fun i hi => absurd hi (by omega)⟩)⟩
/-- one round -/
theorem xw_58 {post : SX → Prop} {n r : Nat} {rw : Nat → Int32} (hv : dc_V x_doc) (hr : ∀ m, m < 8 → x_referenceWidth m = rw m) (hl : ∀ q, q < dc_n x_doc → x_labelWidth q = la_lw x_doc q)
    (h1 : la_ch x_doc x_view rw → ∀ x_columnCount x_referenceWidth x_lineCount x_wordLine x_wordLeft x_lineFirst x_lineWords x_lineLeft x_lineSlack x_lineNotes x_gapBefore x_headNeeds x_groupNeeds x_lineColumn x_lineTop x_columnParagraph x_columnFirst x_columnLines x_columnNotes x_columnFilled, (∀ m, m < 8 → x_referenceWidth m = la_nx x_doc x_view rw m) → xb_B x_doc x_view rw (dc_n x_doc) x_lineCount x_wordLine x_wordLeft x_lineFirst x_lineWords x_lineLeft x_lineSlack x_lineNotes → xf_C x_doc x_view rw (la_fl x_doc x_view rw (dc_n x_doc)) (dc_n x_doc) 0 x_columnCount x_lineColumn x_lineTop x_columnParagraph x_columnFirst x_columnLines x_columnNotes x_columnFilled → wX_layOutIfStale_42 post n 0 (nI (r + 1)) x_tracking x_view x_slotNow x_stepsBack x_stepsAgain x_stale x_rounds x_columnCount x_doc x_kept x_referenceWidth x_labelValue x_labelWidth x_lineCount x_gapBefore x_headNeeds x_groupNeeds x_wordLine x_wordLeft x_lineFirst x_lineWords x_lineLeft x_lineSlack x_lineNotes x_lineColumn x_lineTop x_columnParagraph x_columnFirst x_columnLines x_columnNotes x_columnFilled)
    (h0 : ¬ la_ch x_doc x_view rw → ∀ x_columnCount x_referenceWidth x_lineCount x_wordLine x_wordLeft x_lineFirst x_lineWords x_lineLeft x_lineSlack x_lineNotes x_gapBefore x_headNeeds x_groupNeeds x_lineColumn x_lineTop x_columnParagraph x_columnFirst x_columnLines x_columnNotes x_columnFilled, (∀ m, m < 8 → x_referenceWidth m = la_nx x_doc x_view rw m) → xb_B x_doc x_view rw (dc_n x_doc) x_lineCount x_wordLine x_wordLeft x_lineFirst x_lineWords x_lineLeft x_lineSlack x_lineNotes → xf_C x_doc x_view rw (la_fl x_doc x_view rw (dc_n x_doc)) (dc_n x_doc) 0 x_columnCount x_lineColumn x_lineTop x_columnParagraph x_columnFirst x_columnLines x_columnNotes x_columnFilled → wX_layOutIfStale_42 post n 1 (nI (r + 1)) x_tracking x_view x_slotNow x_stepsBack x_stepsAgain x_stale x_rounds x_columnCount x_doc x_kept x_referenceWidth x_labelValue x_labelWidth x_lineCount x_gapBefore x_headNeeds x_groupNeeds x_wordLine x_wordLeft x_lineFirst x_lineWords x_lineLeft x_lineSlack x_lineNotes x_lineColumn x_lineTop x_columnParagraph x_columnFirst x_columnLines x_columnNotes x_columnFilled) : ∀ (d p : Nat) (x_lineCount x_wordLine x_wordLeft x_lineFirst x_lineWords x_lineLeft x_lineSlack x_lineNotes : Nat → Int32), p + d = dc_n x_doc →
    xb_B x_doc x_view rw p x_lineCount x_wordLine x_wordLeft x_lineFirst x_lineWords x_lineLeft x_lineSlack x_lineNotes → wX_layOutIfStale_58 post (wX_layOutIfStale_42 post n) (nI r) (d + 1) (nI p) x_tracking x_view x_slotNow x_stepsBack x_stepsAgain x_stale x_rounds x_columnCount x_doc x_kept x_referenceWidth x_labelValue x_labelWidth x_lineCount x_gapBefore x_headNeeds x_groupNeeds x_wordLine x_wordLeft x_lineFirst x_lineWords x_lineLeft x_lineSlack x_lineNotes x_lineColumn x_lineTop x_columnParagraph x_columnFirst x_columnLines x_columnNotes x_columnFilled
  | 0, p, x_lineCount, x_wordLine, x_wordLeft, x_lineFirst, x_lineWords, x_lineLeft, x_lineSlack, x_lineNotes, hp, H => by
    obtain ⟨e0, h24⟩ := dc_Vn hv
    obtain rfl : p = dc_n x_doc := by omega
    refine br_t (by rw [e0]; exact nI_le (by omega) (by omega)) (xs_meas hv H ?_)
    intro x_gapBefore x_headNeeds x_groupNeeds HM
    refine xs_fill hv H HM ?_
    intro x_columnCount x_lineColumn x_lineTop x_columnParagraph x_columnFirst x_columnLines x_columnNotes x_columnFilled HC
    refine xs_ch hv hr (fun q hq => ?_) (fun c x_referenceWidth g => br_f (by decide) (nm_r (nI_1 r) (h1 c _ _ _ _ _ _ _ _ _ _ _ _ _ _ _ _ _ _ _ _ g H HC))) (fun c x_referenceWidth g => br_t rfl (nm_r (nI_1 r) (h0 c _ _ _ _ _ _ _ _ _ _ _ _ _ _ _ _ _ _ _ _ g H HC)))
    have hn := la_nlP (a := x_doc) (rw := rw) (vw := x_view) (dc_Vw hv (p := q) (by omega)).2
    exact (HC.2.2 q 0 (by omega) (Or.inl ⟨hq, by omega⟩)).1
  | d + 1, p, x_lineCount, x_wordLine, x_wordLeft, x_lineFirst, x_lineWords, x_lineLeft, x_lineSlack, x_lineNotes, hp, H => by
    obtain ⟨e0, h24⟩ := dc_Vn hv
    refine br_f (by rw [e0]; exact nI_ge (by omega) (by omega)) (xs_break hv hr (hl p (by omega)) rfl (by omega) H ?_)
    intro x_lineCount x_wordLine x_wordLeft x_lineFirst x_lineWords x_lineLeft x_lineSlack x_lineNotes H2
    exact nm_r (nI_1 p) (xw_58 hv hr hl h1 h0 d (p + 1) _ _ _ _ _ _ _ _ (by omega) H2)
theorem xw_42 {post : SX → Prop} (hv : dc_V x_doc) (HN : xl_N x_doc x_labelValue x_labelWidth (dc_n x_doc))
    (h : ∀ x_rounds x_columnCount x_referenceWidth x_lineCount x_wordLine x_wordLeft x_lineFirst x_lineWords x_lineLeft x_lineSlack x_lineNotes x_gapBefore x_headNeeds x_groupNeeds x_lineColumn x_lineTop x_columnParagraph x_columnFirst x_columnLines x_columnNotes x_columnFilled, lx_OK x_doc x_view x_rounds x_columnCount x_labelValue x_lineCount x_wordLine x_wordLeft x_lineFirst x_lineWords x_lineLeft x_lineSlack x_lineNotes x_lineColumn x_lineTop x_columnParagraph x_columnFirst x_columnLines x_columnNotes x_columnFilled → post (x_tracking, x_view, x_slotNow, x_stepsBack, x_stepsAgain, x_stale, x_rounds, x_columnCount, x_doc, x_kept, x_referenceWidth, x_labelValue, x_labelWidth, x_lineCount, x_gapBefore, x_headNeeds, x_groupNeeds, x_wordLine, x_wordLeft, x_lineFirst, x_lineWords, x_lineLeft, x_lineSlack, x_lineNotes, x_lineColumn, x_lineTop, x_columnParagraph, x_columnFirst, x_columnLines, x_columnNotes, x_columnFilled)) : ∀ (d r : Nat) (x_rounds x_columnCount : Int32) (x_referenceWidth x_lineCount x_wordLine x_wordLeft x_lineFirst x_lineWords x_lineLeft x_lineSlack x_lineNotes x_gapBefore x_headNeeds x_groupNeeds x_lineColumn x_lineTop x_columnParagraph x_columnFirst x_columnLines x_columnNotes x_columnFilled : Nat → Int32), r + d = 4 → 1 ≤ r →
    (∀ i, i + 1 < r → la_ch x_doc x_view (la_rk x_doc x_view i)) → (∀ m, m < 8 → x_referenceWidth m = la_rk x_doc x_view (r - 1) m) → wX_layOutIfStale_42 post (d + 2) 0 (nI r) x_tracking x_view x_slotNow x_stepsBack x_stepsAgain x_stale x_rounds x_columnCount x_doc x_kept x_referenceWidth x_labelValue x_labelWidth x_lineCount x_gapBefore x_headNeeds x_groupNeeds x_wordLine x_wordLeft x_lineFirst x_lineWords x_lineLeft x_lineSlack x_lineNotes x_lineColumn x_lineTop x_columnParagraph x_columnFirst x_columnLines x_columnNotes x_columnFilled
  | d, r, x_rounds, x_columnCount, x_referenceWidth, x_lineCount, x_wordLine, x_wordLeft, x_lineFirst, x_lineWords, x_lineLeft, x_lineSlack, x_lineNotes, x_gapBefore, x_headNeeds, x_groupNeeds, x_lineColumn, x_lineTop, x_columnParagraph, x_columnFirst, x_columnLines, x_columnNotes, x_columnFilled, hr4, hr1, hc, hr => by
    refine br_f (nI_nlt (a := 4) (by omega) (by omega)) (br_t rfl ⟨dc_n x_doc + 1, ?_⟩)
    have done : (r = 4 ∨ ¬ la_ch x_doc x_view (la_rk x_doc x_view (r - 1))) → la_fin x_doc x_view r := fun z => ⟨hr1, by omega, hc, z⟩
    refine xw_58 (p := 0) (rw := la_rk x_doc x_view (r - 1)) hv hr (fun q hq => (HN q hq).2) (fun c => ?_) (fun c => ?_) (dc_n x_doc) _ _ _ _ _ _ _ _ (by omega) (fun q hq => absurd hq (by omega))
    · intro x_columnCount x_referenceWidth x_lineCount x_wordLine x_wordLeft x_lineFirst x_lineWords x_lineLeft x_lineSlack x_lineNotes x_gapBefore x_headNeeds x_groupNeeds x_lineColumn x_lineTop x_columnParagraph x_columnFirst x_columnLines x_columnNotes x_columnFilled g H HC
      match d, hr4 with
      | 0, hr4 =>
        exact br_t (nI_lt (a := 4) (by omega) (by omega)) (h _ _ _ _ _ _ _ _ _ _ _ _ _ _ _ _ _ _ _ _ _ ⟨r, done (Or.inl (by omega)), rfl, fun q hq => (HN q hq).1, H, HC⟩)
      | d + 1, hr4 =>
        refine xw_42 hv HN h d (r + 1) _ _ _ _ _ _ _ _ _ _ _ _ _ _ _ _ _ _ _ _ _ (by omega) (by omega) (fun i hi => ?_) (fun m hm => ?_)
        · by_cases e : i = r - 1
          · subst e; exact c
          · exact hc i (by omega)
        · rw [g m hm, show r + 1 - 1 = r - 1 + 1 from by omega]; rfl
    · intro x_columnCount x_referenceWidth x_lineCount x_wordLine x_wordLeft x_lineFirst x_lineWords x_lineLeft x_lineSlack x_lineNotes x_gapBefore x_headNeeds x_groupNeeds x_lineColumn x_lineTop x_columnParagraph x_columnFirst x_columnLines x_columnNotes x_columnFilled g H HC
      have fin := h (nI r) x_columnCount x_referenceWidth _ _ _ _ _ _ _ _ x_gapBefore x_headNeeds x_groupNeeds _ _ _ _ _ _ _ ⟨r, done (Or.inr c), rfl, fun q hq => (HN q hq).1, H, HC⟩
      exact br_c (fun _ => fin) (fun _ => br_f (by decide) fin)
  termination_by d => d
theorem xw_19 {post : SX → Prop} (h : ∀ x_referenceWidth, (∀ m, m < 8 → x_referenceWidth m = 1) → ∃ n, wX_layOutIfStale_42 post n 0 1 x_tracking x_view x_slotNow x_stepsBack x_stepsAgain x_stale x_rounds x_columnCount x_doc x_kept x_referenceWidth x_labelValue x_labelWidth x_lineCount x_gapBefore x_headNeeds x_groupNeeds x_wordLine x_wordLeft x_lineFirst x_lineWords x_lineLeft x_lineSlack x_lineNotes x_lineColumn x_lineTop x_columnParagraph x_columnFirst x_columnLines x_columnNotes x_columnFilled) : ∀ (d m : Nat) (x_referenceWidth : Nat → Int32), m + d = 8 → (∀ i, i < m → x_referenceWidth i = 1) → wX_layOutIfStale_19 post x_tracking x_view x_slotNow x_stepsBack x_stepsAgain x_stale x_rounds x_columnCount (d + 1) (nI m) x_doc x_kept x_referenceWidth x_labelValue x_labelWidth x_lineCount x_gapBefore x_headNeeds x_groupNeeds x_wordLine x_wordLeft x_lineFirst x_lineWords x_lineLeft x_lineSlack x_lineNotes x_lineColumn x_lineTop x_columnParagraph x_columnFirst x_columnLines x_columnNotes x_columnFilled
  | 0, m, x_referenceWidth, hm, H => by
    obtain rfl : m = 8 := by omega
    exact br_t (nI_le (a := 8) (b := 8) (by omega) (by omega)) (h _ H)
  | d + 1, m, x_referenceWidth, hm, H => by
    refine br_f (nI_ge (b := 8) (by omega) (by omega)) ⟨vp_in_nI (by omega) (by omega), nm_r (by rw [nI_clamp (by omega)]) (nm_r (nI_1 m) (xw_19 h d (m + 1) _ (by omega) fun i hi => ?_))⟩
    by_cases e : i = m
    · subst e; exact pk_us
    · rw [pk_un e]; exact H i (by omega)
theorem xs_lay {post : SX → Prop} (hv : dc_V x_doc) (hs : x_stale = 0 ∨ x_stale = 1) (hok : x_stale = 0 → lx_OK x_doc x_view x_rounds x_columnCount x_labelValue x_lineCount x_wordLine x_wordLeft x_lineFirst x_lineWords x_lineLeft x_lineSlack x_lineNotes x_lineColumn x_lineTop x_columnParagraph x_columnFirst x_columnLines x_columnNotes x_columnFilled)
    (h : ∀ x_rounds x_columnCount x_referenceWidth x_labelValue x_labelWidth x_lineCount x_wordLine x_wordLeft x_lineFirst x_lineWords x_lineLeft x_lineSlack x_lineNotes x_gapBefore x_headNeeds x_groupNeeds x_lineColumn x_lineTop x_columnParagraph x_columnFirst x_columnLines x_columnNotes x_columnFilled, lx_OK x_doc x_view x_rounds x_columnCount x_labelValue x_lineCount x_wordLine x_wordLeft x_lineFirst x_lineWords x_lineLeft x_lineSlack x_lineNotes x_lineColumn x_lineTop x_columnParagraph x_columnFirst x_columnLines x_columnNotes x_columnFilled → post (x_tracking, x_view, x_slotNow, x_stepsBack, x_stepsAgain, 0, x_rounds, x_columnCount, x_doc, x_kept, x_referenceWidth, x_labelValue, x_labelWidth, x_lineCount, x_gapBefore, x_headNeeds, x_groupNeeds, x_wordLine, x_wordLeft, x_lineFirst, x_lineWords, x_lineLeft, x_lineSlack, x_lineNotes, x_lineColumn, x_lineTop, x_columnParagraph, x_columnFirst, x_columnLines, x_columnNotes, x_columnFilled)) : wpX_layOutIfStale post (x_tracking, x_view, x_slotNow, x_stepsBack, x_stepsAgain, x_stale, x_rounds, x_columnCount, x_doc, x_kept, x_referenceWidth, x_labelValue, x_labelWidth, x_lineCount, x_gapBefore, x_headNeeds, x_groupNeeds, x_wordLine, x_wordLeft, x_lineFirst, x_lineWords, x_lineLeft, x_lineSlack, x_lineNotes, x_lineColumn, x_lineTop, x_columnParagraph, x_columnFirst, x_columnLines, x_columnNotes, x_columnFilled) := by
  refine br_c (fun z => ?_) (fun z => ?_)
  · subst z
    exact h _ _ x_referenceWidth _ x_labelWidth _ _ _ _ _ _ _ _ x_gapBefore x_headNeeds x_groupNeeds _ _ _ _ _ _ _ (hok rfl)
  · refine xs_num hv ?_
    intro x_labelValue x_labelWidth HN
    refine ⟨9, xw_19 (fun x_referenceWidth hr => ⟨5, ?_⟩) 8 0 _ (by omega) (fun i hi => absurd hi (by omega))⟩
    exact xw_42 (d := 3) (r := 1) hv HN (fun _ _ _ _ _ _ _ _ _ _ _ _ _ _ _ _ _ _ _ _ _ G => h _ _ _ _ _ _ _ _ _ _ _ _ _ _ _ _ _ _ _ _ _ _ _ G) _ _ _ _ _ _ _ _ _ _ _ _ _ _ _ _ _ _ _ _ _ (by omega) (by omega) (fun i hi => absurd hi (by omega)) hr
