theorem re_load {x k a b : Nat → Int32} {t : Nat} (hx : x = a) (ha : dc_V a) (hb : dc_V b) (hk : ∀ i, i < 1300 → k (t + i) = b i) : st_b x 0 1300 (fun i => k (t + i)) = b := by
  funext i
  by_cases c : i < 1300
  · rw [st_in (by omega) (by omega)]; exact hk i c
  · rw [st_out (by omega), hx, ha.2.2.2.2.2 i (by omega), hb.2.2.2.2.2 i (by omega)]
theorem i_vc_step {k : Nat} {u : SX} {v : SY} (I : i_Rel k u v) (hk : k + 4 ≤ 2048) (v1 : Int32) : wpX_step (fun r u' => wpY_step (fun r' v' => r' = r ∧ i_Rel (k + 4) u' v') v (lw_bz v1)) u (lw_bz v1) := by
  obtain ⟨x_tracking, x_view, x_slotNow, x_stepsBack, x_stepsAgain, x_stale, x_rounds, x_columnCount, x_doc, x_kept, x_referenceWidth, x_labelValue, x_labelWidth, x_lineCount, x_gapBefore, x_headNeeds, x_groupNeeds, x_wordLine, x_wordLeft, x_lineFirst, x_lineWords, x_lineLeft, x_lineSlack, x_lineNotes, x_lineColumn, x_lineTop, x_columnParagraph, x_columnFirst, x_columnLines, x_columnNotes, x_columnFilled⟩ := u
  obtain ⟨y_doc, y_tracking, y_view, y_done, y_steps, y_lines, y_columns, y_rounds, y_known, y_many, y_styleOf, y_markOf, y_words, y_width, y_note, y_status, y_styles, y_pages, y_stepKind, y_stepA, y_stepB, y_stepC, y_stepOn, y_ofParagraph, y_firstWord, y_wordsOf, y_slack, y_begin, y_needs, y_notes, y_columnOf, y_topOf, y_firstLine, y_label, y_labelWide, y_counter, y_refWide, y_nextWide, y_columnLine, y_columnLines, y_filled, y_foot⟩ := v
  have I' := I
  obtain ⟨⟨i1, i2, i3⟩, ⟨b, g, s, D, S1, S2, S3, S4, S5, S6, S7, S8⟩, IL1, IL2, IL3, IL4, IL5⟩ := I
  obtain ⟨T1, T2, T3, T4, T5⟩ := S2
  have fresh : ∀ a, re_L x_view y_view 1 0 x_rounds x_columnCount y_rounds y_columns a x_labelValue x_lineCount x_wordLine x_wordLeft x_lineFirst x_lineWords x_lineLeft x_lineSlack x_lineNotes x_lineColumn x_lineTop x_columnParagraph x_columnFirst x_columnLines x_columnNotes x_columnFilled y_label y_refWide y_firstLine y_ofParagraph y_firstWord y_wordsOf y_slack y_begin y_needs y_notes y_columnOf y_topOf y_columnLine y_columnLines y_filled y_foot := fun a =>
    ⟨IL1, Or.inr rfl, Or.inl rfl, fun z => absurd z (by decide), fun z => absurd z (by decide)⟩
  refine xo_step S1.1 S1.2 T1 T2 T5 (fun z1 z2 => ?_) (fun z hg => ?_) (fun z hb => ?_)
  · exact yo_step (A := re_A (D b) (D 0)) i3 T3 T4 T5 S7 rfl S3 S4 (fun _ _ => ⟨rfl, I'⟩) (fun q1 q2 => absurd (z1 q1) (by omega)) (fun q1 q2 => absurd (z2 q1) (by omega))
  · refine yo_step (A := re_A (D b) (D 0)) i3 T3 T4 T5 S7 rfl S3 S4 (fun q _ => absurd (q z) (by omega)) (fun _ _ => ?_) (fun q => absurd z q)
    intro y_many y_pages y_styles y_styleOf y_markOf y_words y_width y_note y_status H
    rw [re_As] at H
    have ed := re_load (t := 1300 * ((s + 1) % 21)) S5 (S4 b (by omega)) (S4 (b + 1) (by omega)) (fun i hi => by
      have q := S6 (b + 1) i (by omega) hi
      rw [show (s + 21 + (b + 1) - b) % 21 = (s + 1) % 21 from by omega] at q; exact q)
    refine ⟨rfl, ⟨i1, i2, i3⟩, ⟨b + 1, g - 1, (s + 1) % 21, D, ⟨rfl, by omega⟩, ⟨rfl, rfl, rfl, T4.trans (congrArg nI (by omega)), by omega⟩, fun j hj => S3 j (by omega), fun j hj => S4 j (by omega), ed, fun j i hj hi => ?_, H, S8⟩, fresh _⟩
    rw [show ((s + 1) % 21 + 21 + j - (b + 1)) % 21 = (s + 21 + j - b) % 21 from by omega]
    exact S6 j i (by omega) hi
  · refine yo_step (A := re_A (D b) (D 0)) i3 T3 T4 T5 S7 rfl S3 S4 (fun _ q => absurd (q z) (by omega)) (fun q => absurd q z) (fun _ _ => ?_)
    intro y_many y_pages y_styles y_styleOf y_markOf y_words y_width y_note y_status H
    rw [re_As] at H
    have ed := re_load (t := 1300 * ((s + 20) % 21)) S5 (S4 b (by omega)) (S4 (b - 1) (by omega)) (fun i hi => by
      have q := S6 (b - 1) i (by omega) hi
      rw [show (s + 21 + (b - 1) - b) % 21 = (s + 20) % 21 from by omega] at q; exact q)
    refine ⟨rfl, ⟨i1, i2, i3⟩, ⟨b - 1, g + 1, (s + 20) % 21, D, ⟨rfl, by omega⟩, ⟨rfl, rfl, rfl, T4.trans (congrArg nI (by omega)), by omega⟩, fun j hj => S3 j (by omega), fun j hj => S4 j (by omega), ed, fun j i hj hi => ?_, H, S8⟩, fresh _⟩
    rw [show ((s + 20) % 21 + 21 + j - (b - 1)) % 21 = (s + 21 + j - b) % 21 from by omega]
    exact S6 j i (by omega) hi
/-- how both begin -/
def re_h : Nat → Nat → Int32
  | 0 => upd (upd (upd (fun _ => 0) 1 40) 2 20) 3 1
  | i + 1 => upd (re_h i) (9 + 12 * i) 1
def re_y (d : Nat) (g : Nat → Int32) : Nat → Nat → Int32
  | 0 => g
  | i + 1 => upd (re_y d g i) (72 * d + 12 * i + 5) 1
theorem re_hO : ∀ (n i : Nat), n ≤ 6 → 76 ≤ i → re_h n i = 0
  | 0, i, _, hi => by show upd (upd (upd (fun _ => 0) 1 40) 2 20) 3 1 i = 0; rw [pk_un (by omega), pk_un (by omega), pk_un (by omega)]
  | n + 1, i, hn, hi => by show upd (re_h n) (9 + 12 * n) 1 i = 0; rw [pk_un (by omega)]; exact re_hO n i (by omega) hi
theorem re_h0 : re_h 6 0 = 0 ∧ re_h 6 1 = 40 ∧ re_h 6 2 = 20 ∧ re_h 6 3 = 1 := by decide +kernel
theorem re_hS : ∀ s, s < 6 → ∀ t, t < 12 → re_h 6 (4 + 12 * s + t) = if t = 5 then 1 else 0 := by decide +kernel
theorem re_hY : ∀ d, d < 2 → ∀ j, j < 72 → re_h 6 (4 + j) = re_y 1 (re_y 0 (fun _ => 0) 6) 6 (72 * d + j) := by decide +kernel
theorem re_hV : dc_V (re_h 6) := by
  have z : dc_N 0 0 := ⟨by decide, by decide⟩
  have zm : ∀ m, m < 2 ^ 31 → dc_N 0 m := fun m hm => dc_Nm (n := 0) (by omega) hm
  refine ⟨by rw [re_h0.1]; exact zm 24 (by omega), by rw [re_h0.2.2.1]; exact dc_Nm (n := 20) (by omega) (by omega), Or.inl re_h0.2.2.2, fun s t hs ht => ?_, fun p hp => ?_, fun i hi => re_hO 6 i (by omega) (by omega)⟩
  · rw [re_hS s hs t ht]
    refine ⟨fun q => ?_, fun q => ?_, fun q => ?_, fun q => ?_⟩
    · rw [if_neg (by omega)]; exact zm 9 (by omega)
    · rw [if_pos q]; exact dc_Nm (n := 1) (by omega) (by omega)
    · rw [if_neg (by omega)]; exact zm 3 (by omega)
    · rw [if_neg (by omega)]; exact zm 1 (by omega)
  · have e : ∀ i, re_h 6 (76 + 51 * p + i) = 0 := fun i => re_hO 6 _ (by omega) (by omega)
    refine ⟨by show dc_N (re_h 6 _) 5; rw [e]; exact zm 5 (by omega), by show dc_N (re_h 6 _) 16; rw [e]; exact zm 16 (by omega), fun w hw => ?_⟩
    have hw' : w < (re_h 6 (76 + 51 * p + 2)).toNatClampNeg := hw
    rw [e] at hw'
    exact absurd hw' (by show ¬ w < 0; omega)
theorem re_hA : ya_A (re_A (re_h 6) (re_h 6)) (fun _ => 0) (upd (upd (upd (upd (upd (upd (fun _ => 0) 0 40) 1 20) 2 1) 3 40) 4 20) 5 1) (re_y 1 (re_y 0 (fun _ => 0) 6) 6) (fun _ => 0) (fun _ => 0) (fun _ => 0) (fun _ => 0) (fun _ => 0) (fun _ => 0) := by
  have e : ∀ d, re_A (re_h 6) (re_h 6) d = re_h 6 := fun d => by unfold re_A; split <;> rfl
  refine ⟨fun d hd => ?_, fun d j hd hj => ?_, fun d j hd hj => ?_, fun d p hd hp => ?_, fun d p hd hp => ?_, fun d p hd hp => ?_, fun d p w hd hp hw => ?_, fun d p w hd hp hw => ?_, fun d p w hd hp hw => ?_⟩
  · rw [e]; exact re_h0.1
  · rw [e]
    have q : ∀ d, d < 2 → ∀ j, j < 3 → re_h 6 (1 + j) = upd (upd (upd (upd (upd (upd (fun _ => 0) 0 40) 1 20) 2 1) 3 40) 4 20) 5 1 (3 * d + j) := by decide +kernel
    exact q d hd j hj
  · rw [e]; exact re_hY d hd j hj
  · rw [e]; exact re_hO 6 _ (by omega) (by omega)
  · rw [e]; exact re_hO 6 _ (by omega) (by omega)
  · rw [e]; exact re_hO 6 _ (by omega) (by omega)
  · rw [e]; exact re_hO 6 _ (by omega) (by omega)
  · rw [e]; exact re_hO 6 _ (by omega) (by omega)
  · rw [e]; exact re_hO 6 _ (by omega) (by omega)
variable {x_tracking x_view x_slotNow x_stepsBack x_stepsAgain x_stale x_rounds x_columnCount : Int32} {x_doc x_kept x_referenceWidth x_labelValue x_labelWidth x_lineCount x_gapBefore x_headNeeds x_groupNeeds x_wordLine x_wordLeft x_lineFirst x_lineWords x_lineLeft x_lineSlack x_lineNotes x_lineColumn x_lineTop x_columnParagraph x_columnFirst x_columnLines x_columnNotes x_columnFilled : Nat → Int32} {y_doc y_tracking y_view y_done y_steps y_lines y_columns y_rounds y_known : Int32} {y_many y_styleOf y_markOf y_words y_width y_note y_status y_styles y_pages y_stepKind y_stepA y_stepB y_stepC y_stepOn y_ofParagraph y_firstWord y_wordsOf y_slack y_begin y_needs y_notes y_columnOf y_topOf y_firstLine y_label y_labelWide y_counter y_refWide y_nextWide y_columnLine y_columnLines y_filled y_foot : Nat → Int32}
theorem re_xi {post : SX → Prop} (hs : x_slotNow = nI 0) (h : post (x_tracking, x_view, x_slotNow, x_stepsBack, x_stepsAgain, x_stale, x_rounds, x_columnCount, (re_h 6), (st_b x_kept (1300 * 0) 1300 (re_h 6)), x_referenceWidth, x_labelValue, x_labelWidth, x_lineCount, x_gapBefore, x_headNeeds, x_groupNeeds, x_wordLine, x_wordLeft, x_lineFirst, x_lineWords, x_lineLeft, x_lineSlack, x_lineNotes, x_lineColumn, x_lineTop, x_columnParagraph, x_columnFirst, x_columnLines, x_columnNotes, x_columnFilled)) : ∀ n i, i + n = 6 → wX_init_269 post x_tracking x_view x_slotNow x_stepsBack x_stepsAgain x_stale x_rounds x_columnCount (n + 1) (nI i) (re_h i) x_kept x_referenceWidth x_labelValue x_labelWidth x_lineCount x_gapBefore x_headNeeds x_groupNeeds x_wordLine x_wordLeft x_lineFirst x_lineWords x_lineLeft x_lineSlack x_lineNotes x_lineColumn x_lineTop x_columnParagraph x_columnFirst x_columnLines x_columnNotes x_columnFilled
  | 0, i, hi => by
    obtain rfl : i = 6 := by omega
    exact br_t (nI_le (a := 6) (b := 6) (by omega) (by omega)) (xs_save hs (by omega) h)
  | n + 1, i, hi => by
    have e : (4 : Int32) + nI i * 12 + 5 = nI (9 + 12 * i) := by simp only [li_, pk_mul, nI_add]; exact congrArg nI (by omega)
    exact br_f (nI_ge (b := 6) (by omega) (by omega)) ⟨ix_in e (by omega) (by omega), nm_r (e' := re_h (i + 1)) (by rw [ix_c e (by omega)]; rfl) (nm_r (nI_1 i) (re_xi hs h n (i + 1) (by omega)))⟩
theorem re_yi {post : SY → Prop} {d m : Nat} (hd : d < 2) (h : wY_init_285 post y_doc y_tracking y_view y_done y_steps y_lines y_columns y_rounds y_known m (nI (d + 1)) y_many y_styleOf y_markOf y_words y_width y_note y_status (re_y d y_styles 6) (upd (upd (upd y_pages (3 * d) 40) (3 * d + 1) 20) (3 * d + 2) 1) y_stepKind y_stepA y_stepB y_stepC y_stepOn y_ofParagraph y_firstWord y_wordsOf y_slack y_begin y_needs y_notes y_columnOf y_topOf y_firstLine y_label y_labelWide y_counter y_refWide y_nextWide y_columnLine y_columnLines y_filled y_foot) : ∀ n i, i + n = 6 → wY_init_292 post (wY_init_285 post y_doc y_tracking y_view y_done y_steps y_lines y_columns y_rounds y_known m) (nI d) y_doc y_tracking y_view y_done y_steps y_lines y_columns y_rounds y_known (n + 1) (nI i) y_many y_styleOf y_markOf y_words y_width y_note y_status (re_y d y_styles i) y_pages y_stepKind y_stepA y_stepB y_stepC y_stepOn y_ofParagraph y_firstWord y_wordsOf y_slack y_begin y_needs y_notes y_columnOf y_topOf y_firstLine y_label y_labelWide y_counter y_refWide y_nextWide y_columnLine y_columnLines y_filled y_foot
  | 0, i, hi => by
    obtain rfl : i = 6 := by omega
    have e0 : (3 : Int32) * nI d = nI (3 * d) := pk_mul 3 d
    have e1 : (3 : Int32) * nI d + 1 = nI (3 * d + 1) := by rw [e0]; exact nI_1 _
    have e2 : (3 : Int32) * nI d + 2 = nI (3 * d + 2) := by rw [e0]; exact ad_2 _
    exact br_t (nI_le (a := 6) (b := 6) (by omega) (by omega)) ⟨ix_in e0 (by omega) (by omega), nm_r (by rw [ix_c e0 (by omega)]) ⟨ix_in e1 (by omega) (by omega), nm_r (by rw [ix_c e1 (by omega)]) ⟨ix_in e2 (by omega) (by omega), nm_r (by rw [ix_c e2 (by omega)]) (nm_r (nI_1 d) h)⟩⟩⟩
  | n + 1, i, hi => by
    have e : (72 : Int32) * nI d + 12 * nI i + 5 = nI (72 * d + 12 * i + 5) := by simp only [li_, pk_mul, nI_add]
    exact br_f (nI_ge (b := 6) (by omega) (by omega)) ⟨ix_in e (by omega) (by omega), nm_r (e' := re_y d y_styles (i + 1)) (by rw [ix_c e (by omega)]; rfl) (nm_r (nI_1 i) (re_yi hd h n (i + 1) (by omega)))⟩
theorem i_vc0 : wpX_init (fun u => wpY_init (fun v => i_Rel 0 u v)) := by
  refine nm_e (nm_e (nm_e ⟨7, re_xi (i := 0) rfl ?_ 6 (by omega)⟩))
  refine ⟨3, br_f (nI_ge (a := 0) (b := 2) (by omega) (by omega)) ⟨7, ?_⟩⟩
  refine re_yi (d := 0) (i := 0) (m := 2) (by omega) ?_ 6 (by omega)
  refine br_f (nI_ge (a := 1) (b := 2) (by omega) (by omega)) ⟨7, ?_⟩
  refine re_yi (d := 1) (i := 0) (m := 1) (by omega) ?_ 6 (by omega)
  refine br_t (nI_le (a := 2) (b := 2) (by omega) (by omega)) ?_
  refine ⟨⟨rfl, Or.inl rfl, rfl⟩, ⟨0, 0, 0, fun _ => re_h 6, ⟨rfl, by omega⟩, ⟨rfl, rfl, rfl, rfl, by omega⟩, fun j hj => absurd hj (by omega), fun j hj => re_hV, rfl, fun j i hj hi => ?_, re_hA, fun j hj => Or.inl rfl⟩, rfl, Or.inr rfl, Or.inl rfl, fun z => absurd z (by decide), fun z => absurd z (by decide)⟩
  obtain rfl : j = 0 := by omega
  show st_b (fun _ => 0) (1300 * 0) 1300 (re_h 6) (1300 * ((0 + 21 + 0 - 0) % 21) + i) = re_h 6 i
  rw [st_in (by omega) (by omega)]
  exact congrArg (re_h 6) (by omega)
