variable {y_doc y_tracking y_view y_done y_steps y_lines y_columns y_rounds y_known : Int32} {y_many y_styleOf y_markOf y_words y_width y_note y_status y_styles y_pages y_stepKind y_stepA y_stepB y_stepC y_stepOn y_ofParagraph y_firstWord y_wordsOf y_slack y_begin y_needs y_notes y_columnOf y_topOf y_firstLine y_label y_labelWide y_counter y_refWide y_nextWide y_columnLine y_columnLines y_filled y_foot : Nat → Int32} {a rw : Nat → Int32}
theorem yw_50 {post : SY → Prop} (hv : dc_V a) (Z : yz_Z a y_many y_pages y_styles y_styleOf y_markOf y_words y_width y_note y_status) (HB : yb_B a y_view rw (dc_n a) 0 y_ofParagraph y_firstWord y_wordsOf y_slack y_begin y_needs y_notes) (HF : ∀ q, q ≤ dc_n a → y_firstLine q = nI (la_Fs a y_view rw q))
    (h : ∀ y_columns y_columnOf y_topOf y_columnLine y_columnLines y_filled y_foot, yf_C a y_view rw (la_fl a y_view rw (dc_n a)) (dc_n a) 0 y_columns y_columnOf y_topOf y_columnLine y_columnLines y_filled y_foot → post (y_doc, y_tracking, y_view, y_done, y_steps, y_lines, y_columns, y_rounds, y_known, y_many, y_styleOf, y_markOf, y_words, y_width, y_note, y_status, y_styles, y_pages, y_stepKind, y_stepA, y_stepB, y_stepC, y_stepOn, y_ofParagraph, y_firstWord, y_wordsOf, y_slack, y_begin, y_needs, y_notes, y_columnOf, y_topOf, y_firstLine, y_label, y_labelWide, y_counter, y_refWide, y_nextWide, y_columnLine, y_columnLines, y_filled, y_foot)) : ∀ (d p : Nat) (y_columns : Int32) (y_columnOf y_topOf y_columnLine y_columnLines y_filled y_foot : Nat → Int32), p + d = dc_n a → yf_C a y_view rw (la_fl a y_view rw p) p 0 y_columns y_columnOf y_topOf y_columnLine y_columnLines y_filled y_foot → wY_layOut_50 post (d + 1) (nI p) y_doc y_tracking y_view y_done y_steps y_lines y_columns y_rounds y_known y_many y_styleOf y_markOf y_words y_width y_note y_status y_styles y_pages y_stepKind y_stepA y_stepB y_stepC y_stepOn y_ofParagraph y_firstWord y_wordsOf y_slack y_begin y_needs y_notes y_columnOf y_topOf y_firstLine y_label y_labelWide y_counter y_refWide y_nextWide y_columnLine y_columnLines y_filled y_foot
  | 0, p, y_columns, y_columnOf, y_topOf, y_columnLine, y_columnLines, y_filled, y_foot, hp, H => by
    obtain ⟨e0, h24⟩ := dc_Vn hv
    obtain rfl : p = dc_n a := by omega
    exact br_t (by rw [Z.1, e0]; exact nI_le (by omega) (by omega)) (h _ _ _ _ _ _ _ H)
  | d + 1, p, y_columns, y_columnOf, y_topOf, y_columnLine, y_columnLines, y_filled, y_foot, hp, H => by
    obtain ⟨e0, h24⟩ := dc_Vn hv
    refine br_f (by rw [Z.1, e0]; exact nI_ge (by omega) (by omega)) (ys_place hv Z HB HF rfl (by omega) H ?_)
    intro y_columns y_columnOf y_topOf y_columnLine y_columnLines y_filled y_foot H2
    exact nm_r (nI_1 p) (yw_50 hv Z HB HF h d (p + 1) _ _ _ _ _ _ _ (by omega) H2)
theorem yw_12 {post : SY → Prop} (hv : dc_V a) (Z : yz_Z a y_many y_pages y_styles y_styleOf y_markOf y_words y_width y_note y_status) (hr : ∀ m, m < 8 → y_refWide m = rw m) (hlb : ∀ q, q < dc_n a → y_labelWide q = la_lw a q) (hc : y_columns = 0)
    (h : ∀ y_lines y_columns y_firstLine y_ofParagraph y_firstWord y_wordsOf y_slack y_begin y_needs y_notes y_columnOf y_topOf y_columnLine y_columnLines y_filled y_foot, yb_B a y_view rw (dc_n a) 0 y_ofParagraph y_firstWord y_wordsOf y_slack y_begin y_needs y_notes → (∀ q, q ≤ dc_n a → y_firstLine q = nI (la_Fs a y_view rw q)) → yf_C a y_view rw (la_fl a y_view rw (dc_n a)) (dc_n a) 0 y_columns y_columnOf y_topOf y_columnLine y_columnLines y_filled y_foot → post (y_doc, y_tracking, y_view, y_done, y_steps, y_lines, y_columns, y_rounds, y_known, y_many, y_styleOf, y_markOf, y_words, y_width, y_note, y_status, y_styles, y_pages, y_stepKind, y_stepA, y_stepB, y_stepC, y_stepOn, y_ofParagraph, y_firstWord, y_wordsOf, y_slack, y_begin, y_needs, y_notes, y_columnOf, y_topOf, y_firstLine, y_label, y_labelWide, y_counter, y_refWide, y_nextWide, y_columnLine, y_columnLines, y_filled, y_foot)) : ∀ (d p : Nat) (y_lines : Int32) (y_firstLine y_ofParagraph y_firstWord y_wordsOf y_slack y_begin y_needs y_notes : Nat → Int32), p + d = dc_n a → y_lines = nI (la_Fs a y_view rw p) → (∀ q, q < p → y_firstLine q = nI (la_Fs a y_view rw q)) → yb_B a y_view rw p 0 y_ofParagraph y_firstWord y_wordsOf y_slack y_begin y_needs y_notes →
    wY_layOut_12 post (d + 1) (nI p) y_doc y_tracking y_view y_done y_steps y_lines y_columns y_rounds y_known y_many y_styleOf y_markOf y_words y_width y_note y_status y_styles y_pages y_stepKind y_stepA y_stepB y_stepC y_stepOn y_ofParagraph y_firstWord y_wordsOf y_slack y_begin y_needs y_notes y_columnOf y_topOf y_firstLine y_label y_labelWide y_counter y_refWide y_nextWide y_columnLine y_columnLines y_filled y_foot
  | 0, p, y_lines, y_firstLine, y_ofParagraph, y_firstWord, y_wordsOf, y_slack, y_begin, y_needs, y_notes, hp, hl, HF, HB => by
    obtain ⟨e0, h24⟩ := dc_Vn hv
    obtain rfl : p = dc_n a := by omega
    have em : y_many 0 = nI (dc_n a) := by rw [Z.1, e0]
    refine br_t (by rw [em]; exact nI_le (by omega) (by omega)) ⟨ix_in em (by omega) (by omega), nm_r (e' := upd y_firstLine (dc_n a) (nI (la_Fs a y_view rw (dc_n a)))) (by rw [ix_c em (by omega), hl]) ⟨dc_n a + 1, ?_⟩⟩
    have HF2 : ∀ q, q ≤ dc_n a → upd y_firstLine (dc_n a) (nI (la_Fs a y_view rw (dc_n a))) q = nI (la_Fs a y_view rw q) := fun q hq => by
      by_cases e : q = dc_n a
      · rw [e, pk_us]
      · rw [pk_un e]; exact HF q (by omega)
    exact yw_50 (p := 0) hv Z HB HF2 (fun _ _ _ _ _ _ _ H => h _ _ _ _ _ _ _ _ _ _ _ _ _ _ _ _ HB HF2 H) (dc_n a) _ _ _ _ _ _ _ (by omega) ⟨hc, fun i hi => absurd hi (Nat.not_lt_zero _), fun q j hq => absurd hq (by omega)⟩
  | d + 1, p, y_lines, y_firstLine, y_ofParagraph, y_firstWord, y_wordsOf, y_slack, y_begin, y_needs, y_notes, hp, hl, HF, HB => by
    obtain ⟨e0, h24⟩ := dc_Vn hv
    refine br_f (by rw [Z.1, e0]; exact nI_ge (by omega) (by omega)) (ys_break hv Z hr (hlb p (by omega)) rfl (by omega) hl HB ?_)
    intro y_ofParagraph y_firstWord y_wordsOf y_slack y_begin y_needs y_notes H2
    refine nm_r (nI_1 p) (yw_12 hv Z hr hlb hc h d (p + 1) _ _ _ _ _ _ _ _ _ (by omega) rfl (fun q hq => ?_) H2)
    by_cases e : q = p
    · subst e; exact pk_us
    · rw [pk_un e]; exact HF q (by omega)
theorem ys_lay {post : SY → Prop} (hv : dc_V a) (Z : yz_Z a y_many y_pages y_styles y_styleOf y_markOf y_words y_width y_note y_status) (hr : ∀ m, m < 8 → y_refWide m = rw m) (hlb : ∀ q, q < dc_n a → y_labelWide q = la_lw a q)
    (h : ∀ y_lines y_columns y_firstLine y_ofParagraph y_firstWord y_wordsOf y_slack y_begin y_needs y_notes y_columnOf y_topOf y_columnLine y_columnLines y_filled y_foot, yb_B a y_view rw (dc_n a) 0 y_ofParagraph y_firstWord y_wordsOf y_slack y_begin y_needs y_notes → (∀ q, q ≤ dc_n a → y_firstLine q = nI (la_Fs a y_view rw q)) → yf_C a y_view rw (la_fl a y_view rw (dc_n a)) (dc_n a) 0 y_columns y_columnOf y_topOf y_columnLine y_columnLines y_filled y_foot → post (y_doc, y_tracking, y_view, y_done, y_steps, y_lines, y_columns, y_rounds, y_known, y_many, y_styleOf, y_markOf, y_words, y_width, y_note, y_status, y_styles, y_pages, y_stepKind, y_stepA, y_stepB, y_stepC, y_stepOn, y_ofParagraph, y_firstWord, y_wordsOf, y_slack, y_begin, y_needs, y_notes, y_columnOf, y_topOf, y_firstLine, y_label, y_labelWide, y_counter, y_refWide, y_nextWide, y_columnLine, y_columnLines, y_filled, y_foot)) : wpY_layOut post (y_doc, y_tracking, y_view, y_done, y_steps, y_lines, y_columns, y_rounds, y_known, y_many, y_styleOf, y_markOf, y_words, y_width, y_note, y_status, y_styles, y_pages, y_stepKind, y_stepA, y_stepB, y_stepC, y_stepOn, y_ofParagraph, y_firstWord, y_wordsOf, y_slack, y_begin, y_needs, y_notes, y_columnOf, y_topOf, y_firstLine, y_label, y_labelWide, y_counter, y_refWide, y_nextWide, y_columnLine, y_columnLines, y_filled, y_foot) :=
  ⟨dc_n a + 1, yw_12 (p := 0) hv Z hr hlb rfl h (dc_n a) _ _ _ _ _ _ _ _ _ (by omega) rfl (fun q hq => absurd hq (by omega)) (fun q j hq => absurd hq (by omega))⟩
/-- widths -/
theorem la_div1 (x : Int32) : x / 1 = x := by
  apply Int32.toInt_inj.mp
  rw [Int32.toInt_div, show (1 : Int32).toInt = 1 from by decide, Int.tdiv_one]
  exact Int32.toInt_bmod x
theorem yw_m {post : Int32 → SY → Prop} {m n : Nat} {x1 : Int32} (hv : dc_V a) (Z : yz_Z a y_many y_pages y_styles y_styleOf y_markOf y_words y_width y_note y_status) (hm : m < 8) (HF : ∀ q, q ≤ dc_n a → y_firstLine q = nI (la_Fs a y_view rw q)) (HC : yf_C a y_view rw (la_fl a y_view rw (dc_n a)) (dc_n a) 0 y_columns y_columnOf y_topOf y_columnLine y_columnLines y_filled y_foot) : ∀ (d p : Nat), p + d = dc_n a →
    wY_widths_4 post x1 y_doc y_tracking y_view y_done y_steps y_lines y_columns y_rounds y_known n (nI (m + 1)) y_many y_styleOf y_markOf y_words y_width y_note y_status y_styles y_pages y_stepKind y_stepA y_stepB y_stepC y_stepOn y_ofParagraph y_firstWord y_wordsOf y_slack y_begin y_needs y_notes y_columnOf y_topOf y_firstLine y_label y_labelWide y_counter y_refWide (upd y_nextWide m (la_pg a (la_fl a y_view rw (dc_n a)).2.2.2.2.2.2.1 m d p)) y_columnLine y_columnLines y_filled y_foot → wY_widths_12 post (wY_widths_4 post x1 y_doc y_tracking y_view y_done y_steps y_lines y_columns y_rounds y_known n) x1 (nI m) y_doc y_tracking y_view y_done y_steps y_lines y_columns y_rounds y_known y_many y_styleOf y_markOf y_words y_width y_note y_status y_styles y_pages y_stepKind y_stepA y_stepB y_stepC y_stepOn y_ofParagraph y_firstWord y_wordsOf y_slack y_begin y_needs y_notes y_columnOf y_topOf y_firstLine y_label y_labelWide y_counter y_refWide y_nextWide y_columnLine y_columnLines y_filled y_foot (d + 1) (nI p)
  | d, p, hp, h => by
    obtain ⟨e0, h24⟩ := dc_Vn hv
    have em : y_many 0 = nI (dc_n a) := by rw [Z.1, e0]
    have jm := vp_in_nI (n := m) (N := 8) hm (by omega)
    have cm := nI_clamp (n := m) (by omega)
    have f72 : ∀ z0 : Int32, la_dg z0 = la_pg a (la_fl a y_view rw (dc_n a)).2.2.2.2.2.2.1 m d p → wY_widths_72 post (wY_widths_4 post x1 y_doc y_tracking y_view y_done y_steps y_lines y_columns y_rounds y_known n) x1 (nI m) z0 y_doc y_tracking y_view y_done y_steps y_lines y_columns y_rounds y_known y_many y_styleOf y_markOf y_words y_width y_note y_status y_styles y_pages y_stepKind y_stepA y_stepB y_stepC y_stepOn y_ofParagraph y_firstWord y_wordsOf y_slack y_begin y_needs y_notes y_columnOf y_topOf y_firstLine y_label y_labelWide y_counter y_refWide y_nextWide y_columnLine y_columnLines y_filled y_foot := fun z0 ez => by
      unfold wY_widths_72
      exact yr_dg ⟨jm, nm_r (by rw [cm, ez]) (nm_r (nI_1 m) h)⟩
    match d with
    | 0 =>
      refine br_t (by rw [em]; exact nI_le (by omega) (by omega)) (br_t (by rw [em]; exact congrArg nI (by omega)) (f72 1 ?_))
      show la_dg 1 = 1
      decide
    | d + 1 =>
      have hF := la_FsB (rw := rw) (vw := y_view) hv (p := p) (by omega)
      have hn := la_nlP (a := a) (rw := rw) (vw := y_view) (dc_Vw hv (p := p) (by omega)).2
      refine br_f (by rw [em]; exact nI_ge (by omega) (by omega)) ⟨vp_in_nI (by omega) (by omega), ?_⟩
      rw [nI_clamp (by omega), Z.2.2.2.2.1 p (by omega)]
      refine br_c (fun z => ?_) (fun z => nm_r (nI_1 p) (yw_m hv Z hm HF HC d (p + 1) (by omega) ?_))
      · have e2 : y_pages 2 = a 3 := Z.2.1 2 (by omega)
        have el : y_firstLine (nI p).toNatClampNeg = nI (la_Fs a y_view rw p) := by rw [nI_clamp (by omega), HF p (by omega)]
        have ecol := (HC.2.2 p 0 (Or.inl ⟨by omega, by omega⟩)).1
        rw [Nat.add_zero, Nat.add_zero] at ecol
        have epg : la_pg a (la_fl a y_view rw (dc_n a)).2.2.2.2.2.2.1 m (d + 1) p = _ := if_pos z
        unfold wY_widths_38
        refine br_f ?_ ⟨vp_in_nI (by omega) (by omega), ?_⟩
        · rw [em]; exact fun q => absurd ((nI_eq (by omega) (by omega)).mp q) (by omega)
        · rw [el]
          refine ⟨vp_in_nI (by omega) (by omega), ?_, ?_⟩
          · rw [e2]; rcases hv.2.2.1 with q | q <;> (rw [q]; decide)
          · rw [nI_clamp (by omega), ecol, e2]
            refine f72 _ ?_
            rw [epg]
            rcases hv.2.2.1 with q | q
            · rw [q, if_neg (by decide), la_div1]
            · rw [q, if_pos rfl]
      · have epg : la_pg a (la_fl a y_view rw (dc_n a)).2.2.2.2.2.2.1 m (d + 1) p = _ := if_neg z
        rw [epg] at h; exact h
  termination_by d => d
theorem yw_193 {post : Int32 → SY → Prop} (h : ∀ y_refWide, (∀ m, m < 8 → y_refWide m = y_nextWide m) → post 1 (y_doc, y_tracking, y_view, y_done, y_steps, y_lines, y_columns, y_rounds, y_known, y_many, y_styleOf, y_markOf, y_words, y_width, y_note, y_status, y_styles, y_pages, y_stepKind, y_stepA, y_stepB, y_stepC, y_stepOn, y_ofParagraph, y_firstWord, y_wordsOf, y_slack, y_begin, y_needs, y_notes, y_columnOf, y_topOf, y_firstLine, y_label, y_labelWide, y_counter, y_refWide, y_nextWide, y_columnLine, y_columnLines, y_filled, y_foot)) : ∀ (d m : Nat) (y_refWide : Nat → Int32), m + d = 8 → (∀ i, i < m → y_refWide i = y_nextWide i) → wY_widths_193 post y_doc y_tracking y_view y_done y_steps y_lines y_columns y_rounds y_known (d + 1) (nI m) y_many y_styleOf y_markOf y_words y_width y_note y_status y_styles y_pages y_stepKind y_stepA y_stepB y_stepC y_stepOn y_ofParagraph y_firstWord y_wordsOf y_slack y_begin y_needs y_notes y_columnOf y_topOf y_firstLine y_label y_labelWide y_counter y_refWide y_nextWide y_columnLine y_columnLines y_filled y_foot
  | 0, m, y_refWide, hm, H => by
    obtain rfl : m = 8 := by omega
    exact br_t (nI_le (a := 8) (b := 8) (by omega) (by omega)) (h _ H)
  | d + 1, m, y_refWide, hm, H => by
    have jm := vp_in_nI (n := m) (N := 8) (by omega) (by omega)
    refine br_f (nI_ge (b := 8) (by omega) (by omega)) ⟨jm, jm, nm_r (by rw [nI_clamp (by omega)]) (nm_r (nI_1 m) (yw_193 h d (m + 1) _ (by omega) fun i hi => ?_))⟩
    by_cases e : i = m
    · subst e; exact pk_us
    · rw [pk_un e]; exact H i (by omega)
theorem la_inv {x : Int32} {m : Nat} (hm : m < 8) : (-1) - x = nI m ↔ x = -1 - nI m := by
  constructor
  · intro e; rw [← e]; grind
  · intro e; rw [e]; grind
theorem la_invN {m : Nat} (hm : m < 8) : ¬ (0 : Int32) ≤ -1 - nI m := by
  rw [Int32.le_iff_toInt_le, Int32.toInt_sub, nI_toInt (by omega), show (-1 : Int32).toInt = -1 from by decide, show (0 : Int32).toInt = 0 from by decide, Int.bmod_eq_of_le (by omega) (by omega)]
  omega
theorem yw_93 {post : Int32 → SY → Prop} (hv : dc_V a) (Z : yz_Z a y_many y_pages y_styles y_styleOf y_markOf y_words y_width y_note y_status) (hr : ∀ m, m < 8 → y_refWide m = rw m) (hnx : ∀ m, m < 8 → y_nextWide m = la_nx a y_view rw m)
    (h1 : la_ch a y_view rw → ∃ n, wY_widths_193 post y_doc y_tracking y_view y_done y_steps y_lines y_columns y_rounds y_known n 0 y_many y_styleOf y_markOf y_words y_width y_note y_status y_styles y_pages y_stepKind y_stepA y_stepB y_stepC y_stepOn y_ofParagraph y_firstWord y_wordsOf y_slack y_begin y_needs y_notes y_columnOf y_topOf y_firstLine y_label y_labelWide y_counter y_refWide y_nextWide y_columnLine y_columnLines y_filled y_foot) (h0 : ¬ la_ch a y_view rw → post 0 (y_doc, y_tracking, y_view, y_done, y_steps, y_lines, y_columns, y_rounds, y_known, y_many, y_styleOf, y_markOf, y_words, y_width, y_note, y_status, y_styles, y_pages, y_stepKind, y_stepA, y_stepB, y_stepC, y_stepOn, y_ofParagraph, y_firstWord, y_wordsOf, y_slack, y_begin, y_needs, y_notes, y_columnOf, y_topOf, y_firstLine, y_label, y_labelWide, y_counter, y_refWide, y_nextWide, y_columnLine, y_columnLines, y_filled, y_foot)) : ∀ (d k : Nat) (x1 : Int32), k + d = 384 →
    ((x1 = 1 ∧ la_ch a y_view rw) ∨ (x1 = 0 ∧ ∀ q v m, 16 * q + v < k → q < dc_n a → v < dc_w a q → m < 8 → a (79 + 51 * q + 3 * v) = -1 - nI m → la_nx a y_view rw m = rw m)) → wY_widths_93 post y_doc y_tracking y_view y_done y_steps y_lines y_columns y_rounds y_known y_many y_styleOf y_markOf y_words y_width y_note y_status y_styles y_pages y_stepKind y_stepA y_stepB y_stepC y_stepOn y_ofParagraph y_firstWord y_wordsOf y_slack y_begin y_needs y_notes y_columnOf y_topOf y_firstLine y_label y_labelWide y_counter y_refWide y_nextWide y_columnLine y_columnLines y_filled y_foot (d + 1) x1 (nI k)
  | 0, k, x1, hk, H => by
    obtain rfl : k = 384 := by omega
    refine br_t (nI_le (a := 384) (b := 384) (by omega) (by omega)) ?_
    rcases H with ⟨rfl, c⟩ | ⟨rfl, c⟩
    · exact br_f (by decide) (h1 c)
    · refine br_t rfl (h0 ?_)
      rintro ⟨m, m1, m2, q, v, m3, m4, m5⟩
      have h24 := (dc_Vn hv).2
      have h16 := (dc_Vw hv (p := q) (by omega)).2
      exact m2 (c q v m (by omega) m3 m4 m1 m5)
  | d + 1, k, x1, hk, H => by
    obtain ⟨e0, h24⟩ := dc_Vn hv
    have em : y_many 0 = nI (dc_n a) := by rw [Z.1, e0]
    have ed : nI k / 16 = nI (k / 16) := pk_div (d := 16) (by omega) (by omega) (by omega)
    have er : nI k - nI (k / 16) * 16 = nI (k % 16) := by rw [← ed]; exact pk_rem (d := 16) (by omega) (by omega) (by omega)
    have ek : k = 16 * (k / 16) + k % 16 := by omega
    have jk := vp_in_nI (n := k) (N := 768) (by omega) (by omega)
    have ck := nI_clamp (n := k) (by omega)
    have skip : ¬ (k / 16 < dc_n a ∧ k % 16 < dc_w a (k / 16) ∧ ∃ m, m < 8 ∧ a (79 + 51 * (k / 16) + 3 * (k % 16)) = -1 - nI m ∧ ¬ la_nx a y_view rw m = rw m) → ((x1 = 1 ∧ la_ch a y_view rw) ∨ (x1 = 0 ∧ ∀ q v m, 16 * q + v < k + 1 → q < dc_n a → v < dc_w a q → m < 8 → a (79 + 51 * q + 3 * v) = -1 - nI m → la_nx a y_view rw m = rw m)) := fun z => by
      rcases H with c | ⟨c1, c2⟩
      · exact Or.inl c
      · refine Or.inr ⟨c1, fun q v m g1 g2 g3 g4 g5 => ?_⟩
        by_cases e : 16 * q + v < k
        · exact c2 q v m e g2 g3 g4 g5
        · have h16 := (dc_Vw hv (p := q) (by omega)).2
          have eq1 : k / 16 = q := by omega
          have eq2 : k % 16 = v := by omega
          rw [eq1, eq2] at z
          by_cases y : la_nx a y_view rw m = rw m
          · exact y
          · exact absurd ⟨g2, g3, m, g4, g5, y⟩ z
    have next := fun y1 H' => yw_93 hv Z hr hnx h1 h0 d (k + 1) y1 (by omega) H'
    have f142 : ¬ (k / 16 < dc_n a ∧ k % 16 < dc_w a (k / 16) ∧ ∃ m, m < 8 ∧ a (79 + 51 * (k / 16) + 3 * (k % 16)) = -1 - nI m ∧ ¬ la_nx a y_view rw m = rw m) → wY_widths_142 post (wY_widths_93 post y_doc y_tracking y_view y_done y_steps y_lines y_columns y_rounds y_known y_many y_styleOf y_markOf y_words y_width y_note y_status y_styles y_pages y_stepKind y_stepA y_stepB y_stepC y_stepOn y_ofParagraph y_firstWord y_wordsOf y_slack y_begin y_needs y_notes y_columnOf y_topOf y_firstLine y_label y_labelWide y_counter y_refWide y_nextWide y_columnLine y_columnLines y_filled y_foot (d + 1)) x1 (nI k) y_doc y_tracking y_view y_done y_steps y_lines y_columns y_rounds y_known y_many y_styleOf y_markOf y_words y_width y_note y_status y_styles y_pages y_stepKind y_stepA y_stepB y_stepC y_stepOn y_ofParagraph y_firstWord y_wordsOf y_slack y_begin y_needs y_notes y_columnOf y_topOf y_firstLine y_label y_labelWide y_counter y_refWide y_nextWide y_columnLine y_columnLines y_filled y_foot := fun z =>
      br_t rfl (nm_r (nI_1 k) (next x1 (skip z)))
    refine br_f (nI_ge (b := 384) (by omega) (by omega)) ⟨by decide, ?_⟩
    rw [ed, em]
    refine pk_le (dc_n a) (k / 16) (fun z => f142 fun q => absurd q.1 (by omega)) (fun z => ⟨by decide, by decide, vp_in_nI (by omega) (by omega), ?_⟩)
    obtain ⟨ew, h16⟩ := dc_Vw hv (p := k / 16) (by omega)
    rw [er, nI_clamp (by omega), Z.2.2.2.2.2.1 (k / 16) (by omega), ew]
    refine pk_le (dc_w a (k / 16)) (k % 16) (fun y => f142 fun q => absurd q.2.1 (by omega)) (fun y => ⟨jk, ?_⟩)
    have ewi : y_width (nI k).toNatClampNeg = a (79 + 51 * (k / 16) + 3 * (k % 16)) := by
      rw [ck, ← Z.2.2.2.2.2.2.1 (k / 16) (k % 16) (by omega) (by omega)]; exact congrArg y_width ek
    rw [ewi]
    refine br_c (fun w => f142 fun q => ?_) (fun w => br_f (by decide) ⟨jk, ?_⟩)
    · obtain ⟨_, _, m, m1, m2, _⟩ := q
      rw [m2] at w; exact la_invN m1 w
    · obtain ⟨m, hm, e⟩ := la_neg (dc_Vo hv (p := k / 16) (by omega) y).1.1 w
      have e' := (la_inv hm).mp e
      have jm := vp_in_nI (n := m) (N := 8) hm (by omega)
      rw [ewi, e]
      refine ⟨jm, jk, jm, ?_⟩
      rw [nI_clamp (by omega), hnx m hm, hr m hm]
      refine br_c (fun v => nm_r (nI_1 k) (next x1 (skip fun q => ?_))) (fun v => nm_r (nI_1 k) (next 1 (Or.inl ⟨rfl, m, hm, v, k / 16, k % 16, z, y, e'⟩)))
      obtain ⟨_, _, m', m1, m2, m3⟩ := q
      have e2 := (la_inv m1).mpr m2
      rw [e] at e2
      have := (nI_eq (by omega) (by omega)).mp e2
      subst this
      exact m3 v
theorem yw_4 {post : Int32 → SY → Prop} (hv : dc_V a) (Z : yz_Z a y_many y_pages y_styles y_styleOf y_markOf y_words y_width y_note y_status) (hr : ∀ m, m < 8 → y_refWide m = rw m) (HF : ∀ q, q ≤ dc_n a → y_firstLine q = nI (la_Fs a y_view rw q)) (HC : yf_C a y_view rw (la_fl a y_view rw (dc_n a)) (dc_n a) 0 y_columns y_columnOf y_topOf y_columnLine y_columnLines y_filled y_foot)
    (h1 : la_ch a y_view rw → ∀ y_refWide y_nextWide, (∀ m, m < 8 → y_refWide m = la_nx a y_view rw m) → post 1 (y_doc, y_tracking, y_view, y_done, y_steps, y_lines, y_columns, y_rounds, y_known, y_many, y_styleOf, y_markOf, y_words, y_width, y_note, y_status, y_styles, y_pages, y_stepKind, y_stepA, y_stepB, y_stepC, y_stepOn, y_ofParagraph, y_firstWord, y_wordsOf, y_slack, y_begin, y_needs, y_notes, y_columnOf, y_topOf, y_firstLine, y_label, y_labelWide, y_counter, y_refWide, y_nextWide, y_columnLine, y_columnLines, y_filled, y_foot)) (h0 : ¬ la_ch a y_view rw → ∀ y_nextWide, post 0 (y_doc, y_tracking, y_view, y_done, y_steps, y_lines, y_columns, y_rounds, y_known, y_many, y_styleOf, y_markOf, y_words, y_width, y_note, y_status, y_styles, y_pages, y_stepKind, y_stepA, y_stepB, y_stepC, y_stepOn, y_ofParagraph, y_firstWord, y_wordsOf, y_slack, y_begin, y_needs, y_notes, y_columnOf, y_topOf, y_firstLine, y_label, y_labelWide, y_counter, y_refWide, y_nextWide, y_columnLine, y_columnLines, y_filled, y_foot)) : ∀ (d m : Nat) (y_nextWide : Nat → Int32), m + d = 8 → (∀ i, i < m → y_nextWide i = la_nx a y_view rw i) → wY_widths_4 post 0 y_doc y_tracking y_view y_done y_steps y_lines y_columns y_rounds y_known (d + 1) (nI m) y_many y_styleOf y_markOf y_words y_width y_note y_status y_styles y_pages y_stepKind y_stepA y_stepB y_stepC y_stepOn y_ofParagraph y_firstWord y_wordsOf y_slack y_begin y_needs y_notes y_columnOf y_topOf y_firstLine y_label y_labelWide y_counter y_refWide y_nextWide y_columnLine y_columnLines y_filled y_foot
  | 0, m, y_nextWide, hm, H => by
    obtain rfl : m = 8 := by omega
    refine br_t (nI_le (a := 8) (b := 8) (by omega) (by omega)) ⟨385, ?_⟩
    refine yw_93 (k := 0) hv Z hr H (fun c => ⟨9, ?_⟩) (fun c => h0 c _) 384 0 (by omega) (Or.inr ⟨rfl, fun q v m g => absurd g (by omega)⟩)
    exact yw_193 (m := 0) (fun y_refWide G => h1 c _ _ fun m hm => (G m hm).trans (H m hm)) 8 _ (by omega) (fun i hi => absurd hi (by omega))
  | d + 1, m, y_nextWide, hm, H => by
    refine br_f (nI_ge (b := 8) (by omega) (by omega)) ⟨dc_n a + 1, ?_⟩
    refine yw_m (p := 0) hv Z (by omega) HF HC (dc_n a) (by omega) (yw_4 hv Z hr HF HC h1 h0 d (m + 1) _ (by omega) fun i hi => ?_)
    by_cases e : i = m
    · subst e; exact pk_us
    · rw [pk_un e]; exact H i (by omega)
theorem ys_wid {post : Int32 → SY → Prop} (hv : dc_V a) (Z : yz_Z a y_many y_pages y_styles y_styleOf y_markOf y_words y_width y_note y_status) (hr : ∀ m, m < 8 → y_refWide m = rw m) (HF : ∀ q, q ≤ dc_n a → y_firstLine q = nI (la_Fs a y_view rw q)) (HC : yf_C a y_view rw (la_fl a y_view rw (dc_n a)) (dc_n a) 0 y_columns y_columnOf y_topOf y_columnLine y_columnLines y_filled y_foot)
    (h1 : la_ch a y_view rw → ∀ y_refWide y_nextWide, (∀ m, m < 8 → y_refWide m = la_nx a y_view rw m) → post 1 (y_doc, y_tracking, y_view, y_done, y_steps, y_lines, y_columns, y_rounds, y_known, y_many, y_styleOf, y_markOf, y_words, y_width, y_note, y_status, y_styles, y_pages, y_stepKind, y_stepA, y_stepB, y_stepC, y_stepOn, y_ofParagraph, y_firstWord, y_wordsOf, y_slack, y_begin, y_needs, y_notes, y_columnOf, y_topOf, y_firstLine, y_label, y_labelWide, y_counter, y_refWide, y_nextWide, y_columnLine, y_columnLines, y_filled, y_foot)) (h0 : ¬ la_ch a y_view rw → ∀ y_nextWide, post 0 (y_doc, y_tracking, y_view, y_done, y_steps, y_lines, y_columns, y_rounds, y_known, y_many, y_styleOf, y_markOf, y_words, y_width, y_note, y_status, y_styles, y_pages, y_stepKind, y_stepA, y_stepB, y_stepC, y_stepOn, y_ofParagraph, y_firstWord, y_wordsOf, y_slack, y_begin, y_needs, y_notes, y_columnOf, y_topOf, y_firstLine, y_label, y_labelWide, y_counter, y_refWide, y_nextWide, y_columnLine, y_columnLines, y_filled, y_foot)) : wpY_widths post (y_doc, y_tracking, y_view, y_done, y_steps, y_lines, y_columns, y_rounds, y_known, y_many, y_styleOf, y_markOf, y_words, y_width, y_note, y_status, y_styles, y_pages, y_stepKind, y_stepA, y_stepB, y_stepC, y_stepOn, y_ofParagraph, y_firstWord, y_wordsOf, y_slack, y_begin, y_needs, y_notes, y_columnOf, y_topOf, y_firstLine, y_label, y_labelWide, y_counter, y_refWide, y_nextWide, y_columnLine, y_columnLines, y_filled, y_foot) :=
  ⟨9, yw_4 (m := 0) hv Z hr HF HC h1 h0 8 _ (by omega) (fun i hi => absurd hi (by omega))⟩
