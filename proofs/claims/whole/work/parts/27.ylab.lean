/-- Y's arrays hold the document a -/
def yz_Z (a : Nat → Int32) (y_many y_pages y_styles y_styleOf y_markOf y_words y_width y_note y_status : Nat → Int32) : Prop := y_many 0 = a 0 ∧ (∀ j, j < 3 → y_pages j = a (1 + j)) ∧ (∀ j, j < 72 → y_styles j = a (4 + j)) ∧ (∀ p, p < 24 → y_styleOf p = a (76 + 51 * p)) ∧ (∀ p, p < 24 → y_markOf p = a (77 + 51 * p)) ∧ (∀ p, p < 24 → y_words p = a (78 + 51 * p))
  ∧ (∀ p w, p < 24 → w < 16 → y_width (16 * p + w) = a (79 + 51 * p + 3 * w)) ∧ (∀ p w, p < 24 → w < 16 → y_note (16 * p + w) = a (80 + 51 * p + 3 * w)) ∧ (∀ p w, p < 24 → w < 16 → y_status (16 * p + w) = a (81 + 51 * p + 3 * w))
theorem yz_of {A : Nat → Nat → Int32} {y_many y_pages y_styles y_styleOf y_markOf y_words y_width y_note y_status : Nat → Int32} (H : ya_A A y_many y_pages y_styles y_styleOf y_markOf y_words y_width y_note y_status) : yz_Z (A 0) y_many y_pages y_styles y_styleOf y_markOf y_words y_width y_note y_status := by
  refine ⟨(ya_many H (d := 0) (by omega)).symm, fun j hj => ?_, fun j hj => ?_, fun p hp => ?_, fun p hp => ?_, fun p hp => ?_, fun p w hp hw => ?_, fun p w hp hw => ?_, fun p w hp hw => ?_⟩
  · have z := ya_pages H (d := 0) (by omega) hj; rw [z]; exact congrArg y_pages (by omega)
  · have z := ya_styles H (d := 0) (by omega) hj; rw [z]; exact congrArg y_styles (by omega)
  · have z := ya_styleOf H (d := 0) (by omega) hp; rw [z]; exact congrArg y_styleOf (by omega)
  · have z := ya_markOf H (d := 0) (by omega) hp; rw [z]; exact congrArg y_markOf (by omega)
  · have z := ya_words H (d := 0) (by omega) hp; rw [z]; exact congrArg y_words (by omega)
  · have z := ya_width H (d := 0) (by omega) hp hw; rw [z]; exact congrArg y_width (by omega)
  · have z := ya_note H (d := 0) (by omega) hp hw; rw [z]; exact congrArg y_note (by omega)
  · have z := ya_status H (d := 0) (by omega) hp hw; rw [z]; exact congrArg y_status (by omega)
variable {y_doc y_tracking y_view y_done y_steps y_lines y_columns y_rounds y_known : Int32} {y_many y_styleOf y_markOf y_words y_width y_note y_status y_styles y_pages y_stepKind y_stepA y_stepB y_stepC y_stepOn y_ofParagraph y_firstWord y_wordsOf y_slack y_begin y_needs y_notes y_columnOf y_topOf y_firstLine y_label y_labelWide y_counter y_refWide y_nextWide y_columnLine y_columnLines y_filled y_foot : Nat → Int32} {a : Nat → Int32}
theorem yr_tr {post : Int32 → Prop} {x y : Int32} {p t : Nat} (hv : dc_V a) (Z : yz_Z a y_many y_pages y_styles y_styleOf y_markOf y_words y_width y_note y_status) (hx : x = nI p) (hp : p < 24) (hy : y = nI t) (ht : t < 12) (h : post (dc_v a p t)) : wpY_styleValue post (y_doc, y_tracking, y_view, y_done, y_steps, y_lines, y_columns, y_rounds, y_known, y_many, y_styleOf, y_markOf, y_words, y_width, y_note, y_status, y_styles, y_pages, y_stepKind, y_stepA, y_stepB, y_stepC, y_stepOn, y_ofParagraph, y_firstWord, y_wordsOf, y_slack, y_begin, y_needs, y_notes, y_columnOf, y_topOf, y_firstLine, y_label, y_labelWide, y_counter, y_refWide, y_nextWide, y_columnLine, y_columnLines, y_filled, y_foot) x y := by
  subst hx hy
  obtain ⟨es, h5⟩ := dc_Vs hv hp
  have e2 : (12 : Int32) * nI (dc_s a p) + nI t = nI (12 * dc_s a p + t) := by simp only [li_, pk_mul, nI_add]
  have e3 : y_styleOf (nI p).toNatClampNeg = nI (dc_s a p) := by rw [nI_clamp (by omega), Z.2.2.2.1 p hp, es]
  refine ⟨vp_in_nI (by omega) (by omega), ?_⟩
  rw [e3]
  refine ⟨ix_in e2 (by omega) (by omega), ?_⟩
  rw [ix_c e2 (by omega), Z.2.2.1 _ (by omega), show 4 + (12 * dc_s a p + t) = 4 + 12 * dc_s a p + t from by omega]; exact h
theorem yr_dg {post : Int32 → Prop} {x : Int32} (h : post (la_dg x)) : wpY_digits post x := by
  unfold la_dg at h
  refine br_c (fun z => br_c (fun y => ?_) (fun y => ?_)) (fun z => ?_)
  · rw [if_pos z, if_pos y] at h; exact h
  · rw [if_pos z, if_neg y] at h; exact h
  · rw [if_neg z] at h; exact h
theorem yr_cw {post : Int32 → Prop} (Z : yz_Z a y_many y_pages y_styles y_styleOf y_markOf y_words y_width y_note y_status) (h : post (la_cw a)) : wpY_columnWide post (y_doc, y_tracking, y_view, y_done, y_steps, y_lines, y_columns, y_rounds, y_known, y_many, y_styleOf, y_markOf, y_words, y_width, y_note, y_status, y_styles, y_pages, y_stepKind, y_stepA, y_stepB, y_stepC, y_stepOn, y_ofParagraph, y_firstWord, y_wordsOf, y_slack, y_begin, y_needs, y_notes, y_columnOf, y_topOf, y_firstLine, y_label, y_labelWide, y_counter, y_refWide, y_nextWide, y_columnLine, y_columnLines, y_filled, y_foot) := by
  have e0 := Z.2.1 0 (by omega)
  have e2 := Z.2.1 2 (by omega)
  have e2' : y_pages 2 = a 3 := e2
  have e0' : y_pages 0 = a 1 := e0
  unfold wpY_columnWide
  unfold la_cw at h
  refine br_c (fun z => ?_) (fun z => ⟨by decide, ?_⟩)
  · rw [e2'] at z; rw [if_pos z] at h; rw [e0']; exact h
  · rw [e2'] at z; rw [if_neg z] at h; rw [e0']; exact h
theorem yr_sh {post : Int32 → Prop} {x : Int32} {p w : Nat} (Z : yz_Z a y_many y_pages y_styles y_styleOf y_markOf y_words y_width y_note y_status) (hx : x = nI (16 * p + w)) (hp : p < 24) (hw : w < 16) (h1 : la_sh a y_view p w = true → post 1) (h0 : ¬ la_sh a y_view p w = true → post 0) : wpY_isShown post (y_doc, y_tracking, y_view, y_done, y_steps, y_lines, y_columns, y_rounds, y_known, y_many, y_styleOf, y_markOf, y_words, y_width, y_note, y_status, y_styles, y_pages, y_stepKind, y_stepA, y_stepB, y_stepC, y_stepOn, y_ofParagraph, y_firstWord, y_wordsOf, y_slack, y_begin, y_needs, y_notes, y_columnOf, y_topOf, y_firstLine, y_label, y_labelWide, y_counter, y_refWide, y_nextWide, y_columnLine, y_columnLines, y_filled, y_foot) x := by
  have es := Z.2.2.2.2.2.2.2.2 p w hp hw
  have j := ix_in (N := 768) hx (by omega) (by omega)
  unfold la_sh at h1 h0
  refine br_c (fun z => ?_) (fun z => br_c (fun y => ⟨j, ?_⟩) (fun y => ⟨j, ?_⟩))
  · rw [if_pos z] at h1; exact h1 rfl
  · rw [ix_c hx (by omega), es]
    refine br_c (fun q => ?_) (fun q => ?_)
    · rw [if_neg z, if_pos y, decide_eq_true q] at h0; exact h0 (by decide)
    · rw [if_neg z, if_pos y, decide_eq_false q] at h1; exact h1 rfl
  · rw [ix_c hx (by omega), es]
    refine br_c (fun q => ?_) (fun q => ?_)
    · rw [if_neg z, if_neg y, decide_eq_true q] at h0; exact h0 (by decide)
    · rw [if_neg z, if_neg y, decide_eq_false q] at h1; exact h1 rfl
theorem yr_wd {post : Int32 → Prop} {x : Int32} {p w : Nat} {rw : Nat → Int32} (hv : dc_V a) (Z : yz_Z a y_many y_pages y_styles y_styleOf y_markOf y_words y_width y_note y_status) (hr : ∀ m, m < 8 → y_refWide m = rw m) (hx : x = nI (16 * p + w)) (hp : p < 24) (hw : w < dc_w a p) (h : post (la_wd a rw p w)) : wpY_wide post (y_doc, y_tracking, y_view, y_done, y_steps, y_lines, y_columns, y_rounds, y_known, y_many, y_styleOf, y_markOf, y_words, y_width, y_note, y_status, y_styles, y_pages, y_stepKind, y_stepA, y_stepB, y_stepC, y_stepOn, y_ofParagraph, y_firstWord, y_wordsOf, y_slack, y_begin, y_needs, y_notes, y_columnOf, y_topOf, y_firstLine, y_label, y_labelWide, y_counter, y_refWide, y_nextWide, y_columnLine, y_columnLines, y_filled, y_foot) x := by
  have h16 := (dc_Vw hv hp).2
  have ew := Z.2.2.2.2.2.2.1 p w hp (by omega)
  have j := ix_in (N := 768) hx (by omega) (by omega)
  obtain ⟨b1, b2, b3⟩ := (dc_Vo hv hp hw).1
  refine ⟨j, ?_⟩
  rw [ix_c hx (by omega), ew]
  unfold la_wd at h
  refine br_c (fun z => ⟨j, ?_⟩) (fun z => ⟨j, ?_⟩)
  · have z0 : ¬ (0 : Int32) ≤ a (79 + 51 * p + 3 * w) := fun q => b3 (Int32.le_antisymm z q)
    rw [if_neg z0] at h
    obtain ⟨m, hm, e⟩ := la_neg b1 z0
    rw [e, nI_clamp (by omega)] at h ⊢
    refine ⟨vp_in_nI hm (by omega), ?_⟩
    rw [hr m hm]; exact h
  · have z0 : (0 : Int32) ≤ a (79 + 51 * p + 3 * w) := Int32.le_of_lt (Int32.not_le.mp z)
    rw [if_pos z0] at h; exact h
/-- labels -/
def yl_m (i : Nat) : Int32 := if i = 1 then 10000 else if i = 2 then 100 else 1
theorem yl_95s {post : SY → Prop} {J22 : Int32 → (Nat → Int32) → (Nat → Int32) → (Nat → Int32) → (Nat → Int32) → (Nat → Int32) → (Nat → Int32) → (Nat → Int32) → (Nat → Int32) → (Nat → Int32) → (Nat → Int32) → (Nat → Int32) → (Nat → Int32) → (Nat → Int32) → (Nat → Int32) → (Nat → Int32) → (Nat → Int32) → (Nat → Int32) → (Nat → Int32) → (Nat → Int32) → (Nat → Int32) → (Nat → Int32) → (Nat → Int32) → (Nat → Int32) → (Nat → Int32) → (Nat → Int32) → (Nat → Int32) → (Nat → Int32) → (Nat → Int32) → (Nat → Int32) → (Nat → Int32) → (Nat → Int32) → (Nat → Int32) → (Nat → Int32) → Prop} {p n i m : Nat} (hp : p < 24) (hi1 : 1 ≤ i) (hi : i ≤ n) (hn : n ≤ 3)
    (h : wY_findLabels_95 post J22 (nI p) (nI n) y_doc y_tracking y_view y_done y_steps y_lines y_columns y_rounds y_known m (nI (i + 1)) y_many y_styleOf y_markOf y_words y_width y_note y_status y_styles y_pages y_stepKind y_stepA y_stepB y_stepC y_stepOn y_ofParagraph y_firstWord y_wordsOf y_slack y_begin y_needs y_notes y_columnOf y_topOf y_firstLine (upd y_label p (y_label p + y_counter i * yl_m i)) (upd y_labelWide p (y_labelWide p + (la_dg (y_counter i) + 1))) y_counter y_refWide y_nextWide y_columnLine y_columnLines y_filled y_foot) :
    wY_findLabels_95 post J22 (nI p) (nI n) y_doc y_tracking y_view y_done y_steps y_lines y_columns y_rounds y_known (m + 1) (nI i) y_many y_styleOf y_markOf y_words y_width y_note y_status y_styles y_pages y_stepKind y_stepA y_stepB y_stepC y_stepOn y_ofParagraph y_firstWord y_wordsOf y_slack y_begin y_needs y_notes y_columnOf y_topOf y_firstLine y_label y_labelWide y_counter y_refWide y_nextWide y_columnLine y_columnLines y_filled y_foot := by
  have jp := vp_in_nI (n := p) (N := 24) hp (by omega)
  have cp := nI_clamp (n := p) (by omega)
  have ji := vp_in_nI (n := i) (N := 4) (by omega) (by omega)
  have ci := nI_clamp (n := i) (by omega)
  unfold yl_m at h
  refine br_f (nI_nlt (by omega) (by omega)) ⟨ji, ?_⟩
  rw [ci]
  refine yr_dg ⟨jp, jp, nm_r (by rw [cp]) ⟨jp, ji, pk_eq i 1 (fun z => ⟨jp, nm_r (by rw [cp]) (nm_r (nI_1 i) ?_)⟩) (fun z => pk_eq i 2 (fun y => ⟨jp, nm_r (by rw [cp]) (nm_r (nI_1 i) ?_)⟩) (fun y => ⟨jp, nm_r (by rw [cp]) (nm_r (nI_1 i) ?_)⟩))⟩⟩
  · rw [if_pos z] at h; exact h
  · rw [if_neg z, if_pos y] at h; exact h
  · rw [if_neg z, if_neg y] at h; exact h
theorem yl_N' {x : Int32} {m : Nat} (h : dc_N x m) : ∃ n, n ≤ m ∧ x = nI n := ⟨_, h.2, h.1⟩
def yl_N (a lv lw : Nat → Int32) (p : Nat) : Prop := ∀ q, q < p → lv q = la_lb a q ∧ lw q = la_lw a q
theorem yl_L {post : SY → Prop} (hv : dc_V a) (Z : yz_Z a y_many y_pages y_styles y_styleOf y_markOf y_words y_width y_note y_status) (h : ∀ y_label y_labelWide y_counter, yl_N a y_label y_labelWide (dc_n a) → post (y_doc, y_tracking, y_view, y_done, y_steps, y_lines, y_columns, y_rounds, y_known, y_many, y_styleOf, y_markOf, y_words, y_width, y_note, y_status, y_styles, y_pages, y_stepKind, y_stepA, y_stepB, y_stepC, y_stepOn, y_ofParagraph, y_firstWord, y_wordsOf, y_slack, y_begin, y_needs, y_notes, y_columnOf, y_topOf, y_firstLine, y_label, y_labelWide, y_counter, y_refWide, y_nextWide, y_columnLine, y_columnLines, y_filled, y_foot)) : ∀ (d p : Nat) (y_label y_labelWide y_counter : Nat → Int32), p + d = dc_n a → yl_N a y_label y_labelWide p → y_counter 1 = (la_ct a p).1 → y_counter 2 = (la_ct a p).2.1 → y_counter 3 = (la_ct a p).2.2 →
    wY_findLabels_22 post y_doc y_tracking y_view y_done y_steps y_lines y_columns y_rounds y_known (d + 1) (nI p) y_many y_styleOf y_markOf y_words y_width y_note y_status y_styles y_pages y_stepKind y_stepA y_stepB y_stepC y_stepOn y_ofParagraph y_firstWord y_wordsOf y_slack y_begin y_needs y_notes y_columnOf y_topOf y_firstLine y_label y_labelWide y_counter y_refWide y_nextWide y_columnLine y_columnLines y_filled y_foot
  | 0, p, y_label, y_labelWide, y_counter, hp, H, c1, c2, c3 => by
    obtain ⟨e0, h24⟩ := dc_Vn hv
    obtain rfl : p = dc_n a := by omega
    exact br_t (by rw [Z.1, e0]; exact nI_le (by omega) (by omega)) (h _ _ _ H)
  | d + 1, p, y_label, y_labelWide, y_counter, hp, H, c1, c2, c3 => by
    obtain ⟨e0, h24⟩ := dc_Vn hv
    have hp24 : p < 24 := by omega
    have jp := vp_in_nI (n := p) (N := 24) hp24 (by omega)
    have cp := nI_clamp (n := p) (by omega)
    obtain ⟨n, hn, en⟩ := yl_N' ((dc_Vt hv hp24 (t := 7) (by omega)).2.2.1 rfl)
    have ext : ∀ (f g : Nat → Int32), f p = la_lb a p → g p = la_lw a p → (∀ q, q ≠ p → f q = y_label q) → (∀ q, q ≠ p → g q = y_labelWide q) → yl_N a f g (p + 1) := fun f g e1 e2 e3 e4 q hq => by
      by_cases c : q = p
      · subst c; exact ⟨e1, e2⟩
      · rw [e3 q c, e4 q c]; exact H q (by omega)
    refine br_f (by rw [Z.1, e0]; exact nI_ge (by omega) (by omega)) (yr_tr hv Z rfl hp24 (t := 7) rfl (by omega) ⟨jp, nm_r (by rw [cp]) ⟨jp, nm_r (by rw [cp]) (br_c (fun z => ?_) (fun z => ?_))⟩⟩)
    · have ec : la_ct a (p + 1) = la_ct a p := if_pos z
      refine nm_r (nI_1 p) (yl_L hv Z h d (p + 1) _ _ _ (by omega) (ext _ _ ?_ ?_ (fun q hq => pk_un hq) (fun q hq => pk_un hq)) (by rw [ec]; exact c1) (by rw [ec]; exact c2) (by rw [ec]; exact c3))
      · rw [pk_us]; unfold la_lb; rw [if_pos z]
      · rw [pk_us]; unfold la_lw; rw [if_pos z]
    · have ec : la_ct a (p + 1) = ((la_ct a p).1 + (if dc_v a p 7 = 1 then 1 else 0), (if dc_v a p 7 = 1 then 0 else if dc_v a p 7 = 2 then (la_ct a p).2.1 + 1 else (la_ct a p).2.1), (if dc_v a p 7 = 3 then (la_ct a p).2.2 + 1 else 0)) := if_neg z
      have elb : la_lb a p = _ := if_neg z
      have elw : la_lw a p = _ := if_neg z
      rw [en] at z ⊢
      have jn := vp_in_nI (n := n) (N := 4) (by omega) (by omega)
      have cn := nI_clamp (n := n) (by omega)
      have next : ∀ (f g c : Nat → Int32), f p = la_lb a p → g p = la_lw a p → (∀ q, q ≠ p → f q = y_label q) → (∀ q, q ≠ p → g q = y_labelWide q) → c 1 = (la_ct a (p + 1)).1 → c 2 = (la_ct a (p + 1)).2.1 → c 3 = (la_ct a (p + 1)).2.2 → wY_findLabels_22 post y_doc y_tracking y_view y_done y_steps y_lines y_columns y_rounds y_known (d + 1) (nI (p + 1)) y_many y_styleOf y_markOf y_words y_width y_note y_status y_styles y_pages y_stepKind y_stepA y_stepB y_stepC y_stepOn y_ofParagraph y_firstWord y_wordsOf y_slack y_begin y_needs y_notes y_columnOf y_topOf y_firstLine f g c y_refWide y_nextWide y_columnLine y_columnLines y_filled y_foot := fun f g c e1 e2 e3 e4 e5 e6 e7 =>
        yl_L hv Z h d (p + 1) f g c (by omega) (ext f g e1 e2 e3 e4) e5 e6 e7
      have hn0 : n ≠ 0 := fun q => z (by rw [q]; rfl)
      have n3 : n = 1 ∨ n = 2 ∨ n = 3 := by omega
      have d12 : ¬ (nI 1 : Int32) = 2 := by decide
      have d13 : ¬ (nI 1 : Int32) = 3 := by decide
      have d21 : ¬ (nI 2 : Int32) = 1 := by decide
      have d23 : ¬ (nI 2 : Int32) = 3 := by decide
      have d31 : ¬ (nI 3 : Int32) = 1 := by decide
      have d32 : ¬ (nI 3 : Int32) = 2 := by decide
      have t11 : (nI 1 : Int32) = 1 := rfl
      have t22 : (nI 2 : Int32) = 2 := rfl
      have t33 : (nI 3 : Int32) = 3 := rfl
      have z0 : ∀ x : Int32, x * 100 + 0 = x * 100 := fun x => Int32.add_zero _
      rw [en] at ec elw
      refine ⟨jn, jn, nm_r (by rw [cn]) (nm_r (nI_1 n) ?_)⟩
      rcases n3 with rfl | rfl | rfl
      · rw [if_pos t11, if_pos t11, if_neg d13] at ec
        rw [ec] at elb elw
        refine ⟨3, br_f (nI_ge (a := 2) (b := 4) (by omega) (by omega)) ⟨vp_in_nI (n := 2) (by omega) (by omega), nm_r rfl (nm_r (nI_1 2) (br_f (nI_ge (a := 3) (b := 4) (by omega) (by omega)) ⟨vp_in_nI (n := 3) (by omega) (by omega), nm_r rfl (nm_r (nI_1 3) (br_t (nI_le (a := 4) (b := 4) (by omega) (by omega)) ⟨2, yl_95s (i := 1) hp24 (by omega) (by omega) (by omega) (br_t (nI_lt (a := 1) (b := 2) (by omega) (by omega)) (nm_r (nI_1 p) (next _ _ _ ?_ ?_ (fun q hq => by rw [pk_un hq, pk_un hq]) (fun q hq => by rw [pk_un hq, pk_un hq]) ?_ ?_ ?_)))⟩))⟩))⟩⟩
        · rw [pk_us, pk_us, elb]
          show 0 + (y_counter 1 + 1) * 10000 = ((la_ct a p).1 + 1) * 10000 + 0 * 100 + 0
          rw [c1, Int32.zero_add, Int32.zero_mul, Int32.add_zero, Int32.add_zero]
        · rw [pk_us, pk_us, elw]
          show 0 + (la_dg (y_counter 1 + 1) + 1) = (la_dg ((la_ct a p).1 + 1) + 1 + (if (2 : Int32) ≤ nI 1 then _ else 0)) + (if (3 : Int32) ≤ nI 1 then _ else 0)
          rw [c1, if_neg (by decide), if_neg (by decide), Int32.zero_add, Int32.add_zero, Int32.add_zero]
        · rw [ec]; show y_counter 1 + 1 = _; rw [c1]
        · rw [ec]; rfl
        · rw [ec]; rfl
      · rw [if_neg d21, if_neg d21, if_pos t22, if_neg d23] at ec
        rw [ec] at elb elw
        refine ⟨2, br_f (nI_ge (a := 3) (b := 4) (by omega) (by omega)) ⟨vp_in_nI (n := 3) (by omega) (by omega), nm_r rfl (nm_r (nI_1 3) (br_t (nI_le (a := 4) (b := 4) (by omega) (by omega)) ⟨3, yl_95s (i := 1) hp24 (by omega) (by omega) (by omega) (yl_95s (i := 2) hp24 (by omega) (by omega) (by omega) (br_t (nI_lt (a := 2) (b := 3) (by omega) (by omega)) (nm_r (nI_1 p) (next _ _ _ ?_ ?_ (fun q hq => by rw [pk_un hq, pk_un hq, pk_un hq]) (fun q hq => by rw [pk_un hq, pk_un hq, pk_un hq]) ?_ ?_ ?_))))⟩))⟩⟩
        · rw [pk_us, pk_us, pk_us, elb]
          show 0 + y_counter 1 * 10000 + (y_counter 2 + 1) * 100 = ((la_ct a p).1 + 0) * 10000 + ((la_ct a p).2.1 + 1) * 100 + 0
          rw [c1, c2, Int32.zero_add, Int32.add_zero, Int32.add_zero]
        · rw [pk_us, pk_us, pk_us, elw]
          show 0 + (la_dg (y_counter 1) + 1) + (la_dg (y_counter 2 + 1) + 1) = (la_dg ((la_ct a p).1 + 0) + 1 + (if (2 : Int32) ≤ nI 2 then la_dg ((la_ct a p).2.1 + 1) + 1 else 0)) + (if (3 : Int32) ≤ nI 2 then _ else 0)
          rw [c1, c2, if_pos (by decide), if_neg (by decide), Int32.zero_add, Int32.add_zero, Int32.add_zero]
        · rw [ec]; show y_counter 1 = (la_ct a p).1 + 0; rw [c1, Int32.add_zero]
        · rw [ec]; show y_counter 2 + 1 = _; rw [c2]
        · rw [ec]; rfl
      · rw [if_neg d31, if_neg d31, if_neg d32, if_pos t33] at ec
        rw [ec] at elb elw
        refine ⟨1, br_t (nI_le (a := 4) (b := 4) (by omega) (by omega)) ⟨4, yl_95s (i := 1) hp24 (by omega) (by omega) (by omega) (yl_95s (i := 2) hp24 (by omega) (by omega) (by omega) (yl_95s (i := 3) hp24 (by omega) (by omega) (by omega) (br_t (nI_lt (a := 3) (b := 4) (by omega) (by omega)) (nm_r (nI_1 p) (next _ _ _ ?_ ?_ (fun q hq => by rw [pk_un hq, pk_un hq, pk_un hq, pk_un hq]) (fun q hq => by rw [pk_un hq, pk_un hq, pk_un hq, pk_un hq]) ?_ ?_ ?_)))))⟩⟩
        · rw [pk_us, pk_us, pk_us, pk_us, elb]
          show 0 + y_counter 1 * 10000 + y_counter 2 * 100 + (y_counter 3 + 1) * 1 = ((la_ct a p).1 + 0) * 10000 + (la_ct a p).2.1 * 100 + ((la_ct a p).2.2 + 1)
          rw [c1, c2, c3, Int32.zero_add, Int32.add_zero, Int32.mul_one]
        · rw [pk_us, pk_us, pk_us, pk_us, elw]
          show 0 + (la_dg (y_counter 1) + 1) + (la_dg (y_counter 2) + 1) + (la_dg (y_counter 3 + 1) + 1) = (la_dg ((la_ct a p).1 + 0) + 1 + (if (2 : Int32) ≤ nI 3 then la_dg (la_ct a p).2.1 + 1 else 0)) + (if (3 : Int32) ≤ nI 3 then la_dg ((la_ct a p).2.2 + 1) + 1 else 0)
          rw [c1, c2, c3, if_pos (by decide), if_pos (by decide), Int32.zero_add, Int32.add_zero]
        · rw [ec]; show y_counter 1 = (la_ct a p).1 + 0; rw [c1, Int32.add_zero]
        · rw [ec]; show y_counter 2 = _; rw [c2]
        · rw [ec]; show y_counter 3 + 1 = _; rw [c3]
theorem ys_lab {post : SY → Prop} (hv : dc_V a) (Z : yz_Z a y_many y_pages y_styles y_styleOf y_markOf y_words y_width y_note y_status) (h : ∀ y_label y_labelWide y_counter, yl_N a y_label y_labelWide (dc_n a) → post (y_doc, y_tracking, y_view, y_done, y_steps, y_lines, y_columns, y_rounds, y_known, y_many, y_styleOf, y_markOf, y_words, y_width, y_note, y_status, y_styles, y_pages, y_stepKind, y_stepA, y_stepB, y_stepC, y_stepOn, y_ofParagraph, y_firstWord, y_wordsOf, y_slack, y_begin, y_needs, y_notes, y_columnOf, y_topOf, y_firstLine, y_label, y_labelWide, y_counter, y_refWide, y_nextWide, y_columnLine, y_columnLines, y_filled, y_foot)) : wpY_findLabels post (y_doc, y_tracking, y_view, y_done, y_steps, y_lines, y_columns, y_rounds, y_known, y_many, y_styleOf, y_markOf, y_words, y_width, y_note, y_status, y_styles, y_pages, y_stepKind, y_stepA, y_stepB, y_stepC, y_stepOn, y_ofParagraph, y_firstWord, y_wordsOf, y_slack, y_begin, y_needs, y_notes, y_columnOf, y_topOf, y_firstLine, y_label, y_labelWide, y_counter, y_refWide, y_nextWide, y_columnLine, y_columnLines, y_filled, y_foot) := by
  have e : ∀ i : Nat, i < 4 → ¬ (4 : Int32) ≤ nI i := fun i hi => nI_ge (b := 4) hi (by omega)
  refine ⟨5, br_f (e 0 (by omega)) ⟨vp_in_nI (n := 0) (by omega) (by omega), nm_r rfl (nm_r (nI_1 0) (br_f (e 1 (by omega)) ⟨vp_in_nI (n := 1) (by omega) (by omega), nm_r rfl (nm_r (nI_1 1) (br_f (e 2 (by omega)) ⟨vp_in_nI (n := 2) (by omega) (by omega), nm_r rfl (nm_r (nI_1 2) (br_f (e 3 (by omega)) ⟨vp_in_nI (n := 3) (by omega) (by omega), nm_r rfl (nm_r (nI_1 3) (br_t (nI_le (a := 4) (b := 4) (by omega) (by omega)) ⟨dc_n a + 1, ?_⟩))⟩))⟩))⟩))⟩⟩
  exact yl_L (p := 0) hv Z h (dc_n a) _ _ _ (by omega) (fun q hq => absurd hq (by omega)) rfl rfl rfl
