theorem up_2 {g : Nat → Int32} {l : Nat} {x y : Int32} : upd (upd g l x) l y = upd g l y := by
  funext i
  by_cases e : i = l
  · subst e; rw [pk_us, pk_us]
  · rw [pk_un e, pk_un e, pk_un e]
variable {y_doc y_tracking y_view y_done y_steps y_lines y_columns y_rounds y_known : Int32} {y_many y_styleOf y_markOf y_words y_width y_note y_status y_styles y_pages y_stepKind y_stepA y_stepB y_stepC y_stepOn y_ofParagraph y_firstWord y_wordsOf y_slack y_begin y_needs y_notes y_columnOf y_topOf y_firstLine y_label y_labelWide y_counter y_refWide y_nextWide y_columnLine y_columnLines y_filled y_foot : Nat → Int32} {a : Nat → Int32}
theorem yt_L {post : Int32 → SY → Prop} {p l : Nat} {l0 rm : Int32} {rw : Nat → Int32} (hv : dc_V a) (Z : yz_Z a y_many y_pages y_styles y_styleOf y_markOf y_words y_width y_note y_status) (hr : ∀ m, m < 8 → y_refWide m = rw m) (hp : p < 24) (hl : l < 384) : ∀ (d w f t : Nat) (u n : Int32), w + d = dc_w a p → t ≤ w →
    wY_oneLine_262 post (nI p) (nI l) l0 rm (la_tl a y_view rw p rm d w f t u n).2.2.2.1 (nI (la_tl a y_view rw p rm d w f t u n).1) y_doc y_tracking y_view y_done y_steps y_lines y_columns y_rounds y_known y_many y_styleOf y_markOf y_words y_width y_note y_status y_styles y_pages y_stepKind y_stepA y_stepB y_stepC y_stepOn y_ofParagraph (upd y_firstWord l (nI (la_tl a y_view rw p rm d w f t u n).2.1)) (upd y_wordsOf l (nI (la_tl a y_view rw p rm d w f t u n).2.2.1)) y_slack y_begin y_needs (upd y_notes l (la_tl a y_view rw p rm d w f t u n).2.2.2.2) y_columnOf y_topOf y_firstLine y_label y_labelWide y_counter y_refWide y_nextWide y_columnLine y_columnLines y_filled y_foot →
    wY_oneLine_107 post (nI p) (nI l) l0 rm y_doc y_tracking y_view y_done y_steps y_lines y_columns y_rounds y_known (d + 2) u (nI w) 1 y_many y_styleOf y_markOf y_words y_width y_note y_status y_styles y_pages y_stepKind y_stepA y_stepB y_stepC y_stepOn y_ofParagraph (upd y_firstWord l (nI f)) (upd y_wordsOf l (nI t)) y_slack y_begin y_needs (upd y_notes l n) y_columnOf y_topOf y_firstLine y_label y_labelWide y_counter y_refWide y_nextWide y_columnLine y_columnLines y_filled y_foot
  | 0, w, f, t, u, n, hw, ht, h => by
    obtain ⟨ew, h16⟩ := dc_Vw hv hp
    refine br_f (by decide) ⟨vp_in_nI (by omega) (by omega), ?_⟩
    rw [nI_clamp (by omega), Z.2.2.2.2.2.1 p hp, ew]
    exact br_t (nI_le (by omega) (by omega)) h
  | d + 1, w, f, t, u, n, hw, ht, h => by
    obtain ⟨ew, h16⟩ := dc_Vw hv hp
    have jl := vp_in_nI (n := l) (N := 384) hl (by omega)
    have cl := nI_clamp (n := l) (by omega)
    have exw := ad_yl p w
    have hn := Z.2.2.2.2.2.2.2.1 p w hp (by omega)
    refine br_f (by decide) ⟨vp_in_nI (by omega) (by omega), ?_⟩
    rw [nI_clamp (by omega), Z.2.2.2.2.2.1 p hp, ew]
    refine br_f (nI_ge (by omega) (by omega)) (nm_r exw (yr_sh Z rfl hp (by omega) (fun hs => yr_wd hv Z hr rfl hp (by omega) ⟨jl, ?_⟩) (fun hs => yr_wd hv Z hr rfl hp (by omega) ⟨jl, ?_⟩)))
    · rw [cl, pk_us]
      have go : ∀ z0 : Int32, z0 = la_us a rw p w t u → wY_oneLine_170 post (wY_oneLine_107 post (nI p) (nI l) l0 rm y_doc y_tracking y_view y_done y_steps y_lines y_columns y_rounds y_known (d + 2)) (nI p) (nI l) l0 rm u (nI w) 1 (nI (16 * p + w)) 1 z0 y_doc y_tracking y_view y_done y_steps y_lines y_columns y_rounds y_known y_many y_styleOf y_markOf y_words y_width y_note y_status y_styles y_pages y_stepKind y_stepA y_stepB y_stepC y_stepOn y_ofParagraph (upd y_firstWord l (nI f)) (upd y_wordsOf l (nI t)) y_slack y_begin y_needs (upd y_notes l n) y_columnOf y_topOf y_firstLine y_label y_labelWide y_counter y_refWide y_nextWide y_columnLine y_columnLines y_filled y_foot := fun z0 ez => by
        subst ez
        have take : ¬ (0 < t ∧ rm < la_us a rw p w t u) → wY_oneLine_200 post (wY_oneLine_107 post (nI p) (nI l) l0 rm y_doc y_tracking y_view y_done y_steps y_lines y_columns y_rounds y_known (d + 2)) (nI p) (nI l) l0 rm u (nI w) 1 (nI (16 * p + w)) 1 (la_us a rw p w t u) y_doc y_tracking y_view y_done y_steps y_lines y_columns y_rounds y_known y_many y_styleOf y_markOf y_words y_width y_note y_status y_styles y_pages y_stepKind y_stepA y_stepB y_stepC y_stepOn y_ofParagraph (upd y_firstWord l (nI f)) (upd y_wordsOf l (nI t)) y_slack y_begin y_needs (upd y_notes l n) y_columnOf y_topOf y_firstLine y_label y_labelWide y_counter y_refWide y_nextWide y_columnLine y_columnLines y_filled y_foot := fun hc => by
          rw [la_tlt hs hc] at h
          have ih := yt_L hv Z hr hp hl d (w + 1) (if t = 0 then w else f) (t + 1) (la_us a rw p w t u) (n + a (80 + 51 * p + 3 * w)) (by omega) (by omega) h
          have f224 : ∀ fw : Nat → Int32, fw = upd y_firstWord l (nI (if t = 0 then w else f)) → wY_oneLine_224 post (wY_oneLine_107 post (nI p) (nI l) l0 rm y_doc y_tracking y_view y_done y_steps y_lines y_columns y_rounds y_known (d + 2)) (nI p) (nI l) l0 rm (nI w) 1 (nI (16 * p + w)) (la_us a rw p w t u) y_doc y_tracking y_view y_done y_steps y_lines y_columns y_rounds y_known y_many y_styleOf y_markOf y_words y_width y_note y_status y_styles y_pages y_stepKind y_stepA y_stepB y_stepC y_stepOn y_ofParagraph fw (upd y_wordsOf l (nI t)) y_slack y_begin y_needs (upd y_notes l n) y_columnOf y_topOf y_firstLine y_label y_labelWide y_counter y_refWide y_nextWide y_columnLine y_columnLines y_filled y_foot := fun fw e => by
            subst e
            exact ⟨jl, jl, nm_r (e' := upd y_wordsOf l (nI (t + 1))) (by rw [cl, pk_us, up_2, nI_1]) ⟨jl, vp_in_nI (by omega) (by omega), jl, nm_r (e' := upd y_notes l (n + a (80 + 51 * p + 3 * w))) (by rw [cl, pk_us, up_2, nI_clamp (by omega), hn]) (nm_r (nI_1 w) ih)⟩⟩
          refine br_f (by decide) ⟨jl, ?_⟩
          rw [cl, pk_us]
          exact pk_eq t 0 (fun z => ⟨jl, nm_r (by rw [up_2]) (f224 _ (by rw [if_pos z]))⟩) (fun z => f224 _ (by rw [if_neg z]))
        refine br_f (by decide) ⟨jl, ?_⟩
        rw [cl, pk_us]
        refine pk_le t 0 (fun z => take (by omega)) (fun z => br_c (fun y => take fun q => Int32.not_lt.mpr y q.2) (fun y => ?_))
        rw [la_tls hs ⟨z, Int32.not_le.mp y⟩] at h
        exact br_t rfl h
      refine pk_eq t 0 (fun z => go _ ?_) (fun z => go _ ?_)
      · unfold la_us; rw [if_pos z]
      · unfold la_us; rw [if_neg z]
    · rw [la_tlh hs] at h
      have ih := yt_L hv Z hr hp hl d (w + 1) f t u n (by omega) (by omega) h
      exact br_c (fun _ => br_t rfl (br_t rfl (nm_r (nI_1 w) ih))) (fun _ => br_t rfl (br_t rfl (nm_r (nI_1 w) ih)))
theorem yt_line {post : Int32 → SY → Prop} {x y z : Int32} {p k l : Nat} {rw : Nat → Int32} (hv : dc_V a) (Z : yz_Z a y_many y_pages y_styles y_styleOf y_markOf y_words y_width y_note y_status) (hr : ∀ m, m < 8 → y_refWide m = rw m) (hlb : y_labelWide p = la_lw a p) (hx : x = nI p) (hp : p < 24) (hy : y = nI (la_fr a y_view rw p k)) (hz : z = if k = 0 then 1 else 0) (hl : y_lines = nI l) (hl2 : l < 384)
    (h : post (nI (la_fr a y_view rw p (k + 1))) (y_doc, y_tracking, y_view, y_done, y_steps, (nI (l + 1)), y_columns, y_rounds, y_known, y_many, y_styleOf, y_markOf, y_words, y_width, y_note, y_status, y_styles, y_pages, y_stepKind, y_stepA, y_stepB, y_stepC, y_stepOn, (upd y_ofParagraph l (nI p)), (upd y_firstWord l (nI (la_f a y_view rw p k))), (upd y_wordsOf l (nI (la_t a y_view rw p k))), (upd y_slack l (la_sl a y_view rw p k)), (upd y_begin l (la_l0 a p k)), (upd y_needs l (la_nd a y_view rw p k)), (upd y_notes l (la_no a y_view rw p k)), y_columnOf, y_topOf, y_firstLine, y_label, y_labelWide, y_counter, y_refWide, y_nextWide, y_columnLine, y_columnLines, y_filled, y_foot)) : wpY_oneLine post (y_doc, y_tracking, y_view, y_done, y_steps, y_lines, y_columns, y_rounds, y_known, y_many, y_styleOf, y_markOf, y_words, y_width, y_note, y_status, y_styles, y_pages, y_stepKind, y_stepA, y_stepB, y_stepC, y_stepOn, y_ofParagraph, y_firstWord, y_wordsOf, y_slack, y_begin, y_needs, y_notes, y_columnOf, y_topOf, y_firstLine, y_label, y_labelWide, y_counter, y_refWide, y_nextWide, y_columnLine, y_columnLines, y_filled, y_foot) x y z := by
  subst hx hy hl
  obtain ⟨ew, h16⟩ := dc_Vw hv hp
  have hf := la_frW (a := a) (rw := rw) (vw := y_view) (p := p) k
  have jl := vp_in_nI (n := l) (N := 384) hl2 (by omega)
  have cl := nI_clamp (n := l) (by omega)
  have f262 : wY_oneLine_262 post (nI p) (nI l) (la_l0 a p k) (la_rm a p k) (la_L a y_view rw p k).2.2.2.1 (nI (la_fr a y_view rw p (k + 1))) y_doc y_tracking y_view y_done y_steps (nI l) y_columns y_rounds y_known y_many y_styleOf y_markOf y_words y_width y_note y_status y_styles y_pages y_stepKind y_stepA y_stepB y_stepC y_stepOn (upd y_ofParagraph l (nI p)) (upd y_firstWord l (nI (la_f a y_view rw p k))) (upd y_wordsOf l (nI (la_t a y_view rw p k))) y_slack y_begin y_needs (upd y_notes l (la_no a y_view rw p k)) y_columnOf y_topOf y_firstLine y_label y_labelWide y_counter y_refWide y_nextWide y_columnLine y_columnLines y_filled y_foot := by
    have f284 : ∀ z0 : Int32, z0 = la_sl a y_view rw p k → wY_oneLine_284 post (nI p) (nI l) (la_l0 a p k) (nI (la_fr a y_view rw p (k + 1))) z0 (nI l) y_doc y_tracking y_view y_done y_steps (nI l) y_columns y_rounds y_known y_many y_styleOf y_markOf y_words y_width y_note y_status y_styles y_pages y_stepKind y_stepA y_stepB y_stepC y_stepOn (upd y_ofParagraph l (nI p)) (upd y_firstWord l (nI (la_f a y_view rw p k))) (upd y_wordsOf l (nI (la_t a y_view rw p k))) y_slack y_begin y_needs (upd y_notes l (la_no a y_view rw p k)) y_columnOf y_topOf y_firstLine y_label y_labelWide y_counter y_refWide y_nextWide y_columnLine y_columnLines y_filled y_foot := fun z0 e => by
      subst e
      exact ⟨jl, nm_r (by rw [cl]) ⟨jl, nm_r (by rw [cl]) (yr_tr hv Z rfl hp (t := 5) rfl (by omega) ⟨jl, jl, nm_r (e' := upd y_needs l (la_nd a y_view rw p k)) (by rw [cl, pk_us]; rfl) (nm_r (nI_1 l) h)⟩)⟩⟩
    refine br_c (fun q => f284 _ ?_) (fun q => f284 _ ?_)
    · unfold la_sl; rw [if_pos q]
    · unfold la_sl; rw [if_neg q]
  have f67 : ∀ rm : Int32, rm = la_rm a p k → wY_oneLine_67 post (nI p) (nI l) (la_l0 a p k) rm 0 (nI (la_fr a y_view rw p k)) y_doc y_tracking y_view y_done y_steps (nI l) y_columns y_rounds y_known y_many y_styleOf y_markOf y_words y_width y_note y_status y_styles y_pages y_stepKind y_stepA y_stepB y_stepC y_stepOn y_ofParagraph y_firstWord y_wordsOf y_slack y_begin y_needs y_notes y_columnOf y_topOf y_firstLine y_label y_labelWide y_counter y_refWide y_nextWide y_columnLine y_columnLines y_filled y_foot := fun rm e => by
    subst e
    refine ⟨jl, nm_r (by rw [cl]) ⟨vp_in_nI (by omega) (by omega), jl, nm_r (e' := upd y_firstWord l (nI (dc_w a p))) (by rw [cl, nI_clamp (by omega), Z.2.2.2.2.2.1 p hp, ew]) ⟨jl, nm_r (e' := upd y_wordsOf l (nI 0)) (by rw [cl]; rfl) ⟨jl, nm_r (by rw [cl]) ⟨dc_w a p - la_fr a y_view rw p k + 2, ?_⟩⟩⟩⟩⟩
    exact yt_L (t := 0) hv Z hr hp hl2 (dc_w a p - la_fr a y_view rw p k) (la_fr a y_view rw p k) (dc_w a p) 0 0 (by omega) (by omega) f262
  have f33 : ∀ z0 z1 : Int32, z1 + z0 = la_l0 a p k → wY_oneLine_33 post (nI p) (nI (la_fr a y_view rw p k)) (nI l) z0 z1 y_doc y_tracking y_view y_done y_steps (nI l) y_columns y_rounds y_known y_many y_styleOf y_markOf y_words y_width y_note y_status y_styles y_pages y_stepKind y_stepA y_stepB y_stepC y_stepOn y_ofParagraph y_firstWord y_wordsOf y_slack y_begin y_needs y_notes y_columnOf y_topOf y_firstLine y_label y_labelWide y_counter y_refWide y_nextWide y_columnLine y_columnLines y_filled y_foot := fun z0 z1 e => by
    refine nm_r e (yr_cw Z (yr_tr hv Z rfl hp (t := 1) rfl (by omega) (nm_e (br_c (fun q => f67 _ ?_) (fun q => f67 _ ?_)))))
    · unfold la_rm; rw [if_pos q]
    · unfold la_rm; rw [if_neg q]
  unfold wpY_oneLine
  refine yr_tr hv Z rfl hp (t := 0) rfl (by omega) ?_
  by_cases hk : k = 0
  · rw [if_pos hk] at hz
    subst hz
    refine br_f (by decide) (yr_tr hv Z rfl hp (t := 2) rfl (by omega) ⟨vp_in_nI hp (by omega), f33 _ _ ?_⟩)
    rw [nI_clamp (by omega), hlb]; unfold la_l0; rw [if_pos hk]
  · rw [if_neg hk] at hz
    subst hz
    refine br_t rfl (f33 _ _ ?_)
    unfold la_l0; rw [if_neg hk, Int32.add_zero]
theorem yr_hs {post : Int32 → Prop} {x y : Int32} {p w : Nat} (hv : dc_V a) (Z : yz_Z a y_many y_pages y_styles y_styleOf y_markOf y_words y_width y_note y_status) (hx : x = nI p) (hp : p < 24) (hy : y = nI w) (hw : w ≤ dc_w a p) (hs : w < dc_w a p → la_sh a y_view p w = true) (h1 : w < dc_w a p → post 1) (h0 : w = dc_w a p → post 0) : wpY_hasShown post (y_doc, y_tracking, y_view, y_done, y_steps, y_lines, y_columns, y_rounds, y_known, y_many, y_styleOf, y_markOf, y_words, y_width, y_note, y_status, y_styles, y_pages, y_stepKind, y_stepA, y_stepB, y_stepC, y_stepOn, y_ofParagraph, y_firstWord, y_wordsOf, y_slack, y_begin, y_needs, y_notes, y_columnOf, y_topOf, y_firstLine, y_label, y_labelWide, y_counter, y_refWide, y_nextWide, y_columnLine, y_columnLines, y_filled, y_foot) x y := by
  subst hx hy
  obtain ⟨ew, h16⟩ := dc_Vw hv hp
  refine ⟨1, vp_in_nI (by omega) (by omega), ?_⟩
  rw [nI_clamp (by omega), Z.2.2.2.2.2.1 p hp, ew]
  refine pk_le (dc_w a p) w (fun z => h0 (by omega)) (fun z => yr_sh Z (ad_yl p w) hp (by omega) (fun _ => br_f (by decide) (h1 z)) (fun q => absurd (hs z) q))
/-- lines before a paragraph's -/
def la_Fs (a : Nat → Int32) (vw : Int32) (rw : Nat → Int32) : Nat → Nat
  | 0 => 0
  | p + 1 => la_Fs a vw rw p + la_nl a vw rw p
theorem la_FsB {a rw : Nat → Int32} {vw : Int32} (hv : dc_V a) : ∀ {p : Nat}, p ≤ 24 → la_Fs a vw rw p ≤ 16 * p
  | 0, _ => Nat.le_refl _
  | p + 1, hp => by
    have h1 := la_FsB (rw := rw) (vw := vw) hv (p := p) (by omega)
    have h2 := (la_nlP (a := a) (rw := rw) (vw := vw) (dc_Vw hv (p := p) (by omega)).2).2.1
    show la_Fs a vw rw p + la_nl a vw rw p ≤ _
    omega
theorem la_FsM {a rw : Nat → Int32} {vw : Int32} {q : Nat} : ∀ {p : Nat}, q < p → la_Fs a vw rw q + la_nl a vw rw q ≤ la_Fs a vw rw p
  | 0, h => absurd h (Nat.not_lt_zero _)
  | p + 1, h => by
    show _ ≤ la_Fs a vw rw p + la_nl a vw rw p
    by_cases e : q = p
    · subst e; exact Nat.le_refl _
    · have := la_FsM (a := a) (rw := rw) (vw := vw) (q := q) (p := p) (by omega); omega
def yb_B (a : Nat → Int32) (vw : Int32) (rw : Nat → Int32) (p k : Nat) (y_ofParagraph y_firstWord y_wordsOf y_slack y_begin y_needs y_notes : Nat → Int32) : Prop := ∀ q j, ((q < p ∧ j < la_nl a vw rw q) ∨ (q = p ∧ j < k)) →
  y_ofParagraph (la_Fs a vw rw q + j) = nI q ∧ y_firstWord (la_Fs a vw rw q + j) = nI (la_f a vw rw q j) ∧ y_wordsOf (la_Fs a vw rw q + j) = nI (la_t a vw rw q j) ∧ y_slack (la_Fs a vw rw q + j) = la_sl a vw rw q j ∧ y_begin (la_Fs a vw rw q + j) = la_l0 a q j ∧ y_needs (la_Fs a vw rw q + j) = la_nd a vw rw q j ∧ y_notes (la_Fs a vw rw q + j) = la_no a vw rw q j
theorem yb_L {post : SY → Prop} {p : Nat} {rw : Nat → Int32} (hv : dc_V a) (Z : yz_Z a y_many y_pages y_styles y_styleOf y_markOf y_words y_width y_note y_status) (hr : ∀ m, m < 8 → y_refWide m = rw m) (hlb : y_labelWide p = la_lw a p) (hp : p < 24)
    (h : ∀ y_ofParagraph y_firstWord y_wordsOf y_slack y_begin y_needs y_notes, yb_B a y_view rw (p + 1) 0 y_ofParagraph y_firstWord y_wordsOf y_slack y_begin y_needs y_notes → post (y_doc, y_tracking, y_view, y_done, y_steps, (nI (la_Fs a y_view rw (p + 1))), y_columns, y_rounds, y_known, y_many, y_styleOf, y_markOf, y_words, y_width, y_note, y_status, y_styles, y_pages, y_stepKind, y_stepA, y_stepB, y_stepC, y_stepOn, y_ofParagraph, y_firstWord, y_wordsOf, y_slack, y_begin, y_needs, y_notes, y_columnOf, y_topOf, y_firstLine, y_label, y_labelWide, y_counter, y_refWide, y_nextWide, y_columnLine, y_columnLines, y_filled, y_foot)) : ∀ (d k : Nat) (x3 : Int32) (y_ofParagraph y_firstWord y_wordsOf y_slack y_begin y_needs y_notes : Nat → Int32), k + d = la_nl a y_view rw p → k < la_nl a y_view rw p → x3 = (if k = 0 then 1 else 0) → yb_B a y_view rw p k y_ofParagraph y_firstWord y_wordsOf y_slack y_begin y_needs y_notes →
    wY_breakLines_17 post (nI p) (d + 1) (nI (la_fr a y_view rw p k)) x3 1 y_doc y_tracking y_view y_done y_steps (nI (la_Fs a y_view rw p + k)) y_columns y_rounds y_known y_many y_styleOf y_markOf y_words y_width y_note y_status y_styles y_pages y_stepKind y_stepA y_stepB y_stepC y_stepOn y_ofParagraph y_firstWord y_wordsOf y_slack y_begin y_needs y_notes y_columnOf y_topOf y_firstLine y_label y_labelWide y_counter y_refWide y_nextWide y_columnLine y_columnLines y_filled y_foot
  | 0, k, x3, y_ofParagraph, y_firstWord, y_wordsOf, y_slack, y_begin, y_needs, y_notes, hk, hk2, h3, H => absurd hk2 (by omega)
  | d + 1, k, x3, y_ofParagraph, y_firstWord, y_wordsOf, y_slack, y_begin, y_needs, y_notes, hk, hk2, h3, H => by
    have hn := la_nlP (a := a) (rw := rw) (vw := y_view) (dc_Vw hv hp).2
    have hF := la_FsB (rw := rw) (vw := y_view) hv (p := p) (by omega)
    have hw1 := la_frW (a := a) (rw := rw) (vw := y_view) (p := p) (k + 1)
    have H2 : yb_B a y_view rw p (k + 1) (upd y_ofParagraph (la_Fs a y_view rw p + k) (nI p)) (upd y_firstWord (la_Fs a y_view rw p + k) (nI (la_f a y_view rw p k))) (upd y_wordsOf (la_Fs a y_view rw p + k) (nI (la_t a y_view rw p k))) (upd y_slack (la_Fs a y_view rw p + k) (la_sl a y_view rw p k)) (upd y_begin (la_Fs a y_view rw p + k) (la_l0 a p k)) (upd y_needs (la_Fs a y_view rw p + k) (la_nd a y_view rw p k)) (upd y_notes (la_Fs a y_view rw p + k) (la_no a y_view rw p k)) := fun q j hq => by
      by_cases e : q = p ∧ j = k
      · obtain ⟨rfl, rfl⟩ := e
        rw [pk_us, pk_us, pk_us, pk_us, pk_us, pk_us, pk_us]; exact ⟨rfl, rfl, rfl, rfl, rfl, rfl, rfl⟩
      · have hq2 : (q < p ∧ j < la_nl a y_view rw q) ∨ (q = p ∧ j < k) := by
          rcases hq with z | ⟨z1, z2⟩
          · exact Or.inl z
          · exact Or.inr ⟨z1, by omega⟩
        have ne : la_Fs a y_view rw q + j ≠ la_Fs a y_view rw p + k := by
          rcases hq2 with ⟨z1, z2⟩ | ⟨z1, z2⟩
          · have := la_FsM (a := a) (rw := rw) (vw := y_view) z1; omega
          · subst z1; omega
        rw [pk_un ne, pk_un ne, pk_un ne, pk_un ne, pk_un ne, pk_un ne, pk_un ne]
        exact H q j hq2
    refine br_f (by decide) (yt_line hv Z hr hlb rfl hp rfl h3 rfl (by omega) (yr_hs hv Z rfl hp rfl hw1 (fun z => la_frH z) (fun z => ?_) (fun z => ?_)))
    · have hlt : k + 1 < la_nl a y_view rw p := by
        rcases Nat.lt_or_ge (k + 1) (la_nl a y_view rw p) with q | q
        · exact q
        · have e : la_nl a y_view rw p = k + 1 := by omega
          have := hn.2.2.2; rw [e] at this; omega
      exact yb_L hv Z hr hlb hp h d (k + 1) 0 _ _ _ _ _ _ _ (by omega) hlt (if_neg (by omega)).symm H2
    · have en : la_nl a y_view rw p = k + 1 := la_nlE (dc_Vw hv hp).2 (by omega) (fun j q1 q2 => hn.2.2.1 j q1 (by omega)) z
      have eF : la_Fs a y_view rw (p + 1) = la_Fs a y_view rw p + k + 1 := by show la_Fs a y_view rw p + la_nl a y_view rw p = _; omega
      rw [eF] at h
      refine br_t rfl (h _ _ _ _ _ _ _ fun q j hq => H2 q j ?_)
      rcases hq with ⟨z1, z2⟩ | ⟨z1, z2⟩
      · by_cases e : q = p
        · subst e; exact Or.inr ⟨rfl, by omega⟩
        · exact Or.inl ⟨by omega, z2⟩
      · exact absurd z2 (by omega)
theorem ys_break {post : SY → Prop} {x : Int32} {p : Nat} {rw : Nat → Int32} (hv : dc_V a) (Z : yz_Z a y_many y_pages y_styles y_styleOf y_markOf y_words y_width y_note y_status) (hr : ∀ m, m < 8 → y_refWide m = rw m) (hlb : y_labelWide p = la_lw a p) (hx : x = nI p) (hp : p < 24) (hl : y_lines = nI (la_Fs a y_view rw p)) (H : yb_B a y_view rw p 0 y_ofParagraph y_firstWord y_wordsOf y_slack y_begin y_needs y_notes)
    (h : ∀ y_ofParagraph y_firstWord y_wordsOf y_slack y_begin y_needs y_notes, yb_B a y_view rw (p + 1) 0 y_ofParagraph y_firstWord y_wordsOf y_slack y_begin y_needs y_notes → post (y_doc, y_tracking, y_view, y_done, y_steps, (nI (la_Fs a y_view rw (p + 1))), y_columns, y_rounds, y_known, y_many, y_styleOf, y_markOf, y_words, y_width, y_note, y_status, y_styles, y_pages, y_stepKind, y_stepA, y_stepB, y_stepC, y_stepOn, y_ofParagraph, y_firstWord, y_wordsOf, y_slack, y_begin, y_needs, y_notes, y_columnOf, y_topOf, (upd y_firstLine p (nI (la_Fs a y_view rw p))), y_label, y_labelWide, y_counter, y_refWide, y_nextWide, y_columnLine, y_columnLines, y_filled, y_foot)) : wpY_breakLines post (y_doc, y_tracking, y_view, y_done, y_steps, y_lines, y_columns, y_rounds, y_known, y_many, y_styleOf, y_markOf, y_words, y_width, y_note, y_status, y_styles, y_pages, y_stepKind, y_stepA, y_stepB, y_stepC, y_stepOn, y_ofParagraph, y_firstWord, y_wordsOf, y_slack, y_begin, y_needs, y_notes, y_columnOf, y_topOf, y_firstLine, y_label, y_labelWide, y_counter, y_refWide, y_nextWide, y_columnLine, y_columnLines, y_filled, y_foot) x := by
  subst hx hl
  have hn := la_nlP (a := a) (rw := rw) (vw := y_view) (dc_Vw hv hp).2
  refine ⟨vp_in_nI (by omega) (by omega), nm_r (by rw [nI_clamp (by omega)]) ⟨la_nl a y_view rw p + 1, ?_⟩⟩
  exact yb_L (k := 0) hv Z hr hlb hp h (la_nl a y_view rw p) 1 _ _ _ _ _ _ _ (by omega) (by omega) rfl H
