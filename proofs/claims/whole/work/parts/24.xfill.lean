theorem dc_Vt {a : Nat → Int32} (hv : dc_V a) {p t : Nat} (hp : p < 24) (ht : t < 12) : dc_T t (dc_v a p t) := hv.2.2.2.1 (dc_s a p) t (by have := (dc_Vs hv hp).2; omega) ht
theorem la_gbB {a : Nat → Int32} (hv : dc_V a) {p : Nat} (hp : p < 24) : ∃ g, la_gb a p = nI g ∧ g ≤ 9 := by
  unfold la_gb
  split
  · exact ⟨0, rfl, by omega⟩
  · have z1 := (dc_Vt hv hp (t := 3) (by omega)).1 (Or.inl rfl)
    have z2 := (dc_Vt hv (p := p - 1) (by omega) (t := 4) (by omega)).1 (Or.inr rfl)
    split
    · exact ⟨_, z1⟩
    · exact ⟨_, z2⟩
theorem la_hB {a : Nat → Int32} (hv : dc_V a) {p : Nat} (hp : p < 24) : ∃ g, dc_v a p 5 = nI g ∧ g ≤ 4 := ⟨_, (dc_Vt hv hp (t := 5) (by omega)).2.1 rfl⟩
/-- how great what is kept of columns can be -/
def la_J (S : la_F) (c L : Nat) : Prop := S.1 ≤ c ∧ ∀ i, i < S.1 → ∃ m f g, S.2.2.2.1 i = nI m ∧ m ≤ L ∧ S.2.2.2.2.2.1 i = nI f ∧ f ≤ 13 * L ∧ S.2.2.2.2.1 i = nI g ∧ g ≤ 48 * L
theorem la_Jm {S : la_F} {c L c' L' : Nat} (h : la_J S c L) (hc : c ≤ c') (hL : L ≤ L') : la_J S c' L' := by
  refine ⟨Nat.le_trans h.1 hc, fun i hi => ?_⟩
  obtain ⟨m, f, g, e1, b1, e2, b2, e3, b3⟩ := h.2 i hi
  exact ⟨m, f, g, e1, by omega, e2, by omega, e3, by omega⟩
theorem la_Jnew {S : la_F} {c L p k : Nat} (h : la_J S c L) : la_J (la_new S p k) (c + 1) L := by
  refine ⟨Nat.succ_le_succ h.1, fun i hi => ?_⟩
  by_cases e : i = S.1
  · subst e
    exact ⟨0, 0, 0, pk_us, by omega, pk_us, by omega, pk_us, by omega⟩
  · have hi' : i < S.1 + 1 := hi
    obtain ⟨m, f, g, e1, b1, e2, b2, e3, b3⟩ := h.2 i (by omega)
    exact ⟨m, f, g, (pk_un e).trans e1, b1, (pk_un e).trans e2, b2, (pk_un e).trans e3, b3⟩
theorem la_gaB {a : Nat → Int32} (hv : dc_V a) {S : la_F} {p k : Nat} (hp : p < 24) : ∃ g, la_ga a S p k = nI g ∧ g ≤ 9 := by
  unfold la_ga
  split
  · split
    · exact ⟨0, rfl, by omega⟩
    · exact la_gbB hv hp
  · exact ⟨0, rfl, by omega⟩
theorem la_Jput {a rw : Nat → Int32} {vw : Int32} {S : la_F} {c L p k : Nat} (hv : dc_V a) (hp : p < 24) (h : la_J S c L) (h1 : 1 ≤ S.1) : la_J (la_put a vw rw S p k) c (L + 1) := by
  refine ⟨h.1, fun i hi => ?_⟩
  have hi' : i < S.1 := hi
  obtain ⟨m, f, g, e1, b1, e2, b2, e3, b3⟩ := h.2 i hi'
  by_cases e : i = S.1 - 1
  · subst e
    obtain ⟨n1, q1, r1⟩ := la_gaB (S := S) (k := k) hv hp
    obtain ⟨n2, q2, r2⟩ := la_hB hv hp
    obtain ⟨n3, q3, r3⟩ := la_noB (rw := rw) (vw := vw) hv hp (k := k)
    refine ⟨m + 1, f + n1 + n2, g + n3, ?_, by omega, ?_, by omega, ?_, by omega⟩
    · exact pk_us.trans (by rw [e1, nI_1])
    · exact pk_us.trans (by rw [e2, q1, q2, nI_add, nI_add])
    · exact pk_us.trans (by rw [e3, q3, nI_add])
  · exact ⟨m, f, g, (pk_un e).trans e1, by omega, (pk_un e).trans e2, by omega, (pk_un e).trans e3, by omega⟩
theorem la_adI {a rw : Nat → Int32} {vw : Int32} {S : la_F} {L p k : Nat} (hv : dc_V a) (hp : p < 24) (h : la_J S L L) (h1 : S.1 = 0 → la_is a vw rw S p k = true) : la_J (la_ad a vw rw S p k) (L + 1) (L + 1) ∧ 1 ≤ (la_ad a vw rw S p k).1 ∧ 1 ≤ (if la_is a vw rw S p k = true then la_new S p k else S).1 := by
  unfold la_ad
  by_cases c : la_is a vw rw S p k = true
  · rw [if_pos c]
    have q : 1 ≤ (la_new S p k).1 := Nat.succ_le_succ (Nat.zero_le _)
    exact ⟨la_Jput hv hp (la_Jnew h) q, q, q⟩
  · rw [if_neg c]
    have q : 1 ≤ S.1 := by
      rcases Nat.eq_zero_or_pos S.1 with z | z
      · exact absurd (h1 z) c
      · exact z
    exact ⟨la_Jm (la_Jput hv hp h q) (by omega) (by omega), q, q⟩
theorem la_fpI {a rw : Nat → Int32} {vw : Int32} {S : la_F} {L p : Nat} (hv : dc_V a) (hp : p < 24) (h : la_J S L L) (h1 : S.1 = 0 → p = 0) : ∀ k, la_J (la_fp a vw rw S p k) (L + k) (L + k) ∧ (1 ≤ k → 1 ≤ (la_fp a vw rw S p k).1) ∧ ((la_fp a vw rw S p k).1 = 0 → la_is a vw rw (la_fp a vw rw S p k) p k = true)
  | 0 => by
    refine ⟨h, fun z => absurd z (by omega), fun z => ?_⟩
    show la_op a vw rw S p = true
    unfold la_op; rw [if_pos (h1 z)]
  | k + 1 => by
    obtain ⟨g1, g2, g3⟩ := la_fpI hv hp h h1 k
    obtain ⟨q1, q2, _⟩ := la_adI (rw := rw) (vw := vw) hv hp g1 g3
    refine ⟨q1, fun _ => q2, fun z => ?_⟩
    have : (la_ad a vw rw (la_fp a vw rw S p k) p k).1 = 0 := z
    omega
theorem la_flI {a rw : Nat → Int32} {vw : Int32} (hv : dc_V a) : ∀ p, p ≤ 24 → la_J (la_fl a vw rw p) (16 * p) (16 * p) ∧ ((la_fl a vw rw p).1 = 0 → p = 0)
  | 0, _ => ⟨⟨Nat.le_refl _, fun i hi => absurd hi (Nat.not_lt_zero _)⟩, fun _ => rfl⟩
  | p + 1, hp => by
    obtain ⟨g1, g2⟩ := la_flI (rw := rw) (vw := vw) hv p (by omega)
    have hn := la_nlP (a := a) (rw := rw) (vw := vw) (dc_Vw hv (p := p) (by omega)).2
    obtain ⟨q1, q2, _⟩ := la_fpI (rw := rw) (vw := vw) hv (p := p) (by omega) g1 g2 (la_nl a vw rw p)
    refine ⟨la_Jm q1 (by omega) (by omega), fun z => ?_⟩
    have z' : (la_fp a vw rw (la_fl a vw rw p) p (la_nl a vw rw p)).1 = 0 := z
    have := q2 hn.1
    omega
/-- X's columns -/
def xf_C (a : Nat → Int32) (vw : Int32) (rw : Nat → Int32) (S : la_F) (p k : Nat) (cc : Int32) (lk lt cp cf cl cn cd : Nat → Int32) : Prop := cc = nI S.1
  ∧ (∀ i, i < S.1 → cp i = S.2.1 i ∧ cf i = S.2.2.1 i ∧ cl i = S.2.2.2.1 i ∧ cn i = S.2.2.2.2.1 i ∧ cd i = S.2.2.2.2.2.1 i)
  ∧ (∀ q j, j < 16 → ((q < p ∧ j < la_nl a vw rw q) ∨ (q = p ∧ j < k)) → lk (16 * q + j) = S.2.2.2.2.2.2.1 (16 * q + j) ∧ lt (16 * q + j) = S.2.2.2.2.2.2.2 (16 * q + j))
variable {x_tracking x_view x_slotNow x_stepsBack x_stepsAgain x_stale x_rounds x_columnCount : Int32} {x_doc x_kept x_referenceWidth x_labelValue x_labelWidth x_lineCount x_gapBefore x_headNeeds x_groupNeeds x_wordLine x_wordLeft x_lineFirst x_lineWords x_lineLeft x_lineSlack x_lineNotes x_lineColumn x_lineTop x_columnParagraph x_columnFirst x_columnLines x_columnNotes x_columnFilled : Nat → Int32}
theorem xf_start {post : SX → Prop} {x y : Int32} {p k : Nat} {rw : Nat → Int32} {S : la_F} (hx : x = nI p) (hy : y = nI k) (hc : S.1 < 384) (H : xf_C x_doc x_view rw S p k x_columnCount x_lineColumn x_lineTop x_columnParagraph x_columnFirst x_columnLines x_columnNotes x_columnFilled)
    (h : ∀ x_columnCount x_lineColumn x_lineTop x_columnParagraph x_columnFirst x_columnLines x_columnNotes x_columnFilled, xf_C x_doc x_view rw (la_new S p k) p k x_columnCount x_lineColumn x_lineTop x_columnParagraph x_columnFirst x_columnLines x_columnNotes x_columnFilled → post (x_tracking, x_view, x_slotNow, x_stepsBack, x_stepsAgain, x_stale, x_rounds, x_columnCount, x_doc, x_kept, x_referenceWidth, x_labelValue, x_labelWidth, x_lineCount, x_gapBefore, x_headNeeds, x_groupNeeds, x_wordLine, x_wordLeft, x_lineFirst, x_lineWords, x_lineLeft, x_lineSlack, x_lineNotes, x_lineColumn, x_lineTop, x_columnParagraph, x_columnFirst, x_columnLines, x_columnNotes, x_columnFilled)) : wpX_startColumn post (x_tracking, x_view, x_slotNow, x_stepsBack, x_stepsAgain, x_stale, x_rounds, x_columnCount, x_doc, x_kept, x_referenceWidth, x_labelValue, x_labelWidth, x_lineCount, x_gapBefore, x_headNeeds, x_groupNeeds, x_wordLine, x_wordLeft, x_lineFirst, x_lineWords, x_lineLeft, x_lineSlack, x_lineNotes, x_lineColumn, x_lineTop, x_columnParagraph, x_columnFirst, x_columnLines, x_columnNotes, x_columnFilled) x y := by
  obtain ⟨H1, H2, H3⟩ := H
  have j := ix_in (N := 384) H1 hc (by omega)
  have c := ix_c H1 (by omega)
  refine ⟨j, nm_r (by rw [c]) ⟨j, nm_r (by rw [c]) ⟨j, nm_r (by rw [c]) ⟨j, nm_r (by rw [c]) ⟨j, nm_r (by rw [c]) (nm_r (e' := nI (S.1 + 1)) (by rw [H1, nI_1]) (h _ _ _ _ _ _ _ _ ⟨rfl, fun i hi => ?_, H3⟩))⟩⟩⟩⟩⟩
  subst hx hy
  by_cases e : i = S.1
  · subst e
    exact ⟨pk_us.trans pk_us.symm, pk_us.trans pk_us.symm, pk_us.trans pk_us.symm, pk_us.trans pk_us.symm, pk_us.trans pk_us.symm⟩
  · have hi' : i < S.1 + 1 := hi
    obtain ⟨g1, g2, g3, g4, g5⟩ := H2 i (by omega)
    exact ⟨(pk_un e).trans (g1.trans (pk_un e).symm), (pk_un e).trans (g2.trans (pk_un e).symm), (pk_un e).trans (g3.trans (pk_un e).symm), (pk_un e).trans (g4.trans (pk_un e).symm), (pk_un e).trans (g5.trans (pk_un e).symm)⟩
theorem xf_put {post : SX → Prop} {x y : Int32} {p k : Nat} {rw : Nat → Int32} {S : la_F} (hv : dc_V x_doc) (hx : x = nI p) (hp : p < 24) (hy : y = nI k) (hk : k < 16) (h1 : 1 ≤ S.1) (hc : S.1 ≤ 384) (hg : x_gapBefore p = la_gb x_doc p) (hno : x_lineNotes (16 * p + k) = la_no x_doc x_view rw p k) (H : xf_C x_doc x_view rw S p k x_columnCount x_lineColumn x_lineTop x_columnParagraph x_columnFirst x_columnLines x_columnNotes x_columnFilled)
    (h : ∀ x_lineColumn x_lineTop x_columnParagraph x_columnFirst x_columnLines x_columnNotes x_columnFilled, xf_C x_doc x_view rw (la_put x_doc x_view rw S p k) p (k + 1) x_columnCount x_lineColumn x_lineTop x_columnParagraph x_columnFirst x_columnLines x_columnNotes x_columnFilled → post (x_tracking, x_view, x_slotNow, x_stepsBack, x_stepsAgain, x_stale, x_rounds, x_columnCount, x_doc, x_kept, x_referenceWidth, x_labelValue, x_labelWidth, x_lineCount, x_gapBefore, x_headNeeds, x_groupNeeds, x_wordLine, x_wordLeft, x_lineFirst, x_lineWords, x_lineLeft, x_lineSlack, x_lineNotes, x_lineColumn, x_lineTop, x_columnParagraph, x_columnFirst, x_columnLines, x_columnNotes, x_columnFilled)) : wpX_putLine post (x_tracking, x_view, x_slotNow, x_stepsBack, x_stepsAgain, x_stale, x_rounds, x_columnCount, x_doc, x_kept, x_referenceWidth, x_labelValue, x_labelWidth, x_lineCount, x_gapBefore, x_headNeeds, x_groupNeeds, x_wordLine, x_wordLeft, x_lineFirst, x_lineWords, x_lineLeft, x_lineSlack, x_lineNotes, x_lineColumn, x_lineTop, x_columnParagraph, x_columnFirst, x_columnLines, x_columnNotes, x_columnFilled) x y := by
  subst hx hy
  obtain ⟨H1, H2, H3⟩ := H
  have el := ad_l p k
  have jl := vp_in_nI (n := 16 * p + k) (N := 384) (by omega) (by omega)
  have cl := nI_clamp (n := 16 * p + k) (by omega)
  have ec : x_columnCount - 1 = nI (S.1 - 1) := by rw [H1]; exact pk_sub (b := 1) h1
  have jc := vp_in_nI (n := S.1 - 1) (N := 384) (by omega) (by omega)
  have cc := nI_clamp (n := S.1 - 1) (by omega)
  obtain ⟨g1, g2, g3, g4, g5⟩ := H2 (S.1 - 1) (by omega)
  have f39 : ∀ z0 : Int32, z0 = la_ga x_doc S p k → wX_putLine_39 post (nI p) (nI (16 * p + k)) (nI (S.1 - 1)) z0 x_tracking x_view x_slotNow x_stepsBack x_stepsAgain x_stale x_rounds x_columnCount x_doc x_kept x_referenceWidth x_labelValue x_labelWidth x_lineCount x_gapBefore x_headNeeds x_groupNeeds x_wordLine x_wordLeft x_lineFirst x_lineWords x_lineLeft x_lineSlack x_lineNotes x_lineColumn x_lineTop x_columnParagraph x_columnFirst x_columnLines x_columnNotes x_columnFilled := fun z0 ez => by
    subst ez
    refine ⟨jl, nm_r (by rw [cl]) ⟨jc, jl, nm_r (by rw [cl, cc, g5]) ⟨jl, xr_tr hv rfl hp (t := 5) rfl (by omega) ⟨jc, nm_r (e' := upd x_columnFilled (S.1 - 1) (S.2.2.2.2.2.1 (S.1 - 1) + la_ga x_doc S p k + dc_v x_doc p 5)) (by rw [cl, cc, pk_us]) ⟨jc, jl, jc, nm_r (by rw [cl, cc, g4, hno]) ⟨jc, jc, nm_r (by rw [cc, g3]) (h _ _ _ _ _ _ _ ⟨H1, fun i hi => ?_, fun q j hj hq => ?_⟩)⟩⟩⟩⟩⟩⟩
    · obtain ⟨w1, w2, w3, w4, w5⟩ := H2 i hi
      refine ⟨w1, w2, ?_⟩
      by_cases e : i = S.1 - 1
      · subst e; exact ⟨pk_us.trans pk_us.symm, pk_us.trans pk_us.symm, pk_us.trans pk_us.symm⟩
      · exact ⟨(pk_un e).trans (w3.trans (pk_un e).symm), (pk_un e).trans (w4.trans (pk_un e).symm), (pk_un e).trans (w5.trans (pk_un e).symm)⟩
    · by_cases e : q = p ∧ j = k
      · obtain ⟨rfl, rfl⟩ := e; exact ⟨pk_us.trans pk_us.symm, pk_us.trans pk_us.symm⟩
      · have ne : 16 * q + j ≠ 16 * p + k := by omega
        obtain ⟨w1, w2⟩ := H3 q j hj (by rcases hq with z | z; exact Or.inl z; exact Or.inr ⟨z.1, by omega⟩)
        exact ⟨(pk_un ne).trans (w1.trans (pk_un ne).symm), (pk_un ne).trans (w2.trans (pk_un ne).symm)⟩
  refine nm_r el (nm_r ec (pk_eq k 0 (fun z => ⟨jc, br_c (fun y => f39 0 ?_) (fun y => ⟨vp_in_nI hp (by omega), f39 _ ?_⟩)⟩) (fun z => f39 0 ?_)))
  · rw [cc, g3] at y; unfold la_ga; rw [if_pos z, if_pos y]
  · rw [cc, g3] at y; rw [nI_clamp (by omega), hg]; unfold la_ga; rw [if_pos z, if_neg y]
  · unfold la_ga; rw [if_neg z]
theorem xf_free {post : Int32 → Prop} {p k : Nat} {rw : Nat → Int32} {S : la_F} (h1 : 1 ≤ S.1) (hc : S.1 ≤ 384) (H : xf_C x_doc x_view rw S p k x_columnCount x_lineColumn x_lineTop x_columnParagraph x_columnFirst x_columnLines x_columnNotes x_columnFilled) (h : post (la_fh x_doc S)) : wpX_freeHeight post (x_tracking, x_view, x_slotNow, x_stepsBack, x_stepsAgain, x_stale, x_rounds, x_columnCount, x_doc, x_kept, x_referenceWidth, x_labelValue, x_labelWidth, x_lineCount, x_gapBefore, x_headNeeds, x_groupNeeds, x_wordLine, x_wordLeft, x_lineFirst, x_lineWords, x_lineLeft, x_lineSlack, x_lineNotes, x_lineColumn, x_lineTop, x_columnParagraph, x_columnFirst, x_columnLines, x_columnNotes, x_columnFilled) := by
  obtain ⟨H1, H2, H3⟩ := H
  have ec : x_columnCount - 1 = nI (S.1 - 1) := by rw [H1]; exact pk_sub (b := 1) h1
  have jc := vp_in_nI (n := S.1 - 1) (N := 384) (by omega) (by omega)
  have cc := nI_clamp (n := S.1 - 1) (by omega)
  obtain ⟨g1, g2, g3, g4, g5⟩ := H2 (S.1 - 1) (by omega)
  refine nm_r ec ⟨jc, jc, ?_⟩
  rw [cc, g4, g5]; exact h
theorem xf_opens {post : Int32 → Prop} {x : Int32} {p : Nat} {rw : Nat → Int32} {S : la_F} (hv : dc_V x_doc) (hx : x = nI p) (hp : p < dc_n x_doc) (h1 : ¬ p = 0 → 1 ≤ S.1) (hc : S.1 ≤ 384) (HM : xm_M x_doc x_view rw 0 x_gapBefore x_headNeeds x_groupNeeds) (H : xf_C x_doc x_view rw S p 0 x_columnCount x_lineColumn x_lineTop x_columnParagraph x_columnFirst x_columnLines x_columnNotes x_columnFilled)
    (ht : la_op x_doc x_view rw S p = true → post 1) (hf : ¬ la_op x_doc x_view rw S p = true → post 0) : wpX_opensColumn post (x_tracking, x_view, x_slotNow, x_stepsBack, x_stepsAgain, x_stale, x_rounds, x_columnCount, x_doc, x_kept, x_referenceWidth, x_labelValue, x_labelWidth, x_lineCount, x_gapBefore, x_headNeeds, x_groupNeeds, x_wordLine, x_wordLeft, x_lineFirst, x_lineWords, x_lineLeft, x_lineSlack, x_lineNotes, x_lineColumn, x_lineTop, x_columnParagraph, x_columnFirst, x_columnLines, x_columnNotes, x_columnFilled) x := by
  subst hx
  have h24 := (dc_Vn hv).2
  obtain ⟨m1, m2, m3⟩ := HM p (by omega) hp
  have jp := vp_in_nI (n := p) (N := 24) (by omega) (by omega)
  have cp := nI_clamp (n := p) (by omega)
  unfold la_op at ht hf
  refine pk_eq p 0 (fun z => ?_) (fun z => xr_tr hv rfl (by omega) (t := 10) rfl (by omega) (br_c (fun y => ?_) (fun y => xf_free (h1 z) hc H ⟨jp, nm_r (e' := la_fh x_doc S - la_gb x_doc p) (by rw [cp, m1]) ⟨jp, ?_⟩⟩)))
  · rw [if_pos z] at ht; exact ht rfl
  · rw [if_neg z, if_pos y] at ht; exact ht rfl
  · rw [if_neg z, if_neg y] at ht hf
    rw [cp, m3]
    have f69 : ∀ nd : Int32, nd = (if x_doc 2 < la_gr x_doc x_view rw (dc_n x_doc - 1 - p) p then la_hs x_doc x_view rw p (la_hd x_doc x_view rw p) else la_gr x_doc x_view rw (dc_n x_doc - 1 - p) p) → wX_opensColumn_69 post (la_fh x_doc S - la_gb x_doc p) nd x_tracking x_view x_slotNow x_stepsBack x_stepsAgain x_stale x_rounds x_columnCount x_doc x_kept x_referenceWidth x_labelValue x_labelWidth x_lineCount x_gapBefore x_headNeeds x_groupNeeds x_wordLine x_wordLeft x_lineFirst x_lineWords x_lineLeft x_lineSlack x_lineNotes x_lineColumn x_lineTop x_columnParagraph x_columnFirst x_columnLines x_columnNotes x_columnFilled := fun nd e => by
      subst e
      refine br_c (fun q => hf ?_) (fun q => ht ?_)
      · rw [decide_eq_true q]; decide
      · rw [decide_eq_false q]; rfl
    refine br_c (fun q => br_t rfl ⟨jp, f69 _ ?_⟩) (fun q => br_f (by decide) ⟨jp, f69 _ ?_⟩)
    · rw [cp, m2, if_pos q]
    · rw [cp, m3, if_neg q]
theorem xf_turns {post : Int32 → Prop} {x y : Int32} {p k : Nat} {rw : Nat → Int32} {S : la_F} (hv : dc_V x_doc) (hx : x = nI p) (hp : p < 24) (hy : y = nI k) (hk : k < la_nl x_doc x_view rw p) (h1 : 1 ≤ S.1) (hc : S.1 ≤ 384) (hlc : x_lineCount p = nI (la_nl x_doc x_view rw p)) (hno : ∀ j, j < la_nl x_doc x_view rw p → x_lineNotes (16 * p + j) = la_no x_doc x_view rw p j) (H : xf_C x_doc x_view rw S p k x_columnCount x_lineColumn x_lineTop x_columnParagraph x_columnFirst x_columnLines x_columnNotes x_columnFilled)
    (ht : la_tu x_doc x_view rw S p k = true → post 1) (hf : ¬ la_tu x_doc x_view rw S p k = true → post 0) : wpX_turnsColumn post (x_tracking, x_view, x_slotNow, x_stepsBack, x_stepsAgain, x_stale, x_rounds, x_columnCount, x_doc, x_kept, x_referenceWidth, x_labelValue, x_labelWidth, x_lineCount, x_gapBefore, x_headNeeds, x_groupNeeds, x_wordLine, x_wordLeft, x_lineFirst, x_lineWords, x_lineLeft, x_lineSlack, x_lineNotes, x_lineColumn, x_lineTop, x_columnParagraph, x_columnFirst, x_columnLines, x_columnNotes, x_columnFilled) x y := by
  subst hx hy
  have hn := la_nlP (a := x_doc) (rw := rw) (vw := x_view) (dc_Vw hv hp).2
  have el := ad_l p k
  have jl := vp_in_nI (n := 16 * p + k) (N := 384) (by omega) (by omega)
  have cl := nI_clamp (n := 16 * p + k) (by omega)
  unfold la_tu at ht hf
  refine nm_r el (xr_tr hv rfl hp (t := 5) rfl (by omega) (xf_free h1 hc H ⟨jl, nm_r (e' := la_fh x_doc S - dc_v x_doc p 5 - la_no x_doc x_view rw p k) (by rw [cl, hno k hk]) (br_c (fun z => ⟨vp_in_nI hp (by omega), ?_⟩) (fun z => ?_))⟩))
  · rw [if_pos z] at ht hf
    rw [nI_clamp (by omega), hlc]
    have ek : nI k = nI (la_nl x_doc x_view rw p) - 2 ↔ k + 2 = la_nl x_doc x_view rw p := by
      generalize la_nl x_doc x_view rw p = n at *
      by_cases q : n = 1
      · subst q
        refine ⟨fun e => ?_, fun e => absurd e (by omega)⟩
        have e' := congrArg Int32.toInt e
        rw [nI_toInt (by omega), show (nI 1 - 2).toInt = -1 from by decide] at e'; omega
      · have e2 : nI n - 2 = nI (n - 2) := pk_sub (b := 2) (by omega)
        rw [e2, nI_eq (by omega) (by omega)]; omega
    refine br_c (fun q => ?_) (fun q => ?_)
    · have q' := ek.mp q
      rw [if_pos q'] at ht hf
      refine xr_tr hv rfl hp (t := 11) rfl (by omega) (br_c (fun y => ?_) (fun y => xr_sf (rw := rw) hv rfl hp hlc (fun s => br_f (by decide) ?_) (fun s => br_t rfl ⟨ix_in (nI_1 _) (by omega) (by omega), ?_⟩)))
      · rw [if_pos y] at hf; exact hf (by decide)
      · rw [if_neg y, if_pos s] at hf; exact hf (by decide)
      · rw [if_neg y, if_neg s] at ht hf
        rw [ix_c (nI_1 _) (by omega), show 16 * p + k + 1 = 16 * p + (k + 1) from by omega, hno (k + 1) (by omega)]
        refine br_c (fun w => hf ?_) (fun w => ht ?_)
        · rw [decide_eq_true w]; decide
        · rw [decide_eq_false w]; rfl
    · rw [if_neg (fun e => q (ek.mpr e))] at hf; exact hf (by decide)
  · rw [if_neg z] at ht; exact ht rfl
