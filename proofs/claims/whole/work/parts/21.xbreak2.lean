section
variable {a rw : Nat → Int32} {vw : Int32} {p : Nat}
theorem la_t0 {k : Nat} (h : la_t a vw rw p k = 0) : la_fr a vw rw p (k + 1) = dc_w a p := by
  have hw := la_frW (a := a) (rw := rw) (vw := vw) (p := p) k
  have hw1 := la_frW (a := a) (rw := rw) (vw := vw) (p := p) (k + 1)
  rcases Nat.lt_or_ge (la_fr a vw rw p (k + 1)) (dc_w a p) with q | q
  · have z := ((la_tl1 (a := a) (rw := rw) (vw := vw) (p := p) (rm := la_rm a p k) (dc_w a p - la_fr a vw rw p k) (la_fr a vw rw p k) (dc_w a p) 0 0 0).2.2.1 (by
      have : (la_tl a vw rw p (la_rm a p k) (dc_w a p - la_fr a vw rw p k) (la_fr a vw rw p k) (dc_w a p) 0 0 0).1 < dc_w a p := q
      omega)).2
    unfold la_t la_L at h
    omega
  · omega
theorem la_fE {k : Nat} : la_f a vw rw p k ≤ la_fr a vw rw p (k + 1) := by
  rcases la_fC (a := a) (rw := rw) (vw := vw) (p := p) (k := k) with ⟨h1, h2⟩ | h
  · rw [h2, la_t0 h1]; exact Nat.le_refl _
  · omega
theorem la_tF {k : Nat} : la_cn a vw p (la_f a vw rw p k) (la_fr a vw rw p (k + 1) - la_f a vw rw p k) = la_t a vw rw p k := by
  rcases la_fC (a := a) (rw := rw) (vw := vw) (p := p) (k := k) with ⟨h1, h2⟩ | ⟨h1, h2, h3, h4⟩
  · rw [h2, la_t0 h1, Nat.sub_self, h1]; rfl
  · have e := la_cnA (a := a) (vw := vw) (p := p) (w := la_fr a vw rw p k) (m := la_f a vw rw p k - la_fr a vw rw p k) (k := la_fr a vw rw p (k + 1) - la_f a vw rw p k)
    rw [show la_f a vw rw p k - la_fr a vw rw p k + (la_fr a vw rw p (k + 1) - la_f a vw rw p k) = la_fr a vw rw p (k + 1) - la_fr a vw rw p k from by omega, ← la_tC,
      show la_fr a vw rw p k + (la_f a vw rw p k - la_fr a vw rw p k) = la_f a vw rw p k from by omega,
      la_cnN (m := la_f a vw rw p k - la_fr a vw rw p k) (fun v q1 q2 => h4 v q1 (by omega))] at e
    omega
theorem la_fS {k w : Nat} (h1 : la_fr a vw rw p k ≤ w) (h2 : w < la_fr a vw rw p (k + 1)) (hs : la_sh a vw p w = true) : la_f a vw rw p k ≤ w := by
  rcases la_fC (a := a) (rw := rw) (vw := vw) (p := p) (k := k) with ⟨q1, q2⟩ | ⟨q1, q2, q3, q4⟩
  · rw [la_tC] at q1
    exact absurd hs (la_cnZ q1 w h1 (by omega))
  · exact Nat.not_lt.mp fun z => q4 w h1 z hs
end
/-- what is written for a line's words -/
def la_wL (a : Nat → Int32) (vw : Int32) (rw : Nat → Int32) (p k : Nat) (g : Nat → Int32) : Nat → Int32 := la_wr a vw p g (fun _ => nI k) (la_f a vw rw p k) (la_fr a vw rw p (k + 1) - la_f a vw rw p k)
def la_wX (a : Nat → Int32) (vw : Int32) (rw : Nat → Int32) (p k : Nat) (g : Nat → Int32) : Nat → Int32 := la_wr a vw p g (fun w => la_ps a vw rw p k w) (la_f a vw rw p k) (la_fr a vw rw p (k + 1) - la_f a vw rw p k)
variable {x_tracking x_view x_slotNow x_stepsBack x_stepsAgain x_stale x_rounds x_columnCount : Int32} {x_doc x_kept x_referenceWidth x_labelValue x_labelWidth x_lineCount x_gapBefore x_headNeeds x_groupNeeds x_wordLine x_wordLeft x_lineFirst x_lineWords x_lineLeft x_lineSlack x_lineNotes x_lineColumn x_lineTop x_columnParagraph x_columnFirst x_columnLines x_columnNotes x_columnFilled : Nat → Int32}
theorem xp_place {post : SX → Prop} {x y : Int32} {p k : Nat} {rw : Nat → Int32} (hv : dc_V x_doc) (hr : ∀ m, m < 8 → x_referenceWidth m = rw m) (hx : x = nI p) (hp : p < 24) (hy : y = nI k) (hk : k < la_nl x_doc x_view rw p)
    (hlf : x_lineFirst (16 * p + k) = nI (la_f x_doc x_view rw p k)) (hln : x_lineWords (16 * p + k) = nI (la_t x_doc x_view rw p k)) (hll : x_lineLeft (16 * p + k) = la_l0 x_doc p k) (hls : x_lineSlack (16 * p + k) = la_sl x_doc x_view rw p k) (hlc : x_lineCount p = nI (la_nl x_doc x_view rw p))
    (h : post (x_tracking, x_view, x_slotNow, x_stepsBack, x_stepsAgain, x_stale, x_rounds, x_columnCount, x_doc, x_kept, x_referenceWidth, x_labelValue, x_labelWidth, x_lineCount, x_gapBefore, x_headNeeds, x_groupNeeds, (la_wL x_doc x_view rw p k x_wordLine), (la_wX x_doc x_view rw p k x_wordLeft), x_lineFirst, x_lineWords, (upd x_lineLeft (16 * p + k) (la_al x_doc x_view rw p k)), x_lineSlack, x_lineNotes, x_lineColumn, x_lineTop, x_columnParagraph, x_columnFirst, x_columnLines, x_columnNotes, x_columnFilled)) : wpX_placeWords post (x_tracking, x_view, x_slotNow, x_stepsBack, x_stepsAgain, x_stale, x_rounds, x_columnCount, x_doc, x_kept, x_referenceWidth, x_labelValue, x_labelWidth, x_lineCount, x_gapBefore, x_headNeeds, x_groupNeeds, x_wordLine, x_wordLeft, x_lineFirst, x_lineWords, x_lineLeft, x_lineSlack, x_lineNotes, x_lineColumn, x_lineTop, x_columnParagraph, x_columnFirst, x_columnLines, x_columnNotes, x_columnFilled) x y := by
  subst hx hy
  have h16 := (dc_Vw hv hp).2
  have hn := la_nlP (a := x_doc) (rw := rw) (vw := x_view) h16
  have el := ad_l p k
  have jn := vp_in_nI (n := 16 * p + k) (N := 384) (by omega) (by omega)
  have cn := nI_clamp (n := 16 * p + k) (by omega)
  have hf := la_fE (a := x_doc) (rw := rw) (vw := x_view) (p := p) (k := k)
  have he := la_frW (a := x_doc) (rw := rw) (vw := x_view) (p := p) (k + 1)
  have htt := la_tF (a := x_doc) (rw := rw) (vw := x_view) (p := p) (k := k)
  have ht16 := la_tB (a := x_doc) (rw := rw) (vw := x_view) (p := p) (k := k) h16
  have f101 : ∀ (st : Int32) (x_lineLeft : Nat → Int32), st = la_sp x_doc x_view rw p k → x_lineLeft (16 * p + k) = la_al x_doc x_view rw p k → post (x_tracking, x_view, x_slotNow, x_stepsBack, x_stepsAgain, x_stale, x_rounds, x_columnCount, x_doc, x_kept, x_referenceWidth, x_labelValue, x_labelWidth, x_lineCount, x_gapBefore, x_headNeeds, x_groupNeeds, (la_wL x_doc x_view rw p k x_wordLine), (la_wX x_doc x_view rw p k x_wordLeft), x_lineFirst, x_lineWords, x_lineLeft, x_lineSlack, x_lineNotes, x_lineColumn, x_lineTop, x_columnParagraph, x_columnFirst, x_columnLines, x_columnNotes, x_columnFilled) →
      wX_placeWords_101 post (nI p) (nI k) (nI (16 * p + k)) (la_sl x_doc x_view rw p k) (nI (la_t x_doc x_view rw p k) - 1) st x_tracking x_view x_slotNow x_stepsBack x_stepsAgain x_stale x_rounds x_columnCount x_doc x_kept x_referenceWidth x_labelValue x_labelWidth x_lineCount x_gapBefore x_headNeeds x_groupNeeds x_wordLine x_wordLeft x_lineFirst x_lineWords x_lineLeft x_lineSlack x_lineNotes x_lineColumn x_lineTop x_columnParagraph x_columnFirst x_columnLines x_columnNotes x_columnFilled := fun st x_lineLeft es ea h' => by
    subst es
    refine ⟨jn, nm_r (e' := la_al x_doc x_view rw p k) (by rw [cn, ea]) ⟨jn, nm_r (e' := nI (la_f x_doc x_view rw p k)) (by rw [cn, hlf]) ⟨dc_w x_doc p - la_f x_doc x_view rw p k + 1, ?_⟩⟩⟩
    exact xp_L (m := 0) (l0 := la_al x_doc x_view rw p k) hv hr hp hf he htt (fun z => by
      unfold la_sp at z
      split at z
      · rename_i c; exact c.2.1
      · exact absurd rfl z) ht16 h' (dc_w x_doc p - la_f x_doc x_view rw p k) (by omega) hf
  have f63 : ∀ (x_lineLeft : Nat → Int32), x_lineLeft (16 * p + k) = la_al x_doc x_view rw p k → post (x_tracking, x_view, x_slotNow, x_stepsBack, x_stepsAgain, x_stale, x_rounds, x_columnCount, x_doc, x_kept, x_referenceWidth, x_labelValue, x_labelWidth, x_lineCount, x_gapBefore, x_headNeeds, x_groupNeeds, (la_wL x_doc x_view rw p k x_wordLine), (la_wX x_doc x_view rw p k x_wordLeft), x_lineFirst, x_lineWords, x_lineLeft, x_lineSlack, x_lineNotes, x_lineColumn, x_lineTop, x_columnParagraph, x_columnFirst, x_columnLines, x_columnNotes, x_columnFilled) →
      wX_placeWords_63 post (nI p) (nI k) (nI (16 * p + k)) (dc_v x_doc p 6) (la_sl x_doc x_view rw p k) x_tracking x_view x_slotNow x_stepsBack x_stepsAgain x_stale x_rounds x_columnCount x_doc x_kept x_referenceWidth x_labelValue x_labelWidth x_lineCount x_gapBefore x_headNeeds x_groupNeeds x_wordLine x_wordLeft x_lineFirst x_lineWords x_lineLeft x_lineSlack x_lineNotes x_lineColumn x_lineTop x_columnParagraph x_columnFirst x_columnLines x_columnNotes x_columnFilled := fun x_lineLeft ea h' => by
    have g0 : nI (la_t x_doc x_view rw p k) - 1 ≤ 0 ↔ la_t x_doc x_view rw p k ≤ 1 := by
      generalize la_t x_doc x_view rw p k = t at *
      by_cases z : t = 0
      · subst z; exact ⟨fun _ => by omega, fun _ => by decide⟩
      · obtain ⟨s, rfl⟩ : ∃ s, t = s + 1 := ⟨t - 1, by omega⟩
        rw [nI_pred, ← nI_0, nI_leI (by omega) (by omega)]; omega
    have f100 : ¬ (dc_v x_doc p 6 = 3 ∧ 1 < la_t x_doc x_view rw p k ∧ k + 1 < la_nl x_doc x_view rw p) → wX_placeWords_100 post (nI p) (nI k) (nI (16 * p + k)) (la_sl x_doc x_view rw p k) (nI (la_t x_doc x_view rw p k) - 1) x_tracking x_view x_slotNow x_stepsBack x_stepsAgain x_stale x_rounds x_columnCount x_doc x_kept x_referenceWidth x_labelValue x_labelWidth x_lineCount x_gapBefore x_headNeeds x_groupNeeds x_wordLine x_wordLeft x_lineFirst x_lineWords x_lineLeft x_lineSlack x_lineNotes x_lineColumn x_lineTop x_columnParagraph x_columnFirst x_columnLines x_columnNotes x_columnFilled := fun z =>
      f101 0 x_lineLeft (if_neg z).symm ea h'
    refine ⟨jn, nm_r (e' := nI (la_t x_doc x_view rw p k) - 1) (by rw [cn, hln]) (br_c (fun z3 => br_c (fun zg => f100 fun q => ?_) (fun zg => ⟨vp_in_nI hp (by omega), ?_⟩)) (fun z3 => f100 fun q => z3 q.1))⟩
    · have := g0.mp zg; omega
    · rw [nI_clamp (by omega), hlc]
      have e1 : nI (la_nl x_doc x_view rw p) - 1 = nI (la_nl x_doc x_view rw p - 1) := pk_sub (b := 1) (by omega)
      rw [e1]
      refine pk_le (la_nl x_doc x_view rw p - 1) k (fun zk => f100 fun q => ?_) (fun zk => f101 1 x_lineLeft (if_pos ⟨z3, ?_, by omega⟩).symm ea h')
      · omega
      · have : ¬ la_t x_doc x_view rw p k ≤ 1 := fun q => zg (g0.mpr q)
        omega
  refine nm_r el (xr_tr hv rfl hp (t := 6) rfl (by omega) ⟨jn, nm_r (e' := la_sl x_doc x_view rw p k) (by rw [cn, hls]) (br_c (fun z => ⟨jn, jn, nm_r (e' := upd x_lineLeft (16 * p + k) (la_al x_doc x_view rw p k)) ?_ (f63 _ pk_us h)⟩) (fun z => br_c (fun y => ⟨jn, by decide, jn, nm_r (e' := upd x_lineLeft (16 * p + k) (la_al x_doc x_view rw p k)) ?_ (f63 _ pk_us h)⟩) (fun y => ?_)))⟩)
  · rw [cn, hll]; unfold la_al; rw [if_pos z]
  · rw [cn, hll]; unfold la_al; rw [if_neg z, if_pos y]
  · have ea : la_al x_doc x_view rw p k = la_l0 x_doc p k := by unfold la_al; rw [if_neg z, if_neg y]
    rw [ea, op_upd2 hll] at h
    exact f63 x_lineLeft (hll.trans ea.symm) h
/-- paragraphs broken so far -/
def xb_B (a : Nat → Int32) (vw : Int32) (rw : Nat → Int32) (p : Nat) (lc wl wx lf ln ll ls lo : Nat → Int32) : Prop := ∀ q, q < p → lc q = nI (la_nl a vw rw q)
  ∧ (∀ j, j < la_nl a vw rw q → lf (16 * q + j) = nI (la_f a vw rw q j) ∧ ln (16 * q + j) = nI (la_t a vw rw q j) ∧ ll (16 * q + j) = la_al a vw rw q j ∧ ls (16 * q + j) = la_sl a vw rw q j ∧ lo (16 * q + j) = la_no a vw rw q j)
  ∧ (∀ j w, j < la_nl a vw rw q → la_fr a vw rw q j ≤ w → w < la_fr a vw rw q (j + 1) → la_sh a vw q w = true → wl (16 * q + w) = nI j ∧ wx (16 * q + w) = la_ps a vw rw q j w)
theorem xb_fr {a rw : Nat → Int32} {vw : Int32} {p : Nat} {lc wl wx lf ln ll ls lo lc1 wl1 wx1 lf1 ln1 ll1 ls1 lo1 : Nat → Int32} (hv : dc_V a) (hp : p ≤ 24) (H : xb_B a vw rw p lc wl wx lf ln ll ls lo)
    (h1 : ∀ q, q < p → lc1 q = lc q) (h2 : ∀ i, i < 16 * p → wl1 i = wl i) (h3 : ∀ i, i < 16 * p → wx1 i = wx i) (h4 : ∀ i, i < 16 * p → lf1 i = lf i) (h5 : ∀ i, i < 16 * p → ln1 i = ln i) (h6 : ∀ i, i < 16 * p → ll1 i = ll i) (h7 : ∀ i, i < 16 * p → ls1 i = ls i) (h8 : ∀ i, i < 16 * p → lo1 i = lo i) :
    xb_B a vw rw p lc1 wl1 wx1 lf1 ln1 ll1 ls1 lo1 := by
  intro q hq
  obtain ⟨g1, g2, g3⟩ := H q hq
  have h16 := (dc_Vw hv (p := q) (by omega)).2
  have hn := (la_nlP (a := a) (rw := rw) (vw := vw) h16).2.1
  refine ⟨(h1 q hq).trans g1, fun j hj => ?_, fun j w hj hw1 hw2 hs => ?_⟩
  · rw [h4 _ (by omega), h5 _ (by omega), h6 _ (by omega), h7 _ (by omega), h8 _ (by omega)]; exact g2 j hj
  · have := la_frW (a := a) (rw := rw) (vw := vw) (p := q) (j + 1)
    rw [h2 _ (by omega), h3 _ (by omega)]; exact g3 j w hj hw1 hw2 hs
