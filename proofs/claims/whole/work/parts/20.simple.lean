section LLQ
theorem i_vc_templateLength {k : Nat} {u : SX} {v : SY} (I : i_Rel k u v) (hk : k + 4 ≤ 2049) (v1 : Int32) : wpX_templateLength (fun r => wpY_templateLength (fun r' => r' = r ∧ i_Rel (k + 4) u v) v v1) u v1 := by
  refine ir_el (P := fun u v => wpX_templateLength (fun r => wpY_templateLength (fun r' => r' = r ∧ i_Rel (k + 4) u v) v v1) u v1) I ?_
  intro f_openMarkLength f_closeMarkLength f_openCount f_compileFrom f_compileTo f_frameCount f_valueTextLength f_renderAt f_renderTo f_returnAt f_finished f_overflowed a_text a_cellKind a_cellName a_tagEnd a_sectionEnd a_textLength a_slotStatus a_slotError a_openMark a_closeMark a_openTags a_valueKind a_amount a_parts a_fieldValues a_out a_frameValue a_frameList a_frameNext a_frameBody a_valueText g_ol g_cl g_newOl g_newCl g_tagName g_parseErr g_openCount g_fn g_cn b_removed b_tType b_tA b_tB b_tName b_tMatch b_tCount b_oc b_cc b_newO b_newC b_openName b_openTok b_vKind b_vNum b_vCnt b_vStr b_vItem b_vKey b_vVal b_fv b_cKind b_cSlot b_cTok b_cVal b_cIdx b_dig ln nv oc cap kd ct hc1 hc2 hoc hT hV
  unfold wpX_templateLength wpY_templateLength
  rcases pk_ix v1 (n := 4) (by omega) with h | h | ⟨s, hs, rfl⟩
  · exact xl_nslot (Or.inl h) (br_t rfl (br_t h ⟨rfl, ir_mk hc1 hc2 hoc hT hV⟩))
  · exact xl_nslot (Or.inr h) (br_t rfl (br_c (fun _ => ⟨rfl, ir_mk hc1 hc2 hoc hT hV⟩) (fun _ => br_f (fun z => absurd (Int32.le_trans h z) (by decide)) ⟨rfl, ir_mk hc1 hc2 hoc hT hV⟩)))
  · exact xl_slot hs (br_f (by decide) ⟨vp_in_nI hs (by omega), br_f (nI_pos (by omega)) (br_t (nI_le (b := 3) (by omega) (by decide)) ⟨vp_in_nI hs (by omega), rfl, ir_mk hc1 hc2 hoc hT hV⟩)⟩)
theorem i_vc_status {k : Nat} {u : SX} {v : SY} (I : i_Rel k u v) (hk : k + 4 ≤ 2049) (v1 : Int32) : wpX_status (fun r => wpY_status (fun r' => r' = r ∧ i_Rel (k + 4) u v) v v1) u v1 := by
  refine ir_el (P := fun u v => wpX_status (fun r => wpY_status (fun r' => r' = r ∧ i_Rel (k + 4) u v) v v1) u v1) I ?_
  intro f_openMarkLength f_closeMarkLength f_openCount f_compileFrom f_compileTo f_frameCount f_valueTextLength f_renderAt f_renderTo f_returnAt f_finished f_overflowed a_text a_cellKind a_cellName a_tagEnd a_sectionEnd a_textLength a_slotStatus a_slotError a_openMark a_closeMark a_openTags a_valueKind a_amount a_parts a_fieldValues a_out a_frameValue a_frameList a_frameNext a_frameBody a_valueText g_ol g_cl g_newOl g_newCl g_tagName g_parseErr g_openCount g_fn g_cn b_removed b_tType b_tA b_tB b_tName b_tMatch b_tCount b_oc b_cc b_newO b_newC b_openName b_openTok b_vKind b_vNum b_vCnt b_vStr b_vItem b_vKey b_vVal b_fv b_cKind b_cSlot b_cTok b_cVal b_cIdx b_dig ln nv oc cap kd ct hc1 hc2 hoc hT hV
  unfold wpX_status wpY_status
  rcases pk_ix v1 (n := 4) (by omega) with h | h | ⟨s, hs, rfl⟩
  · exact xl_nslot (Or.inl h) (br_t rfl (br_t h ⟨rfl, ir_mk hc1 hc2 hoc hT hV⟩))
  · exact xl_nslot (Or.inr h) (br_t rfl (br_c (fun _ => ⟨rfl, ir_mk hc1 hc2 hoc hT hV⟩) (fun _ => br_f (fun z => absurd (Int32.le_trans h z) (by decide)) ⟨rfl, ir_mk hc1 hc2 hoc hT hV⟩)))
  · exact xl_slot hs (br_f (by decide) ⟨vp_in_nI hs (by omega), br_f (nI_pos (by omega)) (br_t (nI_le (b := 3) (by omega) (by decide)) ⟨vp_in_nI hs (by omega), rfl, ir_mk hc1 hc2 hoc hT hV⟩)⟩)
theorem i_vc_errorAt {k : Nat} {u : SX} {v : SY} (I : i_Rel k u v) (hk : k + 4 ≤ 2049) (v1 : Int32) : wpX_errorAt (fun r => wpY_errorAt (fun r' => r' = r ∧ i_Rel (k + 4) u v) v v1) u v1 := by
  refine ir_el (P := fun u v => wpX_errorAt (fun r => wpY_errorAt (fun r' => r' = r ∧ i_Rel (k + 4) u v) v v1) u v1) I ?_
  intro f_openMarkLength f_closeMarkLength f_openCount f_compileFrom f_compileTo f_frameCount f_valueTextLength f_renderAt f_renderTo f_returnAt f_finished f_overflowed a_text a_cellKind a_cellName a_tagEnd a_sectionEnd a_textLength a_slotStatus a_slotError a_openMark a_closeMark a_openTags a_valueKind a_amount a_parts a_fieldValues a_out a_frameValue a_frameList a_frameNext a_frameBody a_valueText g_ol g_cl g_newOl g_newCl g_tagName g_parseErr g_openCount g_fn g_cn b_removed b_tType b_tA b_tB b_tName b_tMatch b_tCount b_oc b_cc b_newO b_newC b_openName b_openTok b_vKind b_vNum b_vCnt b_vStr b_vItem b_vKey b_vVal b_fv b_cKind b_cSlot b_cTok b_cVal b_cIdx b_dig ln nv oc cap kd ct hc1 hc2 hoc hT hV
  unfold wpX_errorAt wpY_errorAt
  rcases pk_ix v1 (n := 4) (by omega) with h | h | ⟨s, hs, rfl⟩
  · exact xl_nslot (Or.inl h) (br_t rfl (br_t h ⟨rfl, ir_mk hc1 hc2 hoc hT hV⟩))
  · exact xl_nslot (Or.inr h) (br_t rfl (br_c (fun _ => ⟨rfl, ir_mk hc1 hc2 hoc hT hV⟩) (fun _ => br_f (fun z => absurd (Int32.le_trans h z) (by decide)) ⟨rfl, ir_mk hc1 hc2 hoc hT hV⟩)))
  · exact xl_slot hs (br_f (by decide) ⟨vp_in_nI hs (by omega), br_f (nI_pos (by omega)) (br_t (nI_le (b := 3) (by omega) (by decide)) ⟨vp_in_nI hs (by omega), rfl, ir_mk hc1 hc2 hoc hT hV⟩)⟩)
theorem i_vc_outLength {k : Nat} {u : SX} {v : SY} (I : i_Rel k u v) (hk : k + 4 ≤ 2049) : wpX_outLength (fun r => wpY_outLength (fun r' => r' = r ∧ i_Rel (k + 4) u v) v) u := by
  refine ir_el (P := fun u v => wpX_outLength (fun r => wpY_outLength (fun r' => r' = r ∧ i_Rel (k + 4) u v) v) u) I ?_
  intro f_openMarkLength f_closeMarkLength f_openCount f_compileFrom f_compileTo f_frameCount f_valueTextLength f_renderAt f_renderTo f_returnAt f_finished f_overflowed a_text a_cellKind a_cellName a_tagEnd a_sectionEnd a_textLength a_slotStatus a_slotError a_openMark a_closeMark a_openTags a_valueKind a_amount a_parts a_fieldValues a_out a_frameValue a_frameList a_frameNext a_frameBody a_valueText g_ol g_cl g_newOl g_newCl g_tagName g_parseErr g_openCount g_fn g_cn b_removed b_tType b_tA b_tB b_tName b_tMatch b_tCount b_oc b_cc b_newO b_newC b_openName b_openTok b_vKind b_vNum b_vCnt b_vStr b_vItem b_vKey b_vVal b_fv b_cKind b_cSlot b_cTok b_cVal b_cIdx b_dig ln nv oc cap kd ct hc1 hc2 hoc hT hV
  exact ⟨rfl, ir_mk hc1 hc2 hoc hT hV⟩
theorem i_vc_outChar {k : Nat} {u : SX} {v : SY} (I : i_Rel k u v) (hk : k + 4 ≤ 2049) (v1 : Int32) : wpX_outChar (fun r => wpY_outChar (fun r' => r' = r ∧ i_Rel (k + 4) u v) v v1) u v1 := by
  refine ir_el (P := fun u v => wpX_outChar (fun r => wpY_outChar (fun r' => r' = r ∧ i_Rel (k + 4) u v) v v1) u v1) I ?_
  intro f_openMarkLength f_closeMarkLength f_openCount f_compileFrom f_compileTo f_frameCount f_valueTextLength f_renderAt f_renderTo f_returnAt f_finished f_overflowed a_text a_cellKind a_cellName a_tagEnd a_sectionEnd a_textLength a_slotStatus a_slotError a_openMark a_closeMark a_openTags a_valueKind a_amount a_parts a_fieldValues a_out a_frameValue a_frameList a_frameNext a_frameBody a_valueText g_ol g_cl g_newOl g_newCl g_tagName g_parseErr g_openCount g_fn g_cn b_removed b_tType b_tA b_tB b_tName b_tMatch b_tCount b_oc b_cc b_newO b_newC b_openName b_openTok b_vKind b_vNum b_vCnt b_vStr b_vItem b_vKey b_vVal b_fv b_cKind b_cSlot b_cTok b_cVal b_cIdx b_dig ln nv oc cap kd ct hc1 hc2 hoc hT hV
  unfold wpX_outChar wpY_outChar
  rcases pk_ix v1 (n := oc) (by omega) with h | h | ⟨j, hj, rfl⟩
  · exact br_t h (br_t h ⟨rfl, ir_mk hc1 hc2 hoc hT hV⟩)
  · have h0 : ¬ v1 < 0 := fun z => absurd (Int32.lt_of_le_of_lt h z) (nI_pos (by omega))
    exact br_f h0 (br_t h (br_f h0 (br_f (Int32.not_lt.mpr h) ⟨rfl, ir_mk hc1 hc2 hoc hT hV⟩)))
  · exact br_f (nI_pos (by omega)) (br_f (nI_ge hj (by omega)) ⟨vp_in_nI (by omega) (by omega), br_f (nI_pos (by omega)) (br_t (nI_lt hj (by omega)) ⟨vp_in_nI (by omega) (by omega), rfl, ir_mk hc1 hc2 hoc hT hV⟩)⟩)
theorem i_vc_templateChar {k : Nat} {u : SX} {v : SY} (I : i_Rel k u v) (hk : k + 4 ≤ 2049) (v1 : Int32) (v2 : Int32) : wpX_templateChar (fun r => wpY_templateChar (fun r' => r' = r ∧ i_Rel (k + 4) u v) v v1 v2) u v1 v2 := by
  refine ir_el (P := fun u v => wpX_templateChar (fun r => wpY_templateChar (fun r' => r' = r ∧ i_Rel (k + 4) u v) v v1 v2) u v1 v2) I ?_
  intro f_openMarkLength f_closeMarkLength f_openCount f_compileFrom f_compileTo f_frameCount f_valueTextLength f_renderAt f_renderTo f_returnAt f_finished f_overflowed a_text a_cellKind a_cellName a_tagEnd a_sectionEnd a_textLength a_slotStatus a_slotError a_openMark a_closeMark a_openTags a_valueKind a_amount a_parts a_fieldValues a_out a_frameValue a_frameList a_frameNext a_frameBody a_valueText g_ol g_cl g_newOl g_newCl g_tagName g_parseErr g_openCount g_fn g_cn b_removed b_tType b_tA b_tB b_tName b_tMatch b_tCount b_oc b_cc b_newO b_newC b_openName b_openTok b_vKind b_vNum b_vCnt b_vStr b_vItem b_vKey b_vVal b_fv b_cKind b_cSlot b_cTok b_cVal b_cIdx b_dig ln nv oc cap kd ct hc1 hc2 hoc hT hV
  unfold wpX_templateChar wpY_templateChar
  rcases pk_ix v1 (n := 4) (by omega) with h | h | ⟨s, hs, rfl⟩
  · exact xl_nslot (Or.inl h) (br_t rfl (br_t h ⟨rfl, ir_mk hc1 hc2 hoc hT hV⟩))
  · exact xl_nslot (Or.inr h) (br_t rfl (br_c (fun _ => ⟨rfl, ir_mk hc1 hc2 hoc hT hV⟩) (fun _ => br_f (fun z => absurd (Int32.le_trans h z) (by decide)) ⟨rfl, ir_mk hc1 hc2 hoc hT hV⟩)))
  · have hl := hT.1 s hs
    refine xl_slot hs (br_f (by decide) ?_)
    have y0 : ¬ nI s < 0 := nI_pos (by omega)
    have y3 : nI s ≤ 3 := nI_le (b := 3) (by omega) (by decide)
    by_cases z0 : v2 < 0
    · exact br_t z0 (br_f y0 (br_t y3 (br_t z0 ⟨rfl, ir_mk hc1 hc2 hoc hT hV⟩)))
    · obtain ⟨i, hi, rfl⟩ := nI_of z0
      refine br_f z0 ⟨vp_in_nI hs (by omega), ?_⟩
      rw [nI_clamp (show s < 2 ^ 31 from by omega), hl.2, la_m96, nI_add]
      refine pk_lt i (ln s) (fun z => ⟨vp_in_nI (by omega) (by omega), ?_⟩) (fun z => ?_)
      · refine br_f y0 (br_t y3 (br_f z0 ⟨vp_in_nI hs (by omega), br_t (by rw [hl.2]; exact nI_lt z (by omega)) ⟨vp_in_nI (by omega) (by omega), rfl, ir_mk hc1 hc2 hoc hT hV⟩⟩))
      · refine br_f y0 (br_t y3 (br_f z0 ⟨vp_in_nI hs (by omega), br_f (by rw [hl.2]; exact nI_nlt z (by omega)) ⟨rfl, ir_mk hc1 hc2 hoc hT hV⟩⟩))
end LLQ
