section LLRP
section MAIN
variable {f_openMarkLength f_closeMarkLength f_openCount f_compileFrom f_compileTo f_valueCount f_outCap f_outCount f_frameCount f_valueTextLength f_renderAt f_renderTo f_returnAt f_finished f_overflowed : Int32} {a_text a_cellKind a_cellName a_tagEnd a_sectionEnd a_textLength a_slotStatus a_slotError a_openMark a_closeMark a_openTags a_valueKind a_amount a_parts a_fieldValues a_out a_frameValue a_frameList a_frameNext a_frameBody a_valueText : Nat → Int32} {g_ol g_cl g_newOl g_newCl g_tagName g_parseErr g_openCount g_nVals g_outLen g_outCap g_fn g_cn : Int32} {b_text b_len b_stat b_errPos b_removed b_tType b_tA b_tB b_tName b_tMatch b_tCount b_oc b_cc b_newO b_newC b_openName b_openTok b_vKind b_vNum b_vCnt b_vStr b_vItem b_vKey b_vVal b_out b_fv b_cKind b_cSlot b_cTok b_cVal b_cIdx b_dig : Nat → Int32} {kk cap nv root : Nat} {kd ct ln M : Nat → Nat} {PS TP MT : Nat → Nat → Nat} {ST : Nat → Nat → List Nat}
theorem rd_main (hc1 : 16 ≤ cap) (hc2 : cap ≤ 256) (hT : ir_T ln a_text a_textLength a_slotStatus a_cellKind a_cellName a_tagEnd a_sectionEnd) (hV : vl_R nv kd ct a_valueKind a_amount a_parts a_fieldValues b_vKind b_vNum b_vCnt b_vStr b_vItem b_vKey b_vVal) (hD : sd_P a_slotStatus ln M PS TP MT ST a_text a_cellKind a_cellName a_tagEnd a_sectionEnd b_removed b_tType b_tA b_tB b_tName b_tMatch b_tCount) (r1 : 1 ≤ root) (r2 : root ≤ nv) (h00 : a_slotStatus 0 = 0) : ∀ B : Nat, rd_I kk cap nv root kd ct ln M PS TP MT ST f_openMarkLength f_closeMarkLength f_openCount f_compileFrom f_compileTo f_valueCount f_outCap f_outCount f_frameCount f_valueTextLength f_renderAt f_renderTo f_returnAt f_finished f_overflowed a_text a_cellKind a_cellName a_tagEnd a_sectionEnd a_textLength a_slotStatus a_slotError a_openMark a_closeMark a_openTags a_valueKind a_amount a_parts a_fieldValues a_out a_frameValue a_frameList a_frameNext a_frameBody a_valueText g_ol g_cl g_newOl g_newCl g_tagName g_parseErr g_openCount g_nVals g_outLen g_outCap g_fn g_cn b_text b_len b_stat b_errPos b_removed b_tType b_tA b_tB b_tName b_tMatch b_tCount b_oc b_cc b_newO b_newC b_openName b_openTok b_vKind b_vNum b_vCnt b_vStr b_vItem b_vKey b_vVal b_out b_fv b_cKind b_cSlot b_cTok b_cVal b_cIdx b_dig B := by
  intro B
  induction B using Nat.strongRecOn with
  | _ B ih =>
    intro es s tk fc fn cn t fV fL fN fB vt yv cK cS cT cV cI dg vl FX FY stX stY a1 a2 a3 a4 a5 a6 a7 a8 a9 a10 a11 a12 a13
    by_cases ht : tk = M s
    · exact rm_0 hc1 hc2 hT hV hD r1 r2 h00 (fun B' hB' => ih B' hB') a1 a2 a4 a5 a6 a7 a8 a9 a10 a11 a12 a13 ht
    · have ht' : tk < M s := by omega
      have hA := (hD s a1 a2).2.1.1.2.2 tk ht'
      have hcase : TP s tk = 1 ∨ TP s tk = 2 ∨ TP s tk = 3 ∨ TP s tk = 4 ∨ TP s tk = 5 ∨ TP s tk = 6 ∨ TP s tk = 7 ∨ TP s tk = 8 ∨ TP s tk = 9 := by omega
      rcases hcase with h | h | h | h | h | h | h | h | h
      · exact rm_1 hc1 hc2 hT hV hD r1 r2 h00 (fun B' hB' => ih B' hB') a1 a2 a4 a5 a6 a7 a8 a9 a10 a11 a12 a13 ht' h
      · exact rm_2 hc1 hc2 hT hV hD r1 r2 h00 (fun B' hB' => ih B' hB') a1 a2 a4 a5 a6 a7 a8 a9 a10 a11 a12 a13 ht' h
      · exact rm_3 hc1 hc2 hT hV hD r1 r2 h00 (fun B' hB' => ih B' hB') a1 a2 a4 a5 a6 a7 a8 a9 a10 a11 a12 a13 ht' h
      · exact rm_4 hc1 hc2 hT hV hD r1 r2 h00 (fun B' hB' => ih B' hB') a1 a2 a4 a5 a6 a7 a8 a9 a10 a11 a12 a13 ht' h
      · exact rm_5 hc1 hc2 hT hV hD r1 r2 h00 (fun B' hB' => ih B' hB') a1 a2 a4 a5 a6 a7 a8 a9 a10 a11 a12 a13 ht' h
      · exact rm_6 hc1 hc2 hT hV hD r1 r2 h00 (fun B' hB' => ih B' hB') a1 a2 a4 a5 a6 a7 a8 a9 a10 a11 a12 a13 ht' h
      · exact rm_7 hc1 hc2 hT hV hD r1 r2 h00 (fun B' hB' => ih B' hB') a1 a2 a4 a5 a6 a7 a8 a9 a10 a11 a12 a13 ht' h
      · exact rm_8 hc1 hc2 hT hV hD r1 r2 h00 (fun B' hB' => ih B' hB') a1 a2 a4 a5 a6 a7 a8 a9 a10 a11 a12 a13 ht' h
      · exact rm_9 hc1 hc2 hT hV hD r1 r2 h00 (fun B' hB' => ih B' hB') a1 a2 a4 a5 a6 a7 a8 a9 a10 a11 a12 a13 ht' h
end MAIN
section PARSE
variable {f_openMarkLength f_closeMarkLength f_openCount f_compileFrom f_compileTo f_valueCount f_outCap f_outCount f_frameCount f_valueTextLength f_renderAt f_renderTo f_returnAt f_finished f_overflowed : Int32} {a_text a_cellKind a_cellName a_tagEnd a_sectionEnd a_textLength a_slotStatus a_slotError a_openMark a_closeMark a_openTags a_valueKind a_amount a_parts a_fieldValues a_out a_frameValue a_frameList a_frameNext a_frameBody a_valueText : Nat → Int32}
/-- Y's parses ahead of the walk: the slots below d are done -/
theorem yp_35 {ln : Nat → Nat} {x1 : Int32} (hT : ir_T ln a_text a_textLength a_slotStatus a_cellKind a_cellName a_tagEnd a_sectionEnd) : ∀ (e d : Nat), d + e = 4 → ∀ (g_ol g_cl g_newOl g_newCl g_tagName g_parseErr g_openCount g_nVals g_outLen g_outCap g_fn g_cn : Int32) (b_text b_len b_stat b_errPos b_removed b_tType b_tA b_tB b_tName b_tMatch b_tCount b_oc b_cc b_newO b_newC b_openName b_openTok b_vKind b_vNum b_vCnt b_vStr b_vItem b_vKey b_vVal b_out b_fv b_cKind b_cSlot b_cTok b_cVal b_cIdx b_dig : Nat → Int32), (∀ s, s < d → a_slotStatus s = 0 → ∃ (m : Nat) (ps tp : Nat → Nat) (st : Nat → List Nat), b_tCount s = nI m ∧ tk_F s (ln s) (fun i => a_text (s * 96 + i)) a_cellKind a_cellName a_tagEnd a_sectionEnd b_removed b_tType b_tA b_tB b_tName b_tMatch m ps tp st) →
    ∃ (g_ol' g_cl' g_newOl' g_newCl' g_tagName' g_parseErr' g_openCount' : Int32) (b_removed' b_tType' b_tA' b_tB' b_tName' b_tMatch' b_tCount' b_oc' b_cc' b_newO' b_newC' b_openName' b_openTok' : Nat → Int32), (∀ s, s < 4 → a_slotStatus s = 0 → ∃ (m : Nat) (ps tp : Nat → Nat) (st : Nat → List Nat), b_tCount' s = nI m ∧ tk_F s (ln s) (fun i => a_text (s * 96 + i)) a_cellKind a_cellName a_tagEnd a_sectionEnd b_removed' b_tType' b_tA' b_tB' b_tName' b_tMatch' m ps tp st) ∧
    ∀ post : Int32 → SY → Prop, (∃ n85, wY_render_85 post n85 0 0 0 g_ol' g_cl' g_newOl' g_newCl' g_tagName' g_parseErr' g_openCount' g_nVals g_outLen g_outCap 1 0 a_text a_textLength a_slotStatus b_errPos b_removed' b_tType' b_tA' b_tB' b_tName' b_tMatch' b_tCount' b_oc' b_cc' b_newO' b_newC' b_openName' b_openTok' b_vKind b_vNum b_vCnt b_vStr b_vItem b_vKey b_vVal b_out (upd b_fv 0 x1) b_cKind b_cSlot b_cTok b_cVal b_cIdx b_dig) → wY_render_35 post x1 (e + 1) (nI d) g_ol g_cl g_newOl g_newCl g_tagName g_parseErr g_openCount g_nVals g_outLen g_outCap g_fn g_cn a_text a_textLength a_slotStatus b_errPos b_removed b_tType b_tA b_tB b_tName b_tMatch b_tCount b_oc b_cc b_newO b_newC b_openName b_openTok b_vKind b_vNum b_vCnt b_vStr b_vItem b_vKey b_vVal b_out b_fv b_cKind b_cSlot b_cTok b_cVal b_cIdx b_dig := by
  intro e
  induction e with
  | zero =>
    intro d hd g_ol g_cl g_newOl g_newCl g_tagName g_parseErr g_openCount g_nVals g_outLen g_outCap g_fn g_cn b_text b_len b_stat b_errPos b_removed b_tType b_tA b_tB b_tName b_tMatch b_tCount b_oc b_cc b_newO b_newC b_openName b_openTok b_vKind b_vNum b_vCnt b_vStr b_vItem b_vKey b_vVal b_out b_fv b_cKind b_cSlot b_cTok b_cVal b_cIdx b_dig h
    have e4 : d = 4 := by omega
    subst e4
    exact ⟨g_ol, g_cl, g_newOl, g_newCl, g_tagName, g_parseErr, g_openCount, b_removed, b_tType, b_tA, b_tB, b_tName, b_tMatch, b_tCount, b_oc, b_cc, b_newO, b_newC, b_openName, b_openTok, h, fun post hp => br_t (nI_le (a := 4) (b := 4) (by omega) (by decide)) (nm_e hp)⟩
  | succ e ih =>
    intro d hd g_ol g_cl g_newOl g_newCl g_tagName g_parseErr g_openCount g_nVals g_outLen g_outCap g_fn g_cn b_text b_len b_stat b_errPos b_removed b_tType b_tA b_tB b_tName b_tMatch b_tCount b_oc b_cc b_newO b_newC b_openName b_openTok b_vKind b_vNum b_vCnt b_vStr b_vItem b_vKey b_vVal b_out b_fv b_cKind b_cSlot b_cTok b_cVal b_cIdx b_dig h
    have hd4 : d < 4 := by omega
    have eC : (nI d).toNatClampNeg = d := nI_clamp (by omega)
    by_cases z : a_slotStatus d = 0
    · have cp := hT.2.2 d hd4 z
      unfold cp_L at cp
      obtain ⟨g_ol1, g_cl1, g_newOl1, g_newCl1, g_tagName1, g_parseErr1, g_openCount1, b_removed1, b_tType1, b_tA1, b_tB1, b_tName1, b_tMatch1, b_tCount1, b_oc1, b_cc1, b_newO1, b_newC1, b_openName1, b_openTok1, hp, hc, hr, ht, m, ps, tp, st, hm, hF⟩ := cp g_ol g_cl g_newOl g_newCl g_tagName g_parseErr g_openCount g_nVals g_outLen g_outCap g_fn g_cn a_text a_textLength a_slotStatus b_errPos b_removed b_tType b_tA b_tB b_tName b_tMatch b_tCount b_oc b_cc b_newO b_newC b_openName b_openTok b_vKind b_vNum b_vCnt b_vStr b_vItem b_vKey b_vVal b_out b_fv b_cKind b_cSlot b_cTok b_cVal b_cIdx b_dig (fun i _ => rfl) (hT.1 d hd4).2
      obtain ⟨g_ol', g_cl', g_newOl', g_newCl', g_tagName', g_parseErr', g_openCount', b_removed', b_tType', b_tA', b_tB', b_tName', b_tMatch', b_tCount', b_oc', b_cc', b_newO', b_newC', b_openName', b_openTok', w1, w2⟩ := ih (d + 1) (by omega) g_ol1 g_cl1 g_newOl1 g_newCl1 g_tagName1 g_parseErr1 g_openCount1 g_nVals g_outLen g_outCap g_fn g_cn b_text b_len b_stat b_errPos b_removed1 b_tType1 b_tA1 b_tB1 b_tName1 b_tMatch1 b_tCount1 b_oc1 b_cc1 b_newO1 b_newC1 b_openName1 b_openTok1 b_vKind b_vNum b_vCnt b_vStr b_vItem b_vKey b_vVal b_out b_fv b_cKind b_cSlot b_cTok b_cVal b_cIdx b_dig (fun s hs hz => by
        by_cases e5 : s = d
        · subst e5
          exact ⟨m, ps, tp, st, hm, hF⟩
        · obtain ⟨m', ps', tp', st', k1, k2⟩ := h s (by omega) hz
          refine ⟨m', ps', tp', st', (hc s e5).trans k1, tk_Fcg (hT.1 s (by omega)).1 k2 (fun c hc' => ⟨rfl, rfl, rfl, rfl, rfl, hr s c e5 hc'⟩) (fun j hj => ht s j e5 hj)⟩)
      refine ⟨g_ol', g_cl', g_newOl', g_newCl', g_tagName', g_parseErr', g_openCount', b_removed', b_tType', b_tA', b_tB', b_tName', b_tMatch', b_tCount', b_oc', b_cc', b_newO', b_newC', b_openName', b_openTok', w1, fun post hpo => ?_⟩
      exact br_f (nI_ge (b := 4) hd4 (by decide)) ⟨vp_in_nI hd4 (by omega), br_t (by rw [eC]; exact z) (hp _ (nm_r (nI_1 _) (w2 post hpo)))⟩
    · obtain ⟨g_ol', g_cl', g_newOl', g_newCl', g_tagName', g_parseErr', g_openCount', b_removed', b_tType', b_tA', b_tB', b_tName', b_tMatch', b_tCount', b_oc', b_cc', b_newO', b_newC', b_openName', b_openTok', w1, w2⟩ := ih (d + 1) (by omega) g_ol g_cl g_newOl g_newCl g_tagName g_parseErr g_openCount g_nVals g_outLen g_outCap g_fn g_cn b_text b_len b_stat b_errPos b_removed b_tType b_tA b_tB b_tName b_tMatch b_tCount b_oc b_cc b_newO b_newC b_openName b_openTok b_vKind b_vNum b_vCnt b_vStr b_vItem b_vKey b_vVal b_out b_fv b_cKind b_cSlot b_cTok b_cVal b_cIdx b_dig (fun s hs hz => by
        by_cases e5 : s = d
        · subst e5; exact absurd hz z
        · exact h s (by omega) hz)
      refine ⟨g_ol', g_cl', g_newOl', g_newCl', g_tagName', g_parseErr', g_openCount', b_removed', b_tType', b_tA', b_tB', b_tName', b_tMatch', b_tCount', b_oc', b_cc', b_newO', b_newC', b_openName', b_openTok', w1, fun post hpo => ?_⟩
      exact br_f (nI_ge (b := 4) hd4 (by decide)) ⟨vp_in_nI hd4 (by omega), br_f (by rw [eC]; exact z) (nm_r (nI_1 _) (w2 post hpo))⟩
end PARSE
end LLRP
