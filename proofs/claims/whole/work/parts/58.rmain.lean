section LLRM
variable {f_openMarkLength f_closeMarkLength f_openCount f_compileFrom f_compileTo f_valueCount f_outCap f_outCount f_frameCount f_valueTextLength f_renderAt f_renderTo f_returnAt f_finished f_overflowed : Int32} {a_text a_cellKind a_cellName a_tagEnd a_sectionEnd a_textLength a_slotStatus a_slotError a_openMark a_closeMark a_openTags a_valueKind a_amount a_parts a_fieldValues a_out a_frameValue a_frameList a_frameNext a_frameBody a_valueText : Nat → Int32} {g_ol g_cl g_newOl g_newCl g_tagName g_parseErr g_openCount g_nVals g_outLen g_outCap g_fn g_cn : Int32} {b_text b_len b_stat b_errPos b_removed b_tType b_tA b_tB b_tName b_tMatch b_tCount b_oc b_cc b_newO b_newC b_openName b_openTok b_vKind b_vNum b_vCnt b_vStr b_vItem b_vKey b_vVal b_out b_fv b_cKind b_cSlot b_cTok b_cVal b_cIdx b_dig : Nat → Int32} {kk cap nv root : Nat} {kd ct ln M : Nat → Nat} {PS TP MT : Nat → Nat → Nat} {ST : Nat → Nat → List Nat}
theorem rn_w0 : ∀ (es : List (Nat × Nat × Nat × Nat × Nat × Nat)) (hs : List Nat), rn_m M TP ST nv es 0 hs → rn_w PS es = -1 := by
  intro es
  induction es with
  | nil => intro hs _; rfl
  | cons e es ih =>
    intro hs h
    rcases h with ⟨_, g2, _⟩ | ⟨g1, g2, g3, g4, g5, g6, g7⟩
    · exact absurd rfl g2
    · simp only [rn_w, if_neg (show ¬ e.1 = 9 from by omega)]
      exact ih _ g7
/-- the induction's claim below B -/
def rd_I (kk cap nv root : Nat) (kd ct ln M : Nat → Nat) (PS TP MT : Nat → Nat → Nat) (ST : Nat → Nat → List Nat) (f_openMarkLength f_closeMarkLength f_openCount f_compileFrom f_compileTo f_valueCount f_outCap f_outCount f_frameCount f_valueTextLength f_renderAt f_renderTo f_returnAt f_finished f_overflowed : Int32) (a_text a_cellKind a_cellName a_tagEnd a_sectionEnd a_textLength a_slotStatus a_slotError a_openMark a_closeMark a_openTags a_valueKind a_amount a_parts a_fieldValues a_out a_frameValue a_frameList a_frameNext a_frameBody a_valueText : Nat → Int32) (g_ol g_cl g_newOl g_newCl g_tagName g_parseErr g_openCount g_nVals g_outLen g_outCap g_fn g_cn : Int32) (b_text b_len b_stat b_errPos b_removed b_tType b_tA b_tB b_tName b_tMatch b_tCount b_oc b_cc b_newO b_newC b_openName b_openTok b_vKind b_vNum b_vCnt b_vStr b_vItem b_vKey b_vVal b_out b_fv b_cKind b_cSlot b_cTok b_cVal b_cIdx b_dig : Nat → Int32) (B : Nat) : Prop := ∀ (es : List (Nat × Nat × Nat × Nat × Nat × Nat)) (s tk fc fn cn : Nat) (t : (Nat → Int32) × Nat × Int32) (fV fL fN fB vt yv cK cS cT cV cI dg : Nat → Int32) (vl : Int32) (FX FY stX stY : Nat), s < 4 → a_slotStatus s = 0 → tk ≤ M s → rn_m M TP ST nv es s (ST s tk) → rq_P MT es s tk → rn_s PS kd root fV fL fN fB yv cK cS cT cV cI es fc fn cn → em_g cap t → t.2.2 = 0 → rn_p PS MT kd ct ln es (PS s tk) ≤ B → B < FX → B < FY → stX + B < 2410256 → stY + B < 4194304 → rd_C kk (fun post => wX_render_30 post FX (nI stX) f_openMarkLength f_closeMarkLength f_openCount f_compileFrom f_compileTo (nI nv) (nI cap) (nI (t).2.1) (nI fc) vl (nI (s * 96 + PS s tk)) (nI (s * 96 + ln s)) (rn_w PS es) 0 ((t).2.2) a_text a_cellKind a_cellName a_tagEnd a_sectionEnd a_textLength a_slotStatus a_slotError a_openMark a_closeMark a_openTags a_valueKind a_amount a_parts a_fieldValues ((t).1) fV fL fN fB vt) (fun post => wY_render_85 post FY (nI s) (nI tk) (nI stY) g_ol g_cl g_newOl g_newCl g_tagName g_parseErr g_openCount (nI nv) (nI (t).2.1) (nI cap) (nI fn) (nI cn) a_text a_textLength a_slotStatus a_slotError b_removed b_tType b_tA b_tB b_tName b_tMatch b_tCount b_oc b_cc b_newO b_newC b_openName b_openTok b_vKind b_vNum b_vCnt b_vStr b_vItem b_vKey b_vVal ((t).1) yv cK cS cT cV cI dg)
theorem rm_1 (hc1 : 16 ≤ cap) (hc2 : cap ≤ 256) (hT : ir_T ln a_text a_textLength a_slotStatus a_cellKind a_cellName a_tagEnd a_sectionEnd) (hV : vl_R nv kd ct a_valueKind a_amount a_parts a_fieldValues b_vKind b_vNum b_vCnt b_vStr b_vItem b_vKey b_vVal) (hD : sd_P a_slotStatus ln M PS TP MT ST a_text a_cellKind a_cellName a_tagEnd a_sectionEnd b_removed b_tType b_tA b_tB b_tName b_tMatch b_tCount) (r1 : 1 ≤ root) (r2 : root ≤ nv) (h00 : a_slotStatus 0 = 0) {B : Nat} {es : List (Nat × Nat × Nat × Nat × Nat × Nat)} {s tk fc fn cn : Nat} {t : (Nat → Int32) × Nat × Int32} {fV fL fN fB vt yv cK cS cT cV cI dg : Nat → Int32} {vl : Int32} {FX FY stX stY : Nat} (ih : ∀ B', B' < B → rd_I kk cap nv root kd ct ln M PS TP MT ST f_openMarkLength f_closeMarkLength f_openCount f_compileFrom f_compileTo f_valueCount f_outCap f_outCount f_frameCount f_valueTextLength f_renderAt f_renderTo f_returnAt f_finished f_overflowed a_text a_cellKind a_cellName a_tagEnd a_sectionEnd a_textLength a_slotStatus a_slotError a_openMark a_closeMark a_openTags a_valueKind a_amount a_parts a_fieldValues a_out a_frameValue a_frameList a_frameNext a_frameBody a_valueText g_ol g_cl g_newOl g_newCl g_tagName g_parseErr g_openCount g_nVals g_outLen g_outCap g_fn g_cn b_text b_len b_stat b_errPos b_removed b_tType b_tA b_tB b_tName b_tMatch b_tCount b_oc b_cc b_newO b_newC b_openName b_openTok b_vKind b_vNum b_vCnt b_vStr b_vItem b_vKey b_vVal b_out b_fv b_cKind b_cSlot b_cTok b_cVal b_cIdx b_dig B') (hs : s < 4) (h0 : a_slotStatus s = 0) (hm : rn_m M TP ST nv es s (ST s tk)) (hq : rq_P MT es s tk) (hS : rn_s PS kd root fV fL fN fB yv cK cS cT cV cI es fc fn cn) (g : em_g cap t) (hz : t.2.2 = 0) (hB : rn_p PS MT kd ct ln es (PS s tk) ≤ B) (hFX : B < FX) (hFY : B < FY) (hsX : stX + B < 2410256) (hsY : stY + B < 4194304) (ht : tk < M s) (h1 : TP s tk = 1) : rd_C kk (fun post => wX_render_30 post FX (nI stX) f_openMarkLength f_closeMarkLength f_openCount f_compileFrom f_compileTo (nI nv) (nI cap) (nI (t).2.1) (nI fc) vl (nI (s * 96 + PS s tk)) (nI (s * 96 + ln s)) (rn_w PS es) 0 ((t).2.2) a_text a_cellKind a_cellName a_tagEnd a_sectionEnd a_textLength a_slotStatus a_slotError a_openMark a_closeMark a_openTags a_valueKind a_amount a_parts a_fieldValues ((t).1) fV fL fN fB vt) (fun post => wY_render_85 post FY (nI s) (nI tk) (nI stY) g_ol g_cl g_newOl g_newCl g_tagName g_parseErr g_openCount (nI nv) (nI (t).2.1) (nI cap) (nI fn) (nI cn) a_text a_textLength a_slotStatus a_slotError b_removed b_tType b_tA b_tB b_tName b_tMatch b_tCount b_oc b_cc b_newO b_newC b_openName b_openTok b_vKind b_vNum b_vCnt b_vStr b_vItem b_vKey b_vVal ((t).1) yv cK cS cT cV cI dg) := by
  obtain ⟨hl, hF, hC, hMT⟩ := hD s hs h0
  have hmp := tk_mp hF.1
  obtain ⟨FX', rfl⟩ : ∃ FX', FX = FX' + 1 := ⟨FX - 1, by omega⟩
  obtain ⟨FY', rfl⟩ : ∃ FY', FY = FY' + 1 := ⟨FY - 1, by omega⟩
  have len2 := (hF.2.2.1.2.2.1 tk (by omega)).1
  have l00 : ∀ x, x < M 0 → (ST 0 x).length ≤ 2 := fun x hx => ((hD 0 (by omega) h00).2.1.2.2.1.2.2.1 x (by omega)).1
  have b5 : fc ≤ (ST s tk).length + 3 := by
    have a := rn_sf es fc fn cn hS
    have b := rn_nl l00 es s _ hm
    split at b <;> omega
  have bl : es.length ≤ (ST s tk).length + 3 := by
    have b := rn_len l00 es s _ hm
    split at b <;> omega
  have bn := rn_sn es fc fn cn hS
  have rt := rn_r1 hm len2
  have p1 := rn_p1 (PS := PS) (MT := MT) (kd := kd) (ct := ct) (ln := ln) es (PS s tk)
  have hA := hF.1.2.2 tk ht
  have hle : PS s (tk + 1) ≤ ln s := tk_ap hF.1 (by omega)
  have hqr : s * 96 + PS s tk < s * 96 + ln s := by omega
  have hrt : s * 96 + ln s ≤ 384 := by omega
  have n6 : TP s tk ≠ 6 := by omega
  have n7 : TP s tk ≠ 7 := by omega
  have n8 : TP s tk ≠ 8 := by omega
  have rqn := rq_go hD hs h0 ht n8 hm hq
  have hmn : rn_m M TP ST nv es s (ST s (tk + 1)) := by rw [tk_oth hF ht n6 n7 n8]; exact hm
  have pot : rn_p PS MT kd ct ln es (PS s (tk + 1)) + (PS s (tk + 1) - PS s tk) ≤ rn_p PS MT kd ct ln es (PS s tk) := by
    have a := rn_d (kd := kd) (ct := ct) es (c := PS s tk) (c' := PS s (tk + 1)) (by omega) (rq_e hD hs h0 (by omega) hmn rqn)
    have b : 1 * (PS s (tk + 1) - PS s tk) ≤ rn_r es * (PS s (tk + 1) - PS s tk) := Nat.mul_le_mul_right _ rt.1
    omega
  have p2 := rn_p1 (PS := PS) (MT := MT) (kd := kd) (ct := ct) (ln := ln) es (PS s (tk + 1))
  refine rd_go (fun post h => h) (fun post h => ys_lit (by omega) hs (by omega) ht hC (by rw [hA.2.2.2.1, h1]) hA.2.2.2.2.1 ⟨_, h⟩) (rd_lit hc1 hc2 hT hV hD (F := B - (PS s (tk + 1) - PS s tk)) hs h0 ht h1 (fun t' FX2 stX2 g' hz' a b => ih (B - (PS s (tk + 1) - PS s tk)) (by omega) es s (tk + 1) fc fn cn t' fV fL fN fB vt yv cK cS cT cV cI dg vl FX2 FY' stX2 (stY + 1) hs h0 (by omega) hmn rqn hS g' hz' (by omega) a (by omega) b (by omega)) (PS s (tk + 1) - PS s tk) (PS s tk) t (FX' + 1) stX (by omega) (Nat.le_refl _) g hz (by omega) (by omega) (by omega))
theorem rm_2 (hc1 : 16 ≤ cap) (hc2 : cap ≤ 256) (hT : ir_T ln a_text a_textLength a_slotStatus a_cellKind a_cellName a_tagEnd a_sectionEnd) (hV : vl_R nv kd ct a_valueKind a_amount a_parts a_fieldValues b_vKind b_vNum b_vCnt b_vStr b_vItem b_vKey b_vVal) (hD : sd_P a_slotStatus ln M PS TP MT ST a_text a_cellKind a_cellName a_tagEnd a_sectionEnd b_removed b_tType b_tA b_tB b_tName b_tMatch b_tCount) (r1 : 1 ≤ root) (r2 : root ≤ nv) (h00 : a_slotStatus 0 = 0) {B : Nat} {es : List (Nat × Nat × Nat × Nat × Nat × Nat)} {s tk fc fn cn : Nat} {t : (Nat → Int32) × Nat × Int32} {fV fL fN fB vt yv cK cS cT cV cI dg : Nat → Int32} {vl : Int32} {FX FY stX stY : Nat} (ih : ∀ B', B' < B → rd_I kk cap nv root kd ct ln M PS TP MT ST f_openMarkLength f_closeMarkLength f_openCount f_compileFrom f_compileTo f_valueCount f_outCap f_outCount f_frameCount f_valueTextLength f_renderAt f_renderTo f_returnAt f_finished f_overflowed a_text a_cellKind a_cellName a_tagEnd a_sectionEnd a_textLength a_slotStatus a_slotError a_openMark a_closeMark a_openTags a_valueKind a_amount a_parts a_fieldValues a_out a_frameValue a_frameList a_frameNext a_frameBody a_valueText g_ol g_cl g_newOl g_newCl g_tagName g_parseErr g_openCount g_nVals g_outLen g_outCap g_fn g_cn b_text b_len b_stat b_errPos b_removed b_tType b_tA b_tB b_tName b_tMatch b_tCount b_oc b_cc b_newO b_newC b_openName b_openTok b_vKind b_vNum b_vCnt b_vStr b_vItem b_vKey b_vVal b_out b_fv b_cKind b_cSlot b_cTok b_cVal b_cIdx b_dig B') (hs : s < 4) (h0 : a_slotStatus s = 0) (hm : rn_m M TP ST nv es s (ST s tk)) (hq : rq_P MT es s tk) (hS : rn_s PS kd root fV fL fN fB yv cK cS cT cV cI es fc fn cn) (g : em_g cap t) (hz : t.2.2 = 0) (hB : rn_p PS MT kd ct ln es (PS s tk) ≤ B) (hFX : B < FX) (hFY : B < FY) (hsX : stX + B < 2410256) (hsY : stY + B < 4194304) (ht : tk < M s) (hk : TP s tk = 2) : rd_C kk (fun post => wX_render_30 post FX (nI stX) f_openMarkLength f_closeMarkLength f_openCount f_compileFrom f_compileTo (nI nv) (nI cap) (nI (t).2.1) (nI fc) vl (nI (s * 96 + PS s tk)) (nI (s * 96 + ln s)) (rn_w PS es) 0 ((t).2.2) a_text a_cellKind a_cellName a_tagEnd a_sectionEnd a_textLength a_slotStatus a_slotError a_openMark a_closeMark a_openTags a_valueKind a_amount a_parts a_fieldValues ((t).1) fV fL fN fB vt) (fun post => wY_render_85 post FY (nI s) (nI tk) (nI stY) g_ol g_cl g_newOl g_newCl g_tagName g_parseErr g_openCount (nI nv) (nI (t).2.1) (nI cap) (nI fn) (nI cn) a_text a_textLength a_slotStatus a_slotError b_removed b_tType b_tA b_tB b_tName b_tMatch b_tCount b_oc b_cc b_newO b_newC b_openName b_openTok b_vKind b_vNum b_vCnt b_vStr b_vItem b_vKey b_vVal ((t).1) yv cK cS cT cV cI dg) := by
  obtain ⟨hl, hF, hC, hMT⟩ := hD s hs h0
  have hmp := tk_mp hF.1
  obtain ⟨FX', rfl⟩ : ∃ FX', FX = FX' + 1 := ⟨FX - 1, by omega⟩
  obtain ⟨FY', rfl⟩ : ∃ FY', FY = FY' + 1 := ⟨FY - 1, by omega⟩
  have len2 := (hF.2.2.1.2.2.1 tk (by omega)).1
  have l00 : ∀ x, x < M 0 → (ST 0 x).length ≤ 2 := fun x hx => ((hD 0 (by omega) h00).2.1.2.2.1.2.2.1 x (by omega)).1
  have b5 : fc ≤ (ST s tk).length + 3 := by
    have a := rn_sf es fc fn cn hS
    have b := rn_nl l00 es s _ hm
    split at b <;> omega
  have bl : es.length ≤ (ST s tk).length + 3 := by
    have b := rn_len l00 es s _ hm
    split at b <;> omega
  have bn := rn_sn es fc fn cn hS
  have rt := rn_r1 hm len2
  have p1 := rn_p1 (PS := PS) (MT := MT) (kd := kd) (ct := ct) (ln := ln) es (PS s tk)
  have hA := hF.1.2.2 tk ht
  have hle : PS s (tk + 1) ≤ ln s := tk_ap hF.1 (by omega)
  have hqr : s * 96 + PS s tk < s * 96 + ln s := by omega
  have hrt : s * 96 + ln s ≤ 384 := by omega
  have n6 : TP s tk ≠ 6 := by omega
  have n7 : TP s tk ≠ 7 := by omega
  have n8 : TP s tk ≠ 8 := by omega
  have rqn := rq_go hD hs h0 ht n8 hm hq
  have hmn : rn_m M TP ST nv es s (ST s (tk + 1)) := by rw [tk_oth hF ht n6 n7 n8]; exact hm
  have pot : rn_p PS MT kd ct ln es (PS s (tk + 1)) + (PS s (tk + 1) - PS s tk) ≤ rn_p PS MT kd ct ln es (PS s tk) := by
    have a := rn_d (kd := kd) (ct := ct) es (c := PS s tk) (c' := PS s (tk + 1)) (by omega) (rq_e hD hs h0 (by omega) hmn rqn)
    have b : 1 * (PS s (tk + 1) - PS s tk) ≤ rn_r es * (PS s (tk + 1) - PS s tk) := Nat.mul_le_mul_right _ rt.1
    omega
  have hKE := hF.2.1.2.1 tk ht (by omega)
  have hKk : a_cellKind (s * 96 + PS s tk) = nI 4 := by rw [hKE.1, hk]; rfl
  have hTy : b_tType (s * 100 + tk) = nI 2 := by rw [hA.2.2.2.1, hk]
  exact rd_go (fun post h => xs_sk4 (by omega) hz hc2 hqr hrt hKk hKE.2.1 h) (fun post h => ys_o2 (by omega) hs (by omega) ht hC hTy h) (ih (B - 1) (by omega) es s (tk + 1) fc fn cn (t) fV fL fN fB vt yv cK cS cT cV cI dg vl FX' FY' (stX + 1) (stY + 1) hs h0 (by omega) hmn rqn hS g hz (by omega) (by omega) (by omega) (by omega) (by omega))
theorem rm_3 (hc1 : 16 ≤ cap) (hc2 : cap ≤ 256) (hT : ir_T ln a_text a_textLength a_slotStatus a_cellKind a_cellName a_tagEnd a_sectionEnd) (hV : vl_R nv kd ct a_valueKind a_amount a_parts a_fieldValues b_vKind b_vNum b_vCnt b_vStr b_vItem b_vKey b_vVal) (hD : sd_P a_slotStatus ln M PS TP MT ST a_text a_cellKind a_cellName a_tagEnd a_sectionEnd b_removed b_tType b_tA b_tB b_tName b_tMatch b_tCount) (r1 : 1 ≤ root) (r2 : root ≤ nv) (h00 : a_slotStatus 0 = 0) {B : Nat} {es : List (Nat × Nat × Nat × Nat × Nat × Nat)} {s tk fc fn cn : Nat} {t : (Nat → Int32) × Nat × Int32} {fV fL fN fB vt yv cK cS cT cV cI dg : Nat → Int32} {vl : Int32} {FX FY stX stY : Nat} (ih : ∀ B', B' < B → rd_I kk cap nv root kd ct ln M PS TP MT ST f_openMarkLength f_closeMarkLength f_openCount f_compileFrom f_compileTo f_valueCount f_outCap f_outCount f_frameCount f_valueTextLength f_renderAt f_renderTo f_returnAt f_finished f_overflowed a_text a_cellKind a_cellName a_tagEnd a_sectionEnd a_textLength a_slotStatus a_slotError a_openMark a_closeMark a_openTags a_valueKind a_amount a_parts a_fieldValues a_out a_frameValue a_frameList a_frameNext a_frameBody a_valueText g_ol g_cl g_newOl g_newCl g_tagName g_parseErr g_openCount g_nVals g_outLen g_outCap g_fn g_cn b_text b_len b_stat b_errPos b_removed b_tType b_tA b_tB b_tName b_tMatch b_tCount b_oc b_cc b_newO b_newC b_openName b_openTok b_vKind b_vNum b_vCnt b_vStr b_vItem b_vKey b_vVal b_out b_fv b_cKind b_cSlot b_cTok b_cVal b_cIdx b_dig B') (hs : s < 4) (h0 : a_slotStatus s = 0) (hm : rn_m M TP ST nv es s (ST s tk)) (hq : rq_P MT es s tk) (hS : rn_s PS kd root fV fL fN fB yv cK cS cT cV cI es fc fn cn) (g : em_g cap t) (hz : t.2.2 = 0) (hB : rn_p PS MT kd ct ln es (PS s tk) ≤ B) (hFX : B < FX) (hFY : B < FY) (hsX : stX + B < 2410256) (hsY : stY + B < 4194304) (ht : tk < M s) (hk : TP s tk = 3) : rd_C kk (fun post => wX_render_30 post FX (nI stX) f_openMarkLength f_closeMarkLength f_openCount f_compileFrom f_compileTo (nI nv) (nI cap) (nI (t).2.1) (nI fc) vl (nI (s * 96 + PS s tk)) (nI (s * 96 + ln s)) (rn_w PS es) 0 ((t).2.2) a_text a_cellKind a_cellName a_tagEnd a_sectionEnd a_textLength a_slotStatus a_slotError a_openMark a_closeMark a_openTags a_valueKind a_amount a_parts a_fieldValues ((t).1) fV fL fN fB vt) (fun post => wY_render_85 post FY (nI s) (nI tk) (nI stY) g_ol g_cl g_newOl g_newCl g_tagName g_parseErr g_openCount (nI nv) (nI (t).2.1) (nI cap) (nI fn) (nI cn) a_text a_textLength a_slotStatus a_slotError b_removed b_tType b_tA b_tB b_tName b_tMatch b_tCount b_oc b_cc b_newO b_newC b_openName b_openTok b_vKind b_vNum b_vCnt b_vStr b_vItem b_vKey b_vVal ((t).1) yv cK cS cT cV cI dg) := by
  obtain ⟨hl, hF, hC, hMT⟩ := hD s hs h0
  have hmp := tk_mp hF.1
  obtain ⟨FX', rfl⟩ : ∃ FX', FX = FX' + 1 := ⟨FX - 1, by omega⟩
  obtain ⟨FY', rfl⟩ : ∃ FY', FY = FY' + 1 := ⟨FY - 1, by omega⟩
  have len2 := (hF.2.2.1.2.2.1 tk (by omega)).1
  have l00 : ∀ x, x < M 0 → (ST 0 x).length ≤ 2 := fun x hx => ((hD 0 (by omega) h00).2.1.2.2.1.2.2.1 x (by omega)).1
  have b5 : fc ≤ (ST s tk).length + 3 := by
    have a := rn_sf es fc fn cn hS
    have b := rn_nl l00 es s _ hm
    split at b <;> omega
  have bl : es.length ≤ (ST s tk).length + 3 := by
    have b := rn_len l00 es s _ hm
    split at b <;> omega
  have bn := rn_sn es fc fn cn hS
  have rt := rn_r1 hm len2
  have p1 := rn_p1 (PS := PS) (MT := MT) (kd := kd) (ct := ct) (ln := ln) es (PS s tk)
  have hA := hF.1.2.2 tk ht
  have hle : PS s (tk + 1) ≤ ln s := tk_ap hF.1 (by omega)
  have hqr : s * 96 + PS s tk < s * 96 + ln s := by omega
  have hrt : s * 96 + ln s ≤ 384 := by omega
  have n6 : TP s tk ≠ 6 := by omega
  have n7 : TP s tk ≠ 7 := by omega
  have n8 : TP s tk ≠ 8 := by omega
  have rqn := rq_go hD hs h0 ht n8 hm hq
  have hmn : rn_m M TP ST nv es s (ST s (tk + 1)) := by rw [tk_oth hF ht n6 n7 n8]; exact hm
  have pot : rn_p PS MT kd ct ln es (PS s (tk + 1)) + (PS s (tk + 1) - PS s tk) ≤ rn_p PS MT kd ct ln es (PS s tk) := by
    have a := rn_d (kd := kd) (ct := ct) es (c := PS s tk) (c' := PS s (tk + 1)) (by omega) (rq_e hD hs h0 (by omega) hmn rqn)
    have b : 1 * (PS s (tk + 1) - PS s tk) ≤ rn_r es * (PS s (tk + 1) - PS s tk) := Nat.mul_le_mul_right _ rt.1
    omega
  have hKE := hF.2.1.2.1 tk ht (by omega)
  have hKk : a_cellKind (s * 96 + PS s tk) = nI 5 := by rw [hKE.1, hk]; rfl
  have hTy : b_tType (s * 100 + tk) = nI 3 := by rw [hA.2.2.2.1, hk]
  exact rd_go (fun post h => xs_sk5 (by omega) hz hc2 hqr hrt hKk hKE.2.1 h) (fun post h => ys_o3 (by omega) hs (by omega) ht hC hTy h) (ih (B - 1) (by omega) es s (tk + 1) fc fn cn (t) fV fL fN fB vt yv cK cS cT cV cI dg vl FX' FY' (stX + 1) (stY + 1) hs h0 (by omega) hmn rqn hS g hz (by omega) (by omega) (by omega) (by omega) (by omega))
theorem rm_4 (hc1 : 16 ≤ cap) (hc2 : cap ≤ 256) (hT : ir_T ln a_text a_textLength a_slotStatus a_cellKind a_cellName a_tagEnd a_sectionEnd) (hV : vl_R nv kd ct a_valueKind a_amount a_parts a_fieldValues b_vKind b_vNum b_vCnt b_vStr b_vItem b_vKey b_vVal) (hD : sd_P a_slotStatus ln M PS TP MT ST a_text a_cellKind a_cellName a_tagEnd a_sectionEnd b_removed b_tType b_tA b_tB b_tName b_tMatch b_tCount) (r1 : 1 ≤ root) (r2 : root ≤ nv) (h00 : a_slotStatus 0 = 0) {B : Nat} {es : List (Nat × Nat × Nat × Nat × Nat × Nat)} {s tk fc fn cn : Nat} {t : (Nat → Int32) × Nat × Int32} {fV fL fN fB vt yv cK cS cT cV cI dg : Nat → Int32} {vl : Int32} {FX FY stX stY : Nat} (ih : ∀ B', B' < B → rd_I kk cap nv root kd ct ln M PS TP MT ST f_openMarkLength f_closeMarkLength f_openCount f_compileFrom f_compileTo f_valueCount f_outCap f_outCount f_frameCount f_valueTextLength f_renderAt f_renderTo f_returnAt f_finished f_overflowed a_text a_cellKind a_cellName a_tagEnd a_sectionEnd a_textLength a_slotStatus a_slotError a_openMark a_closeMark a_openTags a_valueKind a_amount a_parts a_fieldValues a_out a_frameValue a_frameList a_frameNext a_frameBody a_valueText g_ol g_cl g_newOl g_newCl g_tagName g_parseErr g_openCount g_nVals g_outLen g_outCap g_fn g_cn b_text b_len b_stat b_errPos b_removed b_tType b_tA b_tB b_tName b_tMatch b_tCount b_oc b_cc b_newO b_newC b_openName b_openTok b_vKind b_vNum b_vCnt b_vStr b_vItem b_vKey b_vVal b_out b_fv b_cKind b_cSlot b_cTok b_cVal b_cIdx b_dig B') (hs : s < 4) (h0 : a_slotStatus s = 0) (hm : rn_m M TP ST nv es s (ST s tk)) (hq : rq_P MT es s tk) (hS : rn_s PS kd root fV fL fN fB yv cK cS cT cV cI es fc fn cn) (g : em_g cap t) (hz : t.2.2 = 0) (hB : rn_p PS MT kd ct ln es (PS s tk) ≤ B) (hFX : B < FX) (hFY : B < FY) (hsX : stX + B < 2410256) (hsY : stY + B < 4194304) (ht : tk < M s) (hk : TP s tk = 4) : rd_C kk (fun post => wX_render_30 post FX (nI stX) f_openMarkLength f_closeMarkLength f_openCount f_compileFrom f_compileTo (nI nv) (nI cap) (nI (t).2.1) (nI fc) vl (nI (s * 96 + PS s tk)) (nI (s * 96 + ln s)) (rn_w PS es) 0 ((t).2.2) a_text a_cellKind a_cellName a_tagEnd a_sectionEnd a_textLength a_slotStatus a_slotError a_openMark a_closeMark a_openTags a_valueKind a_amount a_parts a_fieldValues ((t).1) fV fL fN fB vt) (fun post => wY_render_85 post FY (nI s) (nI tk) (nI stY) g_ol g_cl g_newOl g_newCl g_tagName g_parseErr g_openCount (nI nv) (nI (t).2.1) (nI cap) (nI fn) (nI cn) a_text a_textLength a_slotStatus a_slotError b_removed b_tType b_tA b_tB b_tName b_tMatch b_tCount b_oc b_cc b_newO b_newC b_openName b_openTok b_vKind b_vNum b_vCnt b_vStr b_vItem b_vKey b_vVal ((t).1) yv cK cS cT cV cI dg) := by
  obtain ⟨hl, hF, hC, hMT⟩ := hD s hs h0
  have hmp := tk_mp hF.1
  obtain ⟨FX', rfl⟩ : ∃ FX', FX = FX' + 1 := ⟨FX - 1, by omega⟩
  obtain ⟨FY', rfl⟩ : ∃ FY', FY = FY' + 1 := ⟨FY - 1, by omega⟩
  have len2 := (hF.2.2.1.2.2.1 tk (by omega)).1
  have l00 : ∀ x, x < M 0 → (ST 0 x).length ≤ 2 := fun x hx => ((hD 0 (by omega) h00).2.1.2.2.1.2.2.1 x (by omega)).1
  have b5 : fc ≤ (ST s tk).length + 3 := by
    have a := rn_sf es fc fn cn hS
    have b := rn_nl l00 es s _ hm
    split at b <;> omega
  have bl : es.length ≤ (ST s tk).length + 3 := by
    have b := rn_len l00 es s _ hm
    split at b <;> omega
  have bn := rn_sn es fc fn cn hS
  have rt := rn_r1 hm len2
  have p1 := rn_p1 (PS := PS) (MT := MT) (kd := kd) (ct := ct) (ln := ln) es (PS s tk)
  have hA := hF.1.2.2 tk ht
  have hle : PS s (tk + 1) ≤ ln s := tk_ap hF.1 (by omega)
  have hqr : s * 96 + PS s tk < s * 96 + ln s := by omega
  have hrt : s * 96 + ln s ≤ 384 := by omega
  have n6 : TP s tk ≠ 6 := by omega
  have n7 : TP s tk ≠ 7 := by omega
  have n8 : TP s tk ≠ 8 := by omega
  have rqn := rq_go hD hs h0 ht n8 hm hq
  have hmn : rn_m M TP ST nv es s (ST s (tk + 1)) := by rw [tk_oth hF ht n6 n7 n8]; exact hm
  have pot : rn_p PS MT kd ct ln es (PS s (tk + 1)) + (PS s (tk + 1) - PS s tk) ≤ rn_p PS MT kd ct ln es (PS s tk) := by
    have a := rn_d (kd := kd) (ct := ct) es (c := PS s tk) (c' := PS s (tk + 1)) (by omega) (rq_e hD hs h0 (by omega) hmn rqn)
    have b : 1 * (PS s (tk + 1) - PS s tk) ≤ rn_r es * (PS s (tk + 1) - PS s tk) := Nat.mul_le_mul_right _ rt.1
    omega
  have hKE := hF.2.1.2.1 tk ht (by omega)
  have hKk : a_cellKind (s * 96 + PS s tk) = nI 2 := by rw [hKE.1, hk]; rfl
  have hTy : b_tType (s * 100 + tk) = nI 4 := by rw [hA.2.2.2.1, hk]
  have hNm := (hF.2.1.2.2.1 tk ht (by omega)).1
  rcases lk_vr (M := M) (TP := TP) (ST := ST) hV r1 r2 (a_cellName (s * 96 + PS s tk)) hm with hL | ⟨w, w1, w2, hL⟩
  · exact rd_go (fun post h => xs_v0e hV r1 r2 hS hm (by omega) g hL hc2 hz hqr hrt hKk hKE.2.1 post FX' stX (by omega) h) (fun post h => ys_v0e hV r1 r2 hS hm (by omega) (by omega) hNm.symm hL hs (by omega) ht hC hTy post FY' stY (by omega) h) (ih (B - 1) (by omega) es s (tk + 1) fc fn cn (t) fV fL fN fB vt yv cK cS cT cV cI dg 0 FX' FY' (stX + 1) (stY + 1) hs h0 (by omega) hmn rqn hS g hz (by omega) (by omega) (by omega) (by omega) (by omega))
  · obtain ⟨j, rfl⟩ : ∃ j, w = j + 1 := ⟨w - 1, by omega⟩
    obtain ⟨vt', vl', hx⟩ := xs_v1e (f_openMarkLength := f_openMarkLength) (f_closeMarkLength := f_closeMarkLength) (f_openCount := f_openCount) (f_compileFrom := f_compileFrom) (f_compileTo := f_compileTo) (f_valueTextLength := vl) (f_returnAt := rn_w PS es) (a_text := a_text) (a_cellKind := a_cellKind) (a_cellName := a_cellName) (a_tagEnd := a_tagEnd) (a_sectionEnd := a_sectionEnd) (a_textLength := a_textLength) (a_slotStatus := a_slotStatus) (a_slotError := a_slotError) (a_openMark := a_openMark) (a_closeMark := a_closeMark) (a_openTags := a_openTags) (a_valueKind := a_valueKind) (a_amount := a_amount) (a_parts := a_parts) (a_fieldValues := a_fieldValues) (a_frameValue := fV) (a_frameList := fL) (a_frameNext := fN) (a_frameBody := fB) (a_valueText := vt) (q := s * 96 + PS s tk) (rt := s * 96 + ln s) (t := t) hV r1 r2 hS hm (by omega) g (by omega) hL hc2 hz hqr hrt hKk hKE.2.1
    obtain ⟨dg', hy⟩ := ys_v1e (g_ol := g_ol) (g_cl := g_cl) (g_newOl := g_newOl) (g_newCl := g_newCl) (g_tagName := g_tagName) (g_parseErr := g_parseErr) (g_openCount := g_openCount) (b_text := a_text) (b_len := a_textLength) (b_stat := a_slotStatus) (b_errPos := a_slotError) (b_removed := b_removed) (b_tType := b_tType) (b_tA := b_tA) (b_tB := b_tB) (b_tName := b_tName) (b_tMatch := b_tMatch) (b_tCount := b_tCount) (b_oc := b_oc) (b_cc := b_cc) (b_newO := b_newO) (b_newC := b_newC) (b_openName := b_openName) (b_openTok := b_openTok) (b_vKind := b_vKind) (b_vNum := b_vNum) (b_vCnt := b_vCnt) (b_vStr := b_vStr) (b_vItem := b_vItem) (b_vKey := b_vKey) (b_vVal := b_vVal) (b_fv := yv) (b_cKind := cK) (b_cSlot := cS) (b_cTok := cT) (b_cVal := cV) (b_cIdx := cI) (b_dig := dg) (s := s) (tk := tk) (t := t) hV r1 r2 hS hm (by omega) (by omega) hNm.symm g hc2 hz (by omega) hL hs (by omega) ht hC hTy
    by_cases ov : (em_l cap t (tx_l true kd ct a_amount a_parts (j + 1))).2.2 = 0
    · exact rd_go (fun post h => hx post FX' stX (by omega) h) (fun post h => hy post FY' stY (by omega) (fun _ => h) (fun z => absurd ov z)) (ih (B - 1) (by omega) es s (tk + 1) fc fn cn (em_l cap t (tx_l true kd ct a_amount a_parts (j + 1))) fV fL fN fB vt' yv cK cS cT cV cI dg' vl' FX' FY' (stX + 1) (stY + 1) hs h0 (by omega) hmn rqn hS (em_gl _ g) ov (by omega) (by omega) (by omega) (by omega) (by omega))
    · obtain ⟨FX2, rfl⟩ : ∃ FX2, FX' = FX2 + 1 := ⟨FX' - 1, by omega⟩
      exact ⟨-9, (f_openMarkLength, f_closeMarkLength, f_openCount, f_compileFrom, f_compileTo, nI nv, nI cap, nI (em_l cap t (tx_l true kd ct a_amount a_parts (j + 1))).2.1, nI fc, vl', nI (s * 96 + PS s (tk + 1)), nI (s * 96 + ln s), rn_w PS es, 0, (em_l cap t (tx_l true kd ct a_amount a_parts (j + 1))).2.2, a_text, a_cellKind, a_cellName, a_tagEnd, a_sectionEnd, a_textLength, a_slotStatus, a_slotError, a_openMark, a_closeMark, a_openTags, a_valueKind, a_amount, a_parts, a_fieldValues, (em_l cap t (tx_l true kd ct a_amount a_parts (j + 1))).1, fV, fL, fN, fB, vt'), (g_ol, g_cl, g_newOl, g_newCl, g_tagName, g_parseErr, g_openCount, nI nv, nI (em_l cap t (tx_l true kd ct a_amount a_parts (j + 1))).2.1, nI cap, nI fn, nI cn, a_text, a_textLength, a_slotStatus, a_slotError, b_removed, b_tType, b_tA, b_tB, b_tName, b_tMatch, b_tCount, b_oc, b_cc, b_newO, b_newC, b_openName, b_openTok, b_vKind, b_vNum, b_vCnt, b_vStr, b_vItem, b_vKey, b_vVal, (em_l cap t (tx_l true kd ct a_amount a_parts (j + 1))).1, yv, cK, cS, cT, cV, cI, dg'), ir_mk hc1 hc2 (em_gl _ g).1 hT hV, fun post h => hx post (FX2 + 1) stX (by omega) (xs_ovf ov h), fun post h => hy post FY' stY (by omega) (fun z => absurd z ov) (fun _ => h)⟩
theorem rm_5 (hc1 : 16 ≤ cap) (hc2 : cap ≤ 256) (hT : ir_T ln a_text a_textLength a_slotStatus a_cellKind a_cellName a_tagEnd a_sectionEnd) (hV : vl_R nv kd ct a_valueKind a_amount a_parts a_fieldValues b_vKind b_vNum b_vCnt b_vStr b_vItem b_vKey b_vVal) (hD : sd_P a_slotStatus ln M PS TP MT ST a_text a_cellKind a_cellName a_tagEnd a_sectionEnd b_removed b_tType b_tA b_tB b_tName b_tMatch b_tCount) (r1 : 1 ≤ root) (r2 : root ≤ nv) (h00 : a_slotStatus 0 = 0) {B : Nat} {es : List (Nat × Nat × Nat × Nat × Nat × Nat)} {s tk fc fn cn : Nat} {t : (Nat → Int32) × Nat × Int32} {fV fL fN fB vt yv cK cS cT cV cI dg : Nat → Int32} {vl : Int32} {FX FY stX stY : Nat} (ih : ∀ B', B' < B → rd_I kk cap nv root kd ct ln M PS TP MT ST f_openMarkLength f_closeMarkLength f_openCount f_compileFrom f_compileTo f_valueCount f_outCap f_outCount f_frameCount f_valueTextLength f_renderAt f_renderTo f_returnAt f_finished f_overflowed a_text a_cellKind a_cellName a_tagEnd a_sectionEnd a_textLength a_slotStatus a_slotError a_openMark a_closeMark a_openTags a_valueKind a_amount a_parts a_fieldValues a_out a_frameValue a_frameList a_frameNext a_frameBody a_valueText g_ol g_cl g_newOl g_newCl g_tagName g_parseErr g_openCount g_nVals g_outLen g_outCap g_fn g_cn b_text b_len b_stat b_errPos b_removed b_tType b_tA b_tB b_tName b_tMatch b_tCount b_oc b_cc b_newO b_newC b_openName b_openTok b_vKind b_vNum b_vCnt b_vStr b_vItem b_vKey b_vVal b_out b_fv b_cKind b_cSlot b_cTok b_cVal b_cIdx b_dig B') (hs : s < 4) (h0 : a_slotStatus s = 0) (hm : rn_m M TP ST nv es s (ST s tk)) (hq : rq_P MT es s tk) (hS : rn_s PS kd root fV fL fN fB yv cK cS cT cV cI es fc fn cn) (g : em_g cap t) (hz : t.2.2 = 0) (hB : rn_p PS MT kd ct ln es (PS s tk) ≤ B) (hFX : B < FX) (hFY : B < FY) (hsX : stX + B < 2410256) (hsY : stY + B < 4194304) (ht : tk < M s) (hk : TP s tk = 5) : rd_C kk (fun post => wX_render_30 post FX (nI stX) f_openMarkLength f_closeMarkLength f_openCount f_compileFrom f_compileTo (nI nv) (nI cap) (nI (t).2.1) (nI fc) vl (nI (s * 96 + PS s tk)) (nI (s * 96 + ln s)) (rn_w PS es) 0 ((t).2.2) a_text a_cellKind a_cellName a_tagEnd a_sectionEnd a_textLength a_slotStatus a_slotError a_openMark a_closeMark a_openTags a_valueKind a_amount a_parts a_fieldValues ((t).1) fV fL fN fB vt) (fun post => wY_render_85 post FY (nI s) (nI tk) (nI stY) g_ol g_cl g_newOl g_newCl g_tagName g_parseErr g_openCount (nI nv) (nI (t).2.1) (nI cap) (nI fn) (nI cn) a_text a_textLength a_slotStatus a_slotError b_removed b_tType b_tA b_tB b_tName b_tMatch b_tCount b_oc b_cc b_newO b_newC b_openName b_openTok b_vKind b_vNum b_vCnt b_vStr b_vItem b_vKey b_vVal ((t).1) yv cK cS cT cV cI dg) := by
  obtain ⟨hl, hF, hC, hMT⟩ := hD s hs h0
  have hmp := tk_mp hF.1
  obtain ⟨FX', rfl⟩ : ∃ FX', FX = FX' + 1 := ⟨FX - 1, by omega⟩
  obtain ⟨FY', rfl⟩ : ∃ FY', FY = FY' + 1 := ⟨FY - 1, by omega⟩
  have len2 := (hF.2.2.1.2.2.1 tk (by omega)).1
  have l00 : ∀ x, x < M 0 → (ST 0 x).length ≤ 2 := fun x hx => ((hD 0 (by omega) h00).2.1.2.2.1.2.2.1 x (by omega)).1
  have b5 : fc ≤ (ST s tk).length + 3 := by
    have a := rn_sf es fc fn cn hS
    have b := rn_nl l00 es s _ hm
    split at b <;> omega
  have bl : es.length ≤ (ST s tk).length + 3 := by
    have b := rn_len l00 es s _ hm
    split at b <;> omega
  have bn := rn_sn es fc fn cn hS
  have rt := rn_r1 hm len2
  have p1 := rn_p1 (PS := PS) (MT := MT) (kd := kd) (ct := ct) (ln := ln) es (PS s tk)
  have hA := hF.1.2.2 tk ht
  have hle : PS s (tk + 1) ≤ ln s := tk_ap hF.1 (by omega)
  have hqr : s * 96 + PS s tk < s * 96 + ln s := by omega
  have hrt : s * 96 + ln s ≤ 384 := by omega
  have n6 : TP s tk ≠ 6 := by omega
  have n7 : TP s tk ≠ 7 := by omega
  have n8 : TP s tk ≠ 8 := by omega
  have rqn := rq_go hD hs h0 ht n8 hm hq
  have hmn : rn_m M TP ST nv es s (ST s (tk + 1)) := by rw [tk_oth hF ht n6 n7 n8]; exact hm
  have pot : rn_p PS MT kd ct ln es (PS s (tk + 1)) + (PS s (tk + 1) - PS s tk) ≤ rn_p PS MT kd ct ln es (PS s tk) := by
    have a := rn_d (kd := kd) (ct := ct) es (c := PS s tk) (c' := PS s (tk + 1)) (by omega) (rq_e hD hs h0 (by omega) hmn rqn)
    have b : 1 * (PS s (tk + 1) - PS s tk) ≤ rn_r es * (PS s (tk + 1) - PS s tk) := Nat.mul_le_mul_right _ rt.1
    omega
  have hKE := hF.2.1.2.1 tk ht (by omega)
  have hKk : a_cellKind (s * 96 + PS s tk) = nI 3 := by rw [hKE.1, hk]; rfl
  have hTy : b_tType (s * 100 + tk) = nI 5 := by rw [hA.2.2.2.1, hk]
  have hNm := (hF.2.1.2.2.1 tk ht (by omega)).1
  rcases lk_vr (M := M) (TP := TP) (ST := ST) hV r1 r2 (a_cellName (s * 96 + PS s tk)) hm with hL | ⟨w, w1, w2, hL⟩
  · exact rd_go (fun post h => xs_v0r hV r1 r2 hS hm (by omega) g hL hc2 hz hqr hrt hKk hKE.2.1 post FX' stX (by omega) h) (fun post h => ys_v0r hV r1 r2 hS hm (by omega) (by omega) hNm.symm hL hs (by omega) ht hC hTy post FY' stY (by omega) h) (ih (B - 1) (by omega) es s (tk + 1) fc fn cn (t) fV fL fN fB vt yv cK cS cT cV cI dg 0 FX' FY' (stX + 1) (stY + 1) hs h0 (by omega) hmn rqn hS g hz (by omega) (by omega) (by omega) (by omega) (by omega))
  · obtain ⟨j, rfl⟩ : ∃ j, w = j + 1 := ⟨w - 1, by omega⟩
    obtain ⟨vt', vl', hx⟩ := xs_v1r (f_openMarkLength := f_openMarkLength) (f_closeMarkLength := f_closeMarkLength) (f_openCount := f_openCount) (f_compileFrom := f_compileFrom) (f_compileTo := f_compileTo) (f_valueTextLength := vl) (f_returnAt := rn_w PS es) (a_text := a_text) (a_cellKind := a_cellKind) (a_cellName := a_cellName) (a_tagEnd := a_tagEnd) (a_sectionEnd := a_sectionEnd) (a_textLength := a_textLength) (a_slotStatus := a_slotStatus) (a_slotError := a_slotError) (a_openMark := a_openMark) (a_closeMark := a_closeMark) (a_openTags := a_openTags) (a_valueKind := a_valueKind) (a_amount := a_amount) (a_parts := a_parts) (a_fieldValues := a_fieldValues) (a_frameValue := fV) (a_frameList := fL) (a_frameNext := fN) (a_frameBody := fB) (a_valueText := vt) (q := s * 96 + PS s tk) (rt := s * 96 + ln s) (t := t) hV r1 r2 hS hm (by omega) g (by omega) hL hc2 hz hqr hrt hKk hKE.2.1
    obtain ⟨dg', hy⟩ := ys_v1r (g_ol := g_ol) (g_cl := g_cl) (g_newOl := g_newOl) (g_newCl := g_newCl) (g_tagName := g_tagName) (g_parseErr := g_parseErr) (g_openCount := g_openCount) (b_text := a_text) (b_len := a_textLength) (b_stat := a_slotStatus) (b_errPos := a_slotError) (b_removed := b_removed) (b_tType := b_tType) (b_tA := b_tA) (b_tB := b_tB) (b_tName := b_tName) (b_tMatch := b_tMatch) (b_tCount := b_tCount) (b_oc := b_oc) (b_cc := b_cc) (b_newO := b_newO) (b_newC := b_newC) (b_openName := b_openName) (b_openTok := b_openTok) (b_vKind := b_vKind) (b_vNum := b_vNum) (b_vCnt := b_vCnt) (b_vStr := b_vStr) (b_vItem := b_vItem) (b_vKey := b_vKey) (b_vVal := b_vVal) (b_fv := yv) (b_cKind := cK) (b_cSlot := cS) (b_cTok := cT) (b_cVal := cV) (b_cIdx := cI) (b_dig := dg) (s := s) (tk := tk) (t := t) hV r1 r2 hS hm (by omega) (by omega) hNm.symm g hc2 hz (by omega) hL hs (by omega) ht hC hTy
    by_cases ov : (em_l cap t (tx_l false kd ct a_amount a_parts (j + 1))).2.2 = 0
    · exact rd_go (fun post h => hx post FX' stX (by omega) h) (fun post h => hy post FY' stY (by omega) (fun _ => h) (fun z => absurd ov z)) (ih (B - 1) (by omega) es s (tk + 1) fc fn cn (em_l cap t (tx_l false kd ct a_amount a_parts (j + 1))) fV fL fN fB vt' yv cK cS cT cV cI dg' vl' FX' FY' (stX + 1) (stY + 1) hs h0 (by omega) hmn rqn hS (em_gl _ g) ov (by omega) (by omega) (by omega) (by omega) (by omega))
    · obtain ⟨FX2, rfl⟩ : ∃ FX2, FX' = FX2 + 1 := ⟨FX' - 1, by omega⟩
      exact ⟨-9, (f_openMarkLength, f_closeMarkLength, f_openCount, f_compileFrom, f_compileTo, nI nv, nI cap, nI (em_l cap t (tx_l false kd ct a_amount a_parts (j + 1))).2.1, nI fc, vl', nI (s * 96 + PS s (tk + 1)), nI (s * 96 + ln s), rn_w PS es, 0, (em_l cap t (tx_l false kd ct a_amount a_parts (j + 1))).2.2, a_text, a_cellKind, a_cellName, a_tagEnd, a_sectionEnd, a_textLength, a_slotStatus, a_slotError, a_openMark, a_closeMark, a_openTags, a_valueKind, a_amount, a_parts, a_fieldValues, (em_l cap t (tx_l false kd ct a_amount a_parts (j + 1))).1, fV, fL, fN, fB, vt'), (g_ol, g_cl, g_newOl, g_newCl, g_tagName, g_parseErr, g_openCount, nI nv, nI (em_l cap t (tx_l false kd ct a_amount a_parts (j + 1))).2.1, nI cap, nI fn, nI cn, a_text, a_textLength, a_slotStatus, a_slotError, b_removed, b_tType, b_tA, b_tB, b_tName, b_tMatch, b_tCount, b_oc, b_cc, b_newO, b_newC, b_openName, b_openTok, b_vKind, b_vNum, b_vCnt, b_vStr, b_vItem, b_vKey, b_vVal, (em_l cap t (tx_l false kd ct a_amount a_parts (j + 1))).1, yv, cK, cS, cT, cV, cI, dg'), ir_mk hc1 hc2 (em_gl _ g).1 hT hV, fun post h => hx post (FX2 + 1) stX (by omega) (xs_ovf ov h), fun post h => hy post FY' stY (by omega) (fun z => absurd z ov) (fun _ => h)⟩
end LLRM
