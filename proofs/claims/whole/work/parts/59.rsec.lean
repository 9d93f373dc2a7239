section LLRN
variable {f_openMarkLength f_closeMarkLength f_openCount f_compileFrom f_compileTo f_valueCount f_outCap f_outCount f_frameCount f_valueTextLength f_renderAt f_renderTo f_returnAt f_finished f_overflowed : Int32} {a_text a_cellKind a_cellName a_tagEnd a_sectionEnd a_textLength a_slotStatus a_slotError a_openMark a_closeMark a_openTags a_valueKind a_amount a_parts a_fieldValues a_out a_frameValue a_frameList a_frameNext a_frameBody a_valueText : Nat → Int32} {g_ol g_cl g_newOl g_newCl g_tagName g_parseErr g_openCount g_nVals g_outLen g_outCap g_fn g_cn : Int32} {b_text b_len b_stat b_errPos b_removed b_tType b_tA b_tB b_tName b_tMatch b_tCount b_oc b_cc b_newO b_newC b_openName b_openTok b_vKind b_vNum b_vCnt b_vStr b_vItem b_vKey b_vVal b_out b_fv b_cKind b_cSlot b_cTok b_cVal b_cIdx b_dig : Nat → Int32} {kk cap nv root : Nat} {kd ct ln M : Nat → Nat} {PS TP MT : Nat → Nat → Nat} {ST : Nat → Nat → List Nat}
theorem rm_6 (hc1 : 16 ≤ cap) (hc2 : cap ≤ 256) (hT : ir_T ln a_text a_textLength a_slotStatus a_cellKind a_cellName a_tagEnd a_sectionEnd) (hV : vl_R nv kd ct a_valueKind a_amount a_parts a_fieldValues b_vKind b_vNum b_vCnt b_vStr b_vItem b_vKey b_vVal) (hD : sd_P a_slotStatus ln M PS TP MT ST a_text a_cellKind a_cellName a_tagEnd a_sectionEnd b_removed b_tType b_tA b_tB b_tName b_tMatch b_tCount) (r1 : 1 ≤ root) (r2 : root ≤ nv) (h00 : a_slotStatus 0 = 0) {B : Nat} {es : List (Nat × Nat × Nat × Nat × Nat × Nat)} {s tk fc fn cn : Nat} {t : (Nat → Int32) × Nat × Int32} {fV fL fN fB vt yv cK cS cT cV cI dg : Nat → Int32} {vl : Int32} {FX FY stX stY : Nat} (ih : ∀ B', B' < B → rd_I kk cap nv root kd ct ln M PS TP MT ST f_openMarkLength f_closeMarkLength f_openCount f_compileFrom f_compileTo f_valueCount f_outCap f_outCount f_frameCount f_valueTextLength f_renderAt f_renderTo f_returnAt f_finished f_overflowed a_text a_cellKind a_cellName a_tagEnd a_sectionEnd a_textLength a_slotStatus a_slotError a_openMark a_closeMark a_openTags a_valueKind a_amount a_parts a_fieldValues a_out a_frameValue a_frameList a_frameNext a_frameBody a_valueText g_ol g_cl g_newOl g_newCl g_tagName g_parseErr g_openCount g_nVals g_outLen g_outCap g_fn g_cn b_text b_len b_stat b_errPos b_removed b_tType b_tA b_tB b_tName b_tMatch b_tCount b_oc b_cc b_newO b_newC b_openName b_openTok b_vKind b_vNum b_vCnt b_vStr b_vItem b_vKey b_vVal b_out b_fv b_cKind b_cSlot b_cTok b_cVal b_cIdx b_dig B') (hs : s < 4) (h0 : a_slotStatus s = 0) (hm : rn_m M TP ST nv es s (ST s tk)) (hq : rq_P MT es s tk) (hS : rn_s PS kd root fV fL fN fB yv cK cS cT cV cI es fc fn cn) (g : em_g cap t) (hz : t.2.2 = 0) (hB : rn_p PS MT kd ct ln es (PS s tk) ≤ B) (hFX : B < FX) (hFY : B < FY) (hsX : stX + B < 2410256) (hsY : stY + B < 4194304) (ht : tk < M s) (hk : TP s tk = 6) : rd_C kk (fun post => wX_render_30 post FX (nI stX) f_openMarkLength f_closeMarkLength f_openCount f_compileFrom f_compileTo (nI nv) (nI cap) (nI (t).2.1) (nI fc) vl (nI (s * 96 + PS s tk)) (nI (s * 96 + ln s)) (rn_w PS es) 0 ((t).2.2) a_text a_cellKind a_cellName a_tagEnd a_sectionEnd a_textLength a_slotStatus a_slotError a_openMark a_closeMark a_openTags a_valueKind a_amount a_parts a_fieldValues ((t).1) fV fL fN fB vt) (fun post => wY_render_85 post FY (nI s) (nI tk) (nI stY) g_ol g_cl g_newOl g_newCl g_tagName g_parseErr g_openCount (nI nv) (nI (t).2.1) (nI cap) (nI fn) (nI cn) a_text a_textLength a_slotStatus a_slotError b_removed b_tType b_tA b_tB b_tName b_tMatch b_tCount b_oc b_cc b_newO b_newC b_openName b_openTok b_vKind b_vNum b_vCnt b_vStr b_vItem b_vKey b_vVal ((t).1) yv cK cS cT cV cI dg) := by
  obtain ⟨hl, hF, hC, hMT⟩ := hD s hs h0
  have hmp := tk_mp hF.1
  obtain ⟨FX', rfl⟩ : ∃ FX', FX = FX' + 1 := ⟨FX - 1, by omega⟩
  obtain ⟨FY', rfl⟩ : ∃ FY', FY = FY' + 1 := ⟨FY - 1, by omega⟩
  have len2 := (hF.2.2.1.2.2.1 tk (by omega)).1
  have l00 : ∀ x, x < M 0 → (ST 0 x).length ≤ 2 := fun x hx => ((hD 0 (by omega) h00).2.1.2.2.1.2.2.1 x (by omega)).1
  have b5 : fc ≤ (ST s tk).length + 3 := by
    have a := rn_sf es fc fn cn hS
    have b := rn_nl l00 es s _ hm
    split at b <;> omega
  have bl : es.length ≤ (ST s tk).length + 3 := by
    have b := rn_len l00 es s _ hm
    split at b <;> omega
  have bn := rn_sn es fc fn cn hS
  have rt := rn_r1 hm len2
  have p1 := rn_p1 (PS := PS) (MT := MT) (kd := kd) (ct := ct) (ln := ln) es (PS s tk)
  have hA := hF.1.2.2 tk ht
  have hle : PS s (tk + 1) ≤ ln s := tk_ap hF.1 (by omega)
  have hqr : s * 96 + PS s tk < s * 96 + ln s := by omega
  have hrt : s * 96 + ln s ≤ 384 := by omega
  have hKE := hF.2.1.2.1 tk ht (by omega)
  have hKk : a_cellKind (s * 96 + PS s tk) = nI 6 := by rw [hKE.1, hk]; rfl
  have hTy : b_tType (s * 100 + tk) = nI 6 := by rw [hA.2.2.2.1, hk]
  have hNm := (hF.2.1.2.2.1 tk ht (by omega)).1
  have op := sd_op hD hs h0 ht (by omega)
  have bg := tk_beg hF ht (by omega)
  have rqs := rq_sk hD hs h0 ht (by omega) hm hq
  have hms : rn_m M TP ST nv es s (ST s (MT s tk + 1)) := by rw [op.2.2.2.2.1]; exact hm
  have pslt : PS s tk < PS s (tk + 1) := hA.1
  have psle : PS s (tk + 1) ≤ PS s (MT s tk + 1) := tk_le hF.1 (by omega) (by omega)
  have zone := rq_e hD hs h0 (show MT s tk + 1 ≤ M s from by omega) hms rqs
  have pots : rn_p PS MT kd ct ln es (PS s (MT s tk + 1)) < rn_p PS MT kd ct ln es (PS s tk) := by
    have a := rn_d (kd := kd) (ct := ct) es (c := PS s tk) (c' := PS s (MT s tk + 1)) (by omega) zone
    have b : 0 < rn_r es * (PS s (MT s tk + 1) - PS s tk) := Nat.mul_pos (by omega) (by omega)
    omega
  have sk : lk_v root kd ct a_parts a_fieldValues es (a_cellName (s * 96 + PS s tk)) = 0 ∨ (∃ j, j < nv ∧ lk_v root kd ct a_parts a_fieldValues es (a_cellName (s * 96 + PS s tk)) = nI (j + 1) ∧ ¬ tr_P kd ct (j + 1)) → rd_C kk (fun post => wX_render_30 post (FX' + 1) (nI stX) f_openMarkLength f_closeMarkLength f_openCount f_compileFrom f_compileTo (nI nv) (nI cap) (nI (t).2.1) (nI fc) vl (nI (s * 96 + PS s tk)) (nI (s * 96 + ln s)) (rn_w PS es) 0 ((t).2.2) a_text a_cellKind a_cellName a_tagEnd a_sectionEnd a_textLength a_slotStatus a_slotError a_openMark a_closeMark a_openTags a_valueKind a_amount a_parts a_fieldValues ((t).1) fV fL fN fB vt) (fun post => wY_render_85 post (FY' + 1) (nI s) (nI tk) (nI stY) g_ol g_cl g_newOl g_newCl g_tagName g_parseErr g_openCount (nI nv) (nI (t).2.1) (nI cap) (nI fn) (nI cn) a_text a_textLength a_slotStatus a_slotError b_removed b_tType b_tA b_tB b_tName b_tMatch b_tCount b_oc b_cc b_newO b_newC b_openName b_openTok b_vKind b_vNum b_vCnt b_vStr b_vItem b_vKey b_vVal ((t).1) yv cK cS cT cV cI dg) := fun hL =>
    rd_go (fun post h => xs_sec0 (by omega) hz hc2 hqr hrt hV r1 r2 hS hm (by omega) hKk op.2.2.2.2.2.2 hL h) (fun post h => ys_sec0 (by omega) hs (by omega) ht hC hV r1 r2 hS hm (by omega) (by omega) hNm.symm hTy op.2.2.2.2.2.1 hL h) (ih (B - 1) (by omega) es s (MT s tk + 1) fc fn cn t fV fL fN fB vt yv cK cS cT cV cI dg vl FX' FY' (stX + 1) (stY + 1) hs h0 (by omega) hms rqs hS g hz (by omega) (by omega) (by omega) (by omega) (by omega))
  rcases lk_vr (M := M) (TP := TP) (ST := ST) hV r1 r2 (a_cellName (s * 96 + PS s tk)) hm with hL | ⟨w0, w1, w2, hL⟩
  · exact sk (Or.inl hL)
  · obtain ⟨j, rfl⟩ : ∃ j, w0 = j + 1 := ⟨w0 - 1, by omega⟩
    by_cases htr : tr_P kd ct (j + 1)
    rotate_left
    · exact sk (Or.inr ⟨j, by omega, hL, htr⟩)
    obtain ⟨v1, v2, v3, v4, v5, v6, v7, v8, v9, v10, v11, v12, v13⟩ := hV.2 j (by omega)
    obtain ⟨w, hw1, hw2, hwx, hwy, hwn⟩ : ∃ w, 1 ≤ w ∧ w ≤ nv ∧ (kd (j + 1) = 5 → a_parts ((j + 1) * 8) = nI w) ∧ (kd (j + 1) = 5 → b_vItem (j * 4) = nI w) ∧ (kd (j + 1) ≠ 5 → w = j + 1) := by
      by_cases k5 : kd (j + 1) = 5
      · have nz := htr.2 k5
        obtain ⟨a, w, a1, a2, a3⟩ := v12 k5 0 (by omega)
        exact ⟨w, a1, a2, fun _ => a.trans a3, fun _ => a3, fun y => absurd k5 y⟩
      · exact ⟨j + 1, w1, w2, fun y => absurd y k5, fun y => absurd y k5, fun _ => rfl⟩
    have hm2 : rn_m M TP ST nv ((6, s, tk, j + 1, 0, w) :: es) s (ST s (tk + 1)) := by
      rw [bg.1]
      exact Or.inr ⟨(show (6 : Nat) = 6 ∨ (6 : Nat) = 7 from by decide), rfl, ht, hk.symm, rfl, fun _ => ⟨⟨w1, w2, by show 0 ≤ 4; omega⟩, hw1, hw2⟩, hm⟩
    have rq2 : rq_P MT ((6, s, tk, j + 1, 0, w) :: es) s (tk + 1) := Or.inr ⟨(show (6 : Nat) ≠ 9 from by decide), (by show tk < tk + 1; omega), op.1, rqs⟩
    have hS2 : rn_s PS kd root (upd fV fc (nI w)) (upd fL fc (nI (if kd (j + 1) = 5 then j + 1 else 0))) (upd fN fc (nI 1)) (upd fB fc (nI (s * 96 + PS s (tk + 1)))) (upd yv fn (nI w)) (upd cK cn (nI 6)) (upd cS cn (nI s)) (upd cT cn (nI tk)) (upd cV cn (nI (j + 1))) (upd cI cn (nI 0)) ((6, s, tk, j + 1, 0, w) :: es) (fc + 1) (fn + 1) (cn + 1) := by
      refine ⟨fc, fn, cn, rn_sc es fc fn cn hS (fun x hx => ⟨pk_un (by omega), pk_un (by omega), pk_un (by omega), pk_un (by omega)⟩) (fun x hx => pk_un (by omega)) (fun x hx => ⟨pk_un (by omega), pk_un (by omega), pk_un (by omega), pk_un (by omega), pk_un (by omega)⟩), rfl, pk_us, pk_us, pk_us, ?_⟩
      exact Or.inl ⟨rfl, rfl, rfl, pk_us, pk_us, pk_us, pk_us, pk_us, pk_us, pk_us⟩
    have pot2 : rn_p PS MT kd ct ln ((6, s, tk, j + 1, 0, w) :: es) (PS s (tk + 1)) < rn_p PS MT kd ct ln es (PS s tk)   := rn_o (6, s, tk, j + 1, 0, w) es (show (6 : Nat) ≠ 9 from by decide) pslt psle zone (by have a := v10; show (if _ then _ else _) ≤ 3; split <;> rename_i hh <;> first | (have := a (by have := hh.2; show 5 ≤ kd (j + 1); have e : kd (j + 1) = 5 := hh.2; omega); show ct (j + 1) - (0 + 1) ≤ 3; omega) | omega) rt.1
    have hi := ih (B - 1) (by omega) ((6, s, tk, j + 1, 0, w) :: es) s (tk + 1) (fc + 1) ((fn + 1)) (cn + 1) t (upd fV fc (nI w)) (upd fL fc (nI (if kd (j + 1) = 5 then j + 1 else 0))) (upd fN fc (nI 1)) (upd fB fc (nI (s * 96 + PS s (tk + 1)))) vt (upd yv fn (nI w)) (upd cK cn (nI 6)) (upd cS cn (nI s)) (upd cT cn (nI tk)) (upd cV cn (nI (j + 1))) (upd cI cn (nI 0)) dg vl FX' FY' (stX + 1) (stY + 1) hs h0 (by omega) hm2 rq2 hS2 g hz (by omega) (by omega) (by omega) (by omega) (by omega)
    exact rd_go (fun post h => xs_sec1 (by omega) hz hc2 hqr hrt hV r1 r2 hS hm (by omega) (by omega) hKk hKE.2.1 (by omega) hL htr hwx hwn h) (fun post h => ys_sec1 (by omega) hs (by omega) ht hC hV r1 r2 hS hm (by omega) (by omega) hNm.symm hTy (by omega) hL htr hwy hwn h) hi
theorem rm_7 (hc1 : 16 ≤ cap) (hc2 : cap ≤ 256) (hT : ir_T ln a_text a_textLength a_slotStatus a_cellKind a_cellName a_tagEnd a_sectionEnd) (hV : vl_R nv kd ct a_valueKind a_amount a_parts a_fieldValues b_vKind b_vNum b_vCnt b_vStr b_vItem b_vKey b_vVal) (hD : sd_P a_slotStatus ln M PS TP MT ST a_text a_cellKind a_cellName a_tagEnd a_sectionEnd b_removed b_tType b_tA b_tB b_tName b_tMatch b_tCount) (r1 : 1 ≤ root) (r2 : root ≤ nv) (h00 : a_slotStatus 0 = 0) {B : Nat} {es : List (Nat × Nat × Nat × Nat × Nat × Nat)} {s tk fc fn cn : Nat} {t : (Nat → Int32) × Nat × Int32} {fV fL fN fB vt yv cK cS cT cV cI dg : Nat → Int32} {vl : Int32} {FX FY stX stY : Nat} (ih : ∀ B', B' < B → rd_I kk cap nv root kd ct ln M PS TP MT ST f_openMarkLength f_closeMarkLength f_openCount f_compileFrom f_compileTo f_valueCount f_outCap f_outCount f_frameCount f_valueTextLength f_renderAt f_renderTo f_returnAt f_finished f_overflowed a_text a_cellKind a_cellName a_tagEnd a_sectionEnd a_textLength a_slotStatus a_slotError a_openMark a_closeMark a_openTags a_valueKind a_amount a_parts a_fieldValues a_out a_frameValue a_frameList a_frameNext a_frameBody a_valueText g_ol g_cl g_newOl g_newCl g_tagName g_parseErr g_openCount g_nVals g_outLen g_outCap g_fn g_cn b_text b_len b_stat b_errPos b_removed b_tType b_tA b_tB b_tName b_tMatch b_tCount b_oc b_cc b_newO b_newC b_openName b_openTok b_vKind b_vNum b_vCnt b_vStr b_vItem b_vKey b_vVal b_out b_fv b_cKind b_cSlot b_cTok b_cVal b_cIdx b_dig B') (hs : s < 4) (h0 : a_slotStatus s = 0) (hm : rn_m M TP ST nv es s (ST s tk)) (hq : rq_P MT es s tk) (hS : rn_s PS kd root fV fL fN fB yv cK cS cT cV cI es fc fn cn) (g : em_g cap t) (hz : t.2.2 = 0) (hB : rn_p PS MT kd ct ln es (PS s tk) ≤ B) (hFX : B < FX) (hFY : B < FY) (hsX : stX + B < 2410256) (hsY : stY + B < 4194304) (ht : tk < M s) (hk : TP s tk = 7) : rd_C kk (fun post => wX_render_30 post FX (nI stX) f_openMarkLength f_closeMarkLength f_openCount f_compileFrom f_compileTo (nI nv) (nI cap) (nI (t).2.1) (nI fc) vl (nI (s * 96 + PS s tk)) (nI (s * 96 + ln s)) (rn_w PS es) 0 ((t).2.2) a_text a_cellKind a_cellName a_tagEnd a_sectionEnd a_textLength a_slotStatus a_slotError a_openMark a_closeMark a_openTags a_valueKind a_amount a_parts a_fieldValues ((t).1) fV fL fN fB vt) (fun post => wY_render_85 post FY (nI s) (nI tk) (nI stY) g_ol g_cl g_newOl g_newCl g_tagName g_parseErr g_openCount (nI nv) (nI (t).2.1) (nI cap) (nI fn) (nI cn) a_text a_textLength a_slotStatus a_slotError b_removed b_tType b_tA b_tB b_tName b_tMatch b_tCount b_oc b_cc b_newO b_newC b_openName b_openTok b_vKind b_vNum b_vCnt b_vStr b_vItem b_vKey b_vVal ((t).1) yv cK cS cT cV cI dg) := by
  obtain ⟨hl, hF, hC, hMT⟩ := hD s hs h0
  have hmp := tk_mp hF.1
  obtain ⟨FX', rfl⟩ : ∃ FX', FX = FX' + 1 := ⟨FX - 1, by omega⟩
  obtain ⟨FY', rfl⟩ : ∃ FY', FY = FY' + 1 := ⟨FY - 1, by omega⟩
  have len2 := (hF.2.2.1.2.2.1 tk (by omega)).1
  have l00 : ∀ x, x < M 0 → (ST 0 x).length ≤ 2 := fun x hx => ((hD 0 (by omega) h00).2.1.2.2.1.2.2.1 x (by omega)).1
  have b5 : fc ≤ (ST s tk).length + 3 := by
    have a := rn_sf es fc fn cn hS
    have b := rn_nl l00 es s _ hm
    split at b <;> omega
  have bl : es.length ≤ (ST s tk).length + 3 := by
    have b := rn_len l00 es s _ hm
    split at b <;> omega
  have bn := rn_sn es fc fn cn hS
  have rt := rn_r1 hm len2
  have p1 := rn_p1 (PS := PS) (MT := MT) (kd := kd) (ct := ct) (ln := ln) es (PS s tk)
  have hA := hF.1.2.2 tk ht
  have hle : PS s (tk + 1) ≤ ln s := tk_ap hF.1 (by omega)
  have hqr : s * 96 + PS s tk < s * 96 + ln s := by omega
  have hrt : s * 96 + ln s ≤ 384 := by omega
  have hKE := hF.2.1.2.1 tk ht (by omega)
  have hKk : a_cellKind (s * 96 + PS s tk) = nI 7 := by rw [hKE.1, hk]; rfl
  have hTy : b_tType (s * 100 + tk) = nI 7 := by rw [hA.2.2.2.1, hk]
  have hNm := (hF.2.1.2.2.1 tk ht (by omega)).1
  have op := sd_op hD hs h0 ht (by omega)
  have bg := tk_beg hF ht (by omega)
  have rqs := rq_sk hD hs h0 ht (by omega) hm hq
  have hms : rn_m M TP ST nv es s (ST s (MT s tk + 1)) := by rw [op.2.2.2.2.1]; exact hm
  have pslt : PS s tk < PS s (tk + 1) := hA.1
  have psle : PS s (tk + 1) ≤ PS s (MT s tk + 1) := tk_le hF.1 (by omega) (by omega)
  have zone := rq_e hD hs h0 (show MT s tk + 1 ≤ M s from by omega) hms rqs
  have pots : rn_p PS MT kd ct ln es (PS s (MT s tk + 1)) < rn_p PS MT kd ct ln es (PS s tk) := by
    have a := rn_d (kd := kd) (ct := ct) es (c := PS s tk) (c' := PS s (MT s tk + 1)) (by omega) zone
    have b : 0 < rn_r es * (PS s (MT s tk + 1) - PS s tk) := Nat.mul_pos (by omega) (by omega)
    omega
  have pu : lk_v root kd ct a_parts a_fieldValues es (a_cellName (s * 96 + PS s tk)) = 0 ∨ (∃ j, j < nv ∧ lk_v root kd ct a_parts a_fieldValues es (a_cellName (s * 96 + PS s tk)) = nI (j + 1) ∧ ¬ tr_P kd ct (j + 1)) → rd_C kk (fun post => wX_render_30 post (FX' + 1) (nI stX) f_openMarkLength f_closeMarkLength f_openCount f_compileFrom f_compileTo (nI nv) (nI cap) (nI (t).2.1) (nI fc) vl (nI (s * 96 + PS s tk)) (nI (s * 96 + ln s)) (rn_w PS es) 0 ((t).2.2) a_text a_cellKind a_cellName a_tagEnd a_sectionEnd a_textLength a_slotStatus a_slotError a_openMark a_closeMark a_openTags a_valueKind a_amount a_parts a_fieldValues ((t).1) fV fL fN fB vt) (fun post => wY_render_85 post (FY' + 1) (nI s) (nI tk) (nI stY) g_ol g_cl g_newOl g_newCl g_tagName g_parseErr g_openCount (nI nv) (nI (t).2.1) (nI cap) (nI fn) (nI cn) a_text a_textLength a_slotStatus a_slotError b_removed b_tType b_tA b_tB b_tName b_tMatch b_tCount b_oc b_cc b_newO b_newC b_openName b_openTok b_vKind b_vNum b_vCnt b_vStr b_vItem b_vKey b_vVal ((t).1) yv cK cS cT cV cI dg) := by
    intro hL
    have tvv := rn_tv r1 r2 es s _ hm
    have hmd : ∀ L : Int32, rd_C kk (fun post => wX_render_30 post FX' (nI (stX + 1)) f_openMarkLength f_closeMarkLength f_openCount f_compileFrom f_compileTo (nI nv) (nI cap) (nI (t).2.1) (nI (fc + 1)) vl (nI (s * 96 + PS s (tk + 1))) (nI (s * 96 + ln s)) (rn_w PS es) 0 ((t).2.2) a_text a_cellKind a_cellName a_tagEnd a_sectionEnd a_textLength a_slotStatus a_slotError a_openMark a_closeMark a_openTags a_valueKind a_amount a_parts a_fieldValues ((t).1) (upd fV fc (nI (rn_t root es))) (upd fL fc 0) (upd fN fc (nI 1)) (upd fB fc (nI (s * 96 + PS s (tk + 1)))) vt) (fun post => wY_render_85 post FY' (nI s) (nI (tk + 1)) (nI (stY + 1)) g_ol g_cl g_newOl g_newCl g_tagName g_parseErr g_openCount (nI nv) (nI (t).2.1) (nI cap) (nI fn) (nI (cn + 1)) a_text a_textLength a_slotStatus a_slotError b_removed b_tType b_tA b_tB b_tName b_tMatch b_tCount b_oc b_cc b_newO b_newC b_openName b_openTok b_vKind b_vNum b_vCnt b_vStr b_vItem b_vKey b_vVal ((t).1) yv (upd cK cn (nI 7)) (upd cS cn (nI s)) (upd cT cn (nI tk)) (upd cV cn L) (upd cI cn (nI 0)) dg) := by
      intro L
      have hm2 : rn_m M TP ST nv ((7, s, tk, 0, 0, 0) :: es) s (ST s (tk + 1)) := by
        rw [bg.1]
        exact Or.inr ⟨(show (7 : Nat) = 6 ∨ (7 : Nat) = 7 from by decide), rfl, ht, hk.symm, rfl, fun y => absurd y (show ¬ (7 : Nat) = 6 from by decide), hm⟩
      have rq2 : rq_P MT ((7, s, tk, 0, 0, 0) :: es) s (tk + 1) := Or.inr ⟨(show (7 : Nat) ≠ 9 from by decide), (by show tk < tk + 1; omega), op.1, rqs⟩
      have hS2 : rn_s PS kd root (upd fV fc (nI (rn_t root es))) (upd fL fc (0)) (upd fN fc (nI 1)) (upd fB fc (nI (s * 96 + PS s (tk + 1)))) yv (upd cK cn (nI 7)) (upd cS cn (nI s)) (upd cT cn (nI tk)) (upd cV cn (L)) (upd cI cn (nI 0)) ((7, s, tk, 0, 0, 0) :: es) (fc + 1) fn (cn + 1) := by
        refine ⟨fc, fn, cn, rn_sc es fc fn cn hS (fun x hx => ⟨pk_un (by omega), pk_un (by omega), pk_un (by omega), pk_un (by omega)⟩) (fun x hx => rfl) (fun x hx => ⟨pk_un (by omega), pk_un (by omega), pk_un (by omega), pk_un (by omega), pk_un (by omega)⟩), rfl, pk_us, pk_us, pk_us, ?_⟩
        exact Or.inr (Or.inl ⟨rfl, rfl, rfl, pk_us, pk_us⟩)
      have pot2 : rn_p PS MT kd ct ln ((7, s, tk, 0, 0, 0) :: es) (PS s (tk + 1)) < rn_p PS MT kd ct ln es (PS s tk)   := rn_o (7, s, tk, 0, 0, 0) es (show (7 : Nat) ≠ 9 from by decide) pslt psle zone (Nat.zero_le 3) rt.1
      have hi := ih (B - 1) (by omega) ((7, s, tk, 0, 0, 0) :: es) s (tk + 1) (fc + 1) (fn) (cn + 1) t (upd fV fc (nI (rn_t root es))) (upd fL fc (0)) (upd fN fc (nI 1)) (upd fB fc (nI (s * 96 + PS s (tk + 1)))) vt yv (upd cK cn (nI 7)) (upd cS cn (nI s)) (upd cT cn (nI tk)) (upd cV cn (L)) (upd cI cn (nI 0)) dg vl FX' FY' (stX + 1) (stY + 1) hs h0 (by omega) hm2 rq2 hS2 g hz (by omega) (by omega) (by omega) (by omega) (by omega)
      exact hi
    obtain ⟨L, hy⟩ := ys_inv1 (g_ol := g_ol) (g_cl := g_cl) (g_newOl := g_newOl) (g_newCl := g_newCl) (g_tagName := g_tagName) (g_parseErr := g_parseErr) (g_openCount := g_openCount) (b_text := a_text) (b_len := a_textLength) (b_stat := a_slotStatus) (b_errPos := a_slotError) (b_removed := b_removed) (b_tType := b_tType) (b_tA := b_tA) (b_tB := b_tB) (b_tName := b_tName) (b_tMatch := b_tMatch) (b_tCount := b_tCount) (b_oc := b_oc) (b_cc := b_cc) (b_newO := b_newO) (b_newC := b_newC) (b_openName := b_openName) (b_openTok := b_openTok) (b_vKind := b_vKind) (b_vNum := b_vNum) (b_vCnt := b_vCnt) (b_vStr := b_vStr) (b_vItem := b_vItem) (b_vKey := b_vKey) (b_vVal := b_vVal) (b_fv := yv) (b_cKind := cK) (b_cSlot := cS) (b_cTok := cT) (b_cVal := cV) (b_cIdx := cI) (b_dig := dg) (s := s) (tk := tk) (t := t) hs (show M s ≤ 100 from by omega) ht hC hV r1 r2 hS hm (by omega) (by omega) hNm.symm hTy hL
    exact rd_go (fun post h => xs_inv1 (by omega) hz hc2 hqr hrt hV r1 r2 hS hm (by omega) (by omega) hKk hKE.2.1 hL h) (fun post h => hy post FY' stY (by omega) h) (hmd L)
  rcases lk_vr (M := M) (TP := TP) (ST := ST) hV r1 r2 (a_cellName (s * 96 + PS s tk)) hm with hL | ⟨w0, w1, w2, hL⟩
  · exact pu (Or.inl hL)
  · obtain ⟨j, rfl⟩ : ∃ j, w0 = j + 1 := ⟨w0 - 1, by omega⟩
    by_cases htr : tr_P kd ct (j + 1)
    · exact rd_go (fun post h => xs_inv0 (by omega) hz hc2 hqr hrt hV r1 r2 hS hm (by omega) hKk op.2.2.2.2.2.2 (by omega) hL htr h) (fun post h => ys_inv0 (by omega) hs (by omega) ht hC hV r1 r2 hS hm (by omega) (by omega) hNm.symm hTy op.2.2.2.2.2.1 (by omega) hL htr h) (ih (B - 1) (by omega) es s (MT s tk + 1) fc fn cn t fV fL fN fB vt yv cK cS cT cV cI dg vl FX' FY' (stX + 1) (stY + 1) hs h0 (by omega) hms rqs hS g hz (by omega) (by omega) (by omega) (by omega) (by omega))
    · exact pu (Or.inr ⟨j, by omega, hL, htr⟩)
end LLRN
