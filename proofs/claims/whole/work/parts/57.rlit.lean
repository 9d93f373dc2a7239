section LLRD
def rd_C (kk : Nat) (XW : (Int32 → SX → Prop) → Prop) (YW : (Int32 → SY → Prop) → Prop) : Prop := ∃ r u v, i_Rel kk u v ∧ (∀ post : Int32 → SX → Prop, post r u → XW post) ∧ (∀ post : Int32 → SY → Prop, post r v → YW post)
theorem rd_go {kk : Nat} {XW XW' : (Int32 → SX → Prop) → Prop} {YW YW' : (Int32 → SY → Prop) → Prop} (hx : ∀ post, XW' post → XW post) (hy : ∀ post, YW' post → YW post) (h : rd_C kk XW' YW') : rd_C kk XW YW := by
  obtain ⟨r, u, v, a, b, c⟩ := h
  exact ⟨r, u, v, a, fun post h => hx post (b post h), fun post h => hy post (c post h)⟩
/-- where X goes on behind the slot -/
def rn_w (PS : Nat → Nat → Nat) : List (Nat × Nat × Nat × Nat × Nat × Nat) → Int32
  | [] => -1
  | e :: es => if e.1 = 9 then nI (PS 0 (e.2.2.1 + 1)) else rn_w PS es
theorem rn_p1 {PS MT : Nat → Nat → Nat} {kd ct ln : Nat → Nat} : ∀ (es : List (Nat × Nat × Nat × Nat × Nat × Nat)) (c : Nat), 1 ≤ rn_p PS MT kd ct ln es c := by
  intro es
  induction es with
  | nil => intro c; simp only [rn_p]; omega
  | cons e es ih =>
    intro c
    have := ih (rn_z PS MT e)
    by_cases z : e.1 = 9
    · simp only [rn_p, if_pos z]; omega
    · simp only [rn_p, if_neg z]; omega
theorem rn_r1 {M : Nat → Nat} {TP : Nat → Nat → Nat} {ST : Nat → Nat → List Nat} {nv : Nat} {es : List (Nat × Nat × Nat × Nat × Nat × Nat)} {s : Nat} {hs : List Nat} (h : rn_m M TP ST nv es s hs) (hl : hs.length ≤ 2) : 1 ≤ rn_r es ∧ (s = 0 → 1538 ≤ rn_r es) := by
  rw [rn_rt es s hs h]
  have : hs.length = 0 ∨ hs.length = 1 ∨ hs.length = 2 := by omega
  by_cases z : s = 0
  · rw [if_pos z]
    rcases this with w | w | w <;> rw [w] <;> exact ⟨by decide, fun _ => by decide⟩
  · rw [if_neg z]
    rcases this with w | w | w <;> rw [w] <;> exact ⟨by decide, fun y => absurd y z⟩
variable {f_openMarkLength f_closeMarkLength f_openCount f_compileFrom f_compileTo f_valueCount f_outCap f_outCount f_frameCount f_valueTextLength f_renderAt f_renderTo f_returnAt f_finished f_overflowed : Int32} {a_text a_cellKind a_cellName a_tagEnd a_sectionEnd a_textLength a_slotStatus a_slotError a_openMark a_closeMark a_openTags a_valueKind a_amount a_parts a_fieldValues a_out a_frameValue a_frameList a_frameNext a_frameBody a_valueText : Nat → Int32} {g_ol g_cl g_newOl g_newCl g_tagName g_parseErr g_openCount g_nVals g_outLen g_outCap g_fn g_cn : Int32} {b_text b_len b_stat b_errPos b_removed b_tType b_tA b_tB b_tName b_tMatch b_tCount b_oc b_cc b_newO b_newC b_openName b_openTok b_vKind b_vNum b_vCnt b_vStr b_vItem b_vKey b_vVal b_out b_fv b_cKind b_cSlot b_cTok b_cVal b_cIdx b_dig : Nat → Int32} {kk cap nv root : Nat} {kd ct ln M : Nat → Nat} {PS TP MT : Nat → Nat → Nat} {ST : Nat → Nat → List Nat}
theorem rd_lit (hc1 : 16 ≤ cap) (hc2 : cap ≤ 256) (hT : ir_T ln a_text a_textLength a_slotStatus a_cellKind a_cellName a_tagEnd a_sectionEnd) (hV : vl_R nv kd ct a_valueKind a_amount a_parts a_fieldValues b_vKind b_vNum b_vCnt b_vStr b_vItem b_vKey b_vVal) (hD : sd_P a_slotStatus ln M PS TP MT ST a_text a_cellKind a_cellName a_tagEnd a_sectionEnd b_removed b_tType b_tA b_tB b_tName b_tMatch b_tCount) {es : List (Nat × Nat × Nat × Nat × Nat × Nat)} {s tk fc fn cn F FYn stY : Nat} {fV fL fN fB vt yv cK cS cT cV cI dg : Nat → Int32} {vl : Int32} (hs : s < 4) (h0 : a_slotStatus s = 0) (ht : tk < M s) (h1 : TP s tk = 1)
    (cont : ∀ (t : (Nat → Int32) × Nat × Int32) (FX stX : Nat), em_g cap t → t.2.2 = 0 → F < FX → stX + F < 2410256 → rd_C kk (fun post => wX_render_30 post FX (nI stX) f_openMarkLength f_closeMarkLength f_openCount f_compileFrom f_compileTo (nI nv) (nI cap) (nI (t).2.1) (nI fc) vl (nI (s * 96 + PS s (tk + 1))) (nI (s * 96 + ln s)) (rn_w PS es) 0 ((t).2.2) a_text a_cellKind a_cellName a_tagEnd a_sectionEnd a_textLength a_slotStatus a_slotError a_openMark a_closeMark a_openTags a_valueKind a_amount a_parts a_fieldValues ((t).1) fV fL fN fB vt) (fun post => wY_render_85 post FYn (nI s) (nI (tk + 1)) (nI (stY + 1)) g_ol g_cl g_newOl g_newCl g_tagName g_parseErr g_openCount (nI nv) (nI (t).2.1) (nI cap) (nI fn) (nI cn) a_text a_textLength a_slotStatus a_slotError b_removed b_tType b_tA b_tB b_tName b_tMatch b_tCount b_oc b_cc b_newO b_newC b_openName b_openTok b_vKind b_vNum b_vCnt b_vStr b_vItem b_vKey b_vVal ((t).1) yv cK cS cT cV cI dg)) :
    ∀ (d c : Nat) (t : (Nat → Int32) × Nat × Int32) (FX stX : Nat), c + d = PS s (tk + 1) → PS s tk ≤ c → em_g cap t → t.2.2 = 0 → 1 ≤ F → F + d < FX → stX + F + d < 2410256 → rd_C kk (fun post => wX_render_30 post FX (nI stX) f_openMarkLength f_closeMarkLength f_openCount f_compileFrom f_compileTo (nI nv) (nI cap) (nI (t).2.1) (nI fc) vl (nI (s * 96 + c)) (nI (s * 96 + ln s)) (rn_w PS es) 0 ((t).2.2) a_text a_cellKind a_cellName a_tagEnd a_sectionEnd a_textLength a_slotStatus a_slotError a_openMark a_closeMark a_openTags a_valueKind a_amount a_parts a_fieldValues ((t).1) fV fL fN fB vt) (fun post => wY_render_194 post (wY_render_85 post FYn) (nI s) (nI tk) (nI stY) (nI (s * 100 + tk)) (d + 1) (nI c) g_ol g_cl g_newOl g_newCl g_tagName g_parseErr g_openCount (nI nv) (nI (t).2.1) (nI cap) (nI fn) (nI cn) a_text a_textLength a_slotStatus a_slotError b_removed b_tType b_tA b_tB b_tName b_tMatch b_tCount b_oc b_cc b_newO b_newC b_openName b_openTok b_vKind b_vNum b_vCnt b_vStr b_vItem b_vKey b_vVal ((t).1) yv cK cS cT cV cI dg) := by
  obtain ⟨hl, hF, hC, _⟩ := hD s hs h0
  have hmp := tk_mp hF.1
  have hle : PS s (tk + 1) ≤ ln s := tk_ap hF.1 (by omega)
  have hB : b_tB (s * 100 + tk) = nI (PS s (tk + 1)) := (hF.1.2.2 tk ht).2.2.2.2.2
  have e4 : (nI (s * 100 + tk)).toNatClampNeg = s * 100 + tk := nI_clamp (by omega)
  have i4 : vp_in (nI (s * 100 + tk)) 400 := vp_in_nI (by omega) (by omega)
  intro d
  induction d with
  | zero =>
    intro c t FX stX hcd hlo g hz hF1 hFX hst
    have e : c = PS s (tk + 1) := by omega
    subst e
    refine rd_go (fun post h => h) (fun post h => ?_) (cont t FX stX g hz (by omega) (by omega))
    exact ⟨i4, br_t (by rw [e4, hB]; exact nI_le (Nat.le_refl _) (by omega)) (nm_r (nI_1 _) (nm_r (nI_1 _) h))⟩
  | succ d ih =>
    intro c t FX stX hcd hlo g hz hF1 hFX hst
    obtain ⟨FX', rfl⟩ : ∃ FX', FX = FX' + 1 := ⟨FX - 1, by omega⟩
    have hKc := hF.2.1.1 tk ht h1 c hlo (by omega)
    obtain ⟨q1, q2, _⟩ := hF.2.1.2.2.2.1 c (by omega)
    have ec : nI s * 96 + nI c = nI (s * 96 + c) := by rw [la_m96, nI_add]
    have ic : vp_in (nI s * 96 + nI c) 384 := by rw [ec]; exact vp_in_nI (by omega) (by omega)
    have ecc : (nI s * 96 + nI c).toNatClampNeg = s * 96 + c := by rw [ec]; exact nI_clamp (by omega)
    have hlt : ¬ b_tB (nI (s * 100 + tk)).toNatClampNeg ≤ nI c := by rw [e4, hB]; exact nI_ge (by omega) (by omega)
    rcases hKc with hK | hK
    · have hR : b_removed (s * 96 + c) = 0 := by
        rcases q1 with z | z
        · exact z
        · rw [q2.mp z] at hK; exact absurd hK (by decide)
      by_cases ov : (em_1 cap t (a_text (s * 96 + c))).2.2 = 0
      · refine rd_go (fun post h => xs_lit (by omega) hz hc2 (show s * 96 + c < s * 96 + ln s from by omega) (by omega) g hK h) (fun post h => ?_) (ih (c + 1) (em_1 cap t (a_text (s * 96 + c))) FX' (stX + 1) (by omega) (by omega) (em_g1 g _) ov hF1 (by omega) (by omega))
        refine ⟨i4, br_f hlt ⟨ic, br_t (by rw [ecc]; exact hR) ⟨ic, ?_⟩⟩⟩
        rw [ecc]
        exact ye_1 hc2 g hz (fun _ => br_f (by decide) (nm_r (nI_1 _) h)) (fun z => absurd ov z)
      · obtain ⟨FX2, rfl⟩ : ∃ FX2, FX' = FX2 + 1 := ⟨FX' - 1, by omega⟩
        refine ⟨-9, (f_openMarkLength, f_closeMarkLength, f_openCount, f_compileFrom, f_compileTo, nI nv, nI cap, nI (em_1 cap t (a_text (s * 96 + c))).2.1, nI fc, vl, nI (s * 96 + c + 1), nI (s * 96 + ln s), rn_w PS es, 0, (em_1 cap t (a_text (s * 96 + c))).2.2, a_text, a_cellKind, a_cellName, a_tagEnd, a_sectionEnd, a_textLength, a_slotStatus, a_slotError, a_openMark, a_closeMark, a_openTags, a_valueKind, a_amount, a_parts, a_fieldValues, (em_1 cap t (a_text (s * 96 + c))).1, fV, fL, fN, fB, vt), (g_ol, g_cl, g_newOl, g_newCl, g_tagName, g_parseErr, g_openCount, nI nv, nI (em_1 cap t (a_text (s * 96 + c))).2.1, nI cap, nI fn, nI cn, a_text, a_textLength, a_slotStatus, a_slotError, b_removed, b_tType, b_tA, b_tB, b_tName, b_tMatch, b_tCount, b_oc, b_cc, b_newO, b_newC, b_openName, b_openTok, b_vKind, b_vNum, b_vCnt, b_vStr, b_vItem, b_vKey, b_vVal, (em_1 cap t (a_text (s * 96 + c))).1, yv, cK, cS, cT, cV, cI, dg), ir_mk hc1 hc2 (em_g1 g _).1 hT hV, fun post h => xs_lit (by omega) hz hc2 (show s * 96 + c < s * 96 + ln s from by omega) (by omega) g hK (xs_ovf ov h), fun post h => ?_⟩
        refine ⟨i4, br_f hlt ⟨ic, br_t (by rw [ecc]; exact hR) ⟨ic, ?_⟩⟩⟩
        rw [ecc]
        exact ye_1 hc2 g hz (fun z => absurd z ov) (fun _ => br_t rfl h)
    · have hR : ¬ b_removed (s * 96 + c) = 0 := by
        rw [q2.mpr hK]; decide
      refine rd_go (fun post h => xs_rem (by omega) hz hc2 (show s * 96 + c < s * 96 + ln s from by omega) (by omega) hK h) (fun post h => ?_) (ih (c + 1) t FX' (stX + 1) (by omega) (by omega) g hz hF1 (by omega) (by omega))
      exact ⟨i4, br_f hlt ⟨ic, br_f (by rw [ecc]; exact hR) (nm_r (nI_1 _) h)⟩⟩
end LLRD
