section LLRO
variable {f_openMarkLength f_closeMarkLength f_openCount f_compileFrom f_compileTo f_valueCount f_outCap f_outCount f_frameCount f_valueTextLength f_renderAt f_renderTo f_returnAt f_finished f_overflowed : Int32} {a_text a_cellKind a_cellName a_tagEnd a_sectionEnd a_textLength a_slotStatus a_slotError a_openMark a_closeMark a_openTags a_valueKind a_amount a_parts a_fieldValues a_out a_frameValue a_frameList a_frameNext a_frameBody a_valueText : Nat → Int32} {g_ol g_cl g_newOl g_newCl g_tagName g_parseErr g_openCount g_nVals g_outLen g_outCap g_fn g_cn : Int32} {b_text b_len b_stat b_errPos b_removed b_tType b_tA b_tB b_tName b_tMatch b_tCount b_oc b_cc b_newO b_newC b_openName b_openTok b_vKind b_vNum b_vCnt b_vStr b_vItem b_vKey b_vVal b_out b_fv b_cKind b_cSlot b_cTok b_cVal b_cIdx b_dig : Nat → Int32} {kk cap nv root : Nat} {kd ct ln M : Nat → Nat} {PS TP MT : Nat → Nat → Nat} {ST : Nat → Nat → List Nat}
theorem rm_8 (hc1 : 16 ≤ cap) (hc2 : cap ≤ 256) (hT : ir_T ln a_text a_textLength a_slotStatus a_cellKind a_cellName a_tagEnd a_sectionEnd) (hV : vl_R nv kd ct a_valueKind a_amount a_parts a_fieldValues b_vKind b_vNum b_vCnt b_vStr b_vItem b_vKey b_vVal) (hD : sd_P a_slotStatus ln M PS TP MT ST a_text a_cellKind a_cellName a_tagEnd a_sectionEnd b_removed b_tType b_tA b_tB b_tName b_tMatch b_tCount) (r1 : 1 ≤ root) (r2 : root ≤ nv) (h00 : a_slotStatus 0 = 0) {B : Nat} {es : List (Nat × Nat × Nat × Nat × Nat × Nat)} {s tk fc fn cn : Nat} {t : (Nat → Int32) × Nat × Int32} {fV fL fN fB vt yv cK cS cT cV cI dg : Nat → Int32} {vl : Int32} {FX FY stX stY : Nat} (ih : ∀ B', B' < B → rd_I kk cap nv root kd ct ln M PS TP MT ST f_openMarkLength f_closeMarkLength f_openCount f_compileFrom f_compileTo f_valueCount f_outCap f_outCount f_frameCount f_valueTextLength f_renderAt f_renderTo f_returnAt f_finished f_overflowed a_text a_cellKind a_cellName a_tagEnd a_sectionEnd a_textLength a_slotStatus a_slotError a_openMark a_closeMark a_openTags a_valueKind a_amount a_parts a_fieldValues a_out a_frameValue a_frameList a_frameNext a_frameBody a_valueText g_ol g_cl g_newOl g_newCl g_tagName g_parseErr g_openCount g_nVals g_outLen g_outCap g_fn g_cn b_text b_len b_stat b_errPos b_removed b_tType b_tA b_tB b_tName b_tMatch b_tCount b_oc b_cc b_newO b_newC b_openName b_openTok b_vKind b_vNum b_vCnt b_vStr b_vItem b_vKey b_vVal b_out b_fv b_cKind b_cSlot b_cTok b_cVal b_cIdx b_dig B') (hs : s < 4) (h0 : a_slotStatus s = 0) (hm : rn_m M TP ST nv es s (ST s tk)) (hq : rq_P MT es s tk) (hS : rn_s PS kd root fV fL fN fB yv cK cS cT cV cI es fc fn cn) (g : em_g cap t) (hz : t.2.2 = 0) (hB : rn_p PS MT kd ct ln es (PS s tk) ≤ B) (hFX : B < FX) (hFY : B < FY) (hsX : stX + B < 2410256) (hsY : stY + B < 4194304) (ht : tk < M s) (hk : TP s tk = 8) : rd_C kk (fun post => wX_render_30 post FX (nI stX) f_openMarkLength f_closeMarkLength f_openCount f_compileFrom f_compileTo (nI nv) (nI cap) (nI (t).2.1) (nI fc) vl (nI (s * 96 + PS s tk)) (nI (s * 96 + ln s)) (rn_w PS es) 0 ((t).2.2) a_text a_cellKind a_cellName a_tagEnd a_sectionEnd a_textLength a_slotStatus a_slotError a_openMark a_closeMark a_openTags a_valueKind a_amount a_parts a_fieldValues ((t).1) fV fL fN fB vt) (fun post => wY_render_85 post FY (nI s) (nI tk) (nI stY) g_ol g_cl g_newOl g_newCl g_tagName g_parseErr g_openCount (nI nv) (nI (t).2.1) (nI cap) (nI fn) (nI cn) a_text a_textLength a_slotStatus a_slotError b_removed b_tType b_tA b_tB b_tName b_tMatch b_tCount b_oc b_cc b_newO b_newC b_openName b_openTok b_vKind b_vNum b_vCnt b_vStr b_vItem b_vKey b_vVal ((t).1) yv cK cS cT cV cI dg) := by
  obtain ⟨hl, hF, hC, hMT⟩ := hD s hs h0
  have hmp := tk_mp hF.1
  obtain ⟨FX', rfl⟩ : ∃ FX', FX = FX' + 1 := ⟨FX - 1, by omega⟩
  obtain ⟨FY', rfl⟩ : ∃ FY', FY = FY' + 1 := ⟨FY - 1, by omega⟩
  have len2 := (hF.2.2.1.2.2.1 tk (by omega)).1
  have l00 : ∀ x, x < M 0 → (ST 0 x).length ≤ 2 := fun x hx => ((hD 0 (by omega) h00).2.1.2.2.1.2.2.1 x (by omega)).1
  have b5 : fc ≤ (ST s tk).length + 3 := by
    have a := rn_sf es fc fn cn hS
    have b := rn_nl l00 es s _ hm
    split at b <;> omega
  have bl : es.length ≤ (ST s tk).length + 3 := by
    have b := rn_len l00 es s _ hm
    split at b <;> omega
  have bn := rn_sn es fc fn cn hS
  have rt := rn_r1 hm len2
  have p1 := rn_p1 (PS := PS) (MT := MT) (kd := kd) (ct := ct) (ln := ln) es (PS s tk)
  have hA := hF.1.2.2 tk ht
  have hle : PS s (tk + 1) ≤ ln s := tk_ap hF.1 (by omega)
  have hqr : s * 96 + PS s tk < s * 96 + ln s := by omega
  have hrt : s * 96 + ln s ≤ 384 := by omega
  have hKE := hF.2.1.2.1 tk ht (by omega)
  have hKk : a_cellKind (s * 96 + PS s tk) = nI 8 := by rw [hKE.1, hk]; rfl
  have hTy : b_tType (s * 100 + tk) = nI 8 := by rw [hA.2.2.2.1, hk]
  obtain ⟨w0, c1, c2, c3, c4, c5⟩ := sd_cl hD hs h0 ht hk
  have psl : PS s tk < PS s (tk + 1) := hA.1
  cases es with
  | nil => rw [hm.2] at c2; exact absurd c2 (by simp)
  | cons e es =>
    have hm0 := hm
    have hq0 := hq
    rcases hm with ⟨_, _, _, g4, _⟩ | ⟨g1, g2, g3, g4, g5, g6, g7⟩
    · rw [g4] at c2; exact absurd c2 (by simp)
    have n9 : ¬ e.1 = 9 := by omega
    have etok : e.2.2.1 = w0 := by
      rw [c2] at g5
      exact (List.cons.inj g5).1.symm
    have hwn : rn_w PS (e :: es) = rn_w PS es := by simp only [rn_w, if_neg n9]
    obtain ⟨fc', fn', cn', s1, s2, s3, s4, s5, s6⟩ := hS
    have bn' := rn_sn es fc' fn' cn' s1
    have ez : rn_z PS MT e = PS s (tk + 1) := by
      unfold rn_z
      rw [if_neg n9, g2, etok, c4]
    have rqe : rq_P MT es s (tk + 1) := by
      rcases hq with ⟨a, _⟩ | ⟨a, b, c, d⟩
      · exact absurd a n9
      · rw [etok, c4] at d; exact d
    have hme : rn_m M TP ST nv es s (ST s (tk + 1)) := by
      rw [c5, ← etok]; exact g7
    have potp : rn_p PS MT kd ct ln es (PS s (tk + 1)) < rn_p PS MT kd ct ln (e :: es) (PS s tk) := by
      have := rn_cl (kd := kd) (ct := ct) (ln := ln) (PS := PS) (MT := MT) e es (c := PS s tk) n9 (by rw [ez]; exact psl) rt.1
      rw [ez] at this
      exact this
    rcases s6 with ⟨k6, a1, a2, a3, a4, a5, a6, a7, a8, a9⟩ | ⟨k7, a1, a2, a3, a4⟩ | ⟨k9, _⟩
    · obtain ⟨⟨v1, v2, v3⟩, v4, v5⟩ := g6 k6
      obtain ⟨j, hj⟩ : ∃ j, e.2.2.2.1 = j + 1 := ⟨e.2.2.2.1 - 1, by omega⟩
      rw [hj] at a3 a7 v1 v2
      have hjn : j < nv := by omega
      obtain ⟨u1, u2, u3, u4, u5, u6, u7, u8, u9, u10, u11, u12, u13⟩ := hV.2 j hjn
      have hnv := hV.1
      have popi := ih (B - 1) (by omega) es s (tk + 1) fc' fn' cn' t fV fL fN fB vt yv cK cS cT cV cI dg vl FX' FY' (stX + 1) (stY + 1) hs h0 (by omega) hme rqe s1 g hz (by omega) (by omega) (by omega) (by omega) (by omega)
      subst a1 a2 s2
      by_cases more : kd (j + 1) = 5 ∧ e.2.2.2.2.1 + 1 < ct (j + 1)
      · obtain ⟨k5, hlt⟩ := more
        have c4' := u10 (by omega)
        obtain ⟨b1, w, b2, b3, b4⟩ := u12 k5 (e.2.2.2.2.1 + 1) hlt
        have hm2 : rn_m M TP ST nv ((6, s, w0, j + 1, e.2.2.2.2.1 + 1, w) :: es) s (ST s (w0 + 1)) := by
          have bgw := tk_beg hF (show w0 < M s from by omega) c3
          rw [bgw.1]
          refine Or.inr ⟨Or.inl rfl, rfl, by show w0 < M s; omega, ?_, rfl, fun _ => ⟨⟨by show 1 ≤ j + 1; omega, by show j + 1 ≤ nv; omega, by show e.2.2.2.2.1 + 1 ≤ 4; omega⟩, b2, b3⟩, by rw [← etok]; exact g7⟩
          show 6 = TP s w0
          rw [← etok, ← g4, k6]
        have rq2 : rq_P MT ((6, s, w0, j + 1, e.2.2.2.2.1 + 1, w) :: es) s (w0 + 1) := Or.inr ⟨(show (6 : Nat) ≠ 9 from by decide), by show w0 < w0 + 1; omega, by show w0 + 1 ≤ MT s w0; omega, by show rq_P MT es s (MT s w0 + 1); rw [c4]; exact rqe⟩
        have hS2 : rn_s PS kd root (upd fV fc' (nI w)) fL (upd fN fc' (nI (e.2.2.2.2.1 + 1 + 1))) fB (upd yv fn' (nI w)) cK cS cT cV (upd cI cn' (nI (e.2.2.2.2.1 + 1))) ((6, s, w0, j + 1, e.2.2.2.2.1 + 1, w) :: es) (fc' + 1) (fn' + 1) (cn' + 1) := by
          refine ⟨fc', fn', cn', rn_sc es fc' fn' cn' s1 (fun x hx => ⟨pk_un (by omega), rfl, pk_un (by omega), rfl⟩) (fun x hx => pk_un (by omega)) (fun x hx => ⟨rfl, rfl, rfl, rfl, pk_un (by omega)⟩), rfl, by rw [s3, k6], by rw [s4, g2], by rw [s5, etok], Or.inl ⟨rfl, rfl, rfl, a3, pk_us, pk_us, pk_us, a7, pk_us, ?_⟩⟩
          rw [a9, g2, etok]
        have pot2 : rn_p PS MT kd ct ln ((6, s, w0, j + 1, e.2.2.2.2.1 + 1, w) :: es) (PS s (w0 + 1)) < rn_p PS MT kd ct ln (e :: es) (PS s tk) := by
          refine rn_cn e (6, s, w0, j + 1, e.2.2.2.2.1 + 1, w) es n9 (show (6 : Nat) ≠ 9 from by decide) ?_ ?_ ?_ (by rw [ez]; exact psl) rt.1
          · rw [ez]; show PS s (MT s w0 + 1) = _; rw [c4]
          · show PS s (w0 + 1) = PS e.2.1 (e.2.2.1 + 1); rw [g2, etok]
          · have x1 : rn_k kd ct e = ct (j + 1) - (e.2.2.2.2.1 + 1) := by unfold rn_k; rw [hj, if_pos ⟨k6, k5⟩]
            have x2 : rn_k kd ct (6, s, w0, j + 1, e.2.2.2.2.1 + 1, w) = ct (j + 1) - (e.2.2.2.2.1 + 1 + 1) := by unfold rn_k; exact if_pos ⟨rfl, k5⟩
            rw [x1, x2]; omega
        have hi := ih (B - 1) (by omega) ((6, s, w0, j + 1, e.2.2.2.2.1 + 1, w) :: es) s (w0 + 1) (fc' + 1) (fn' + 1) (cn' + 1) t (upd fV fc' (nI w)) fL (upd fN fc' (nI (e.2.2.2.2.1 + 1 + 1))) fB vt (upd yv fn' (nI w)) cK cS cT cV (upd cI cn' (nI (e.2.2.2.2.1 + 1))) dg vl FX' FY' (stX + 1) (stY + 1) hs h0 (by omega) hm2 rq2 hS2 g hz (by omega) (by omega) (by omega) (by omega) (by omega)
        have hwn2 : rn_w PS ((6, s, w0, j + 1, e.2.2.2.2.1 + 1, w) :: es) = rn_w PS (e :: es) := by rw [hwn]; exact if_neg (show ¬ (6 : Nat) = 9 from by decide)
        rw [hwn2] at hi
        rw [if_pos k5] at a7
        refine rd_go (fun post h => xs_next (l := j + 1) (x := e.2.2.2.2.1 + 1) (y := ct (j + 1)) (w := w) (b := s * 96 + PS s (w0 + 1)) (by omega) hz hc2 hqr hrt (by omega) (by omega) hKk hKE.2.1 (by omega) (by omega) hlt u3 a7 a8 (u8 (by omega)) (b1.trans b4) (by rw [Nat.add_sub_cancel, a9, g2, etok]) h) (fun post h => ys_cl6 (x := e.2.2.2.2.1) (by omega) hs (by omega) ht hC hTy hV (by omega) (by omega) (by omega) (by omega) (by rw [Nat.add_sub_cancel, s3, k6]) hjn (by omega) a3 a4 (fun y => by have := y k5; omega) (fun _ _ => ⟨w, w0, b4, by rw [Nat.add_sub_cancel, s5, etok], h⟩)) hi
      · rw [hwn]
        refine rd_go (fun post h => xs_pop (l := if kd (j + 1) = 5 then j + 1 else 0) (x := e.2.2.2.2.1 + 1) (by omega) hz hc2 hqr hrt (by omega) (by omega) hnv hKk hKE.2.1 (by split <;> omega) a7 ?_ h) (fun post h => ys_cl6 (x := e.2.2.2.2.1) (by omega) hs (by omega) ht hC hTy hV (by omega) (by omega) (by omega) (by omega) (by rw [Nat.add_sub_cancel, s3, k6]) hjn (by omega) a3 a4 (fun _ => h) (fun y z => absurd ⟨y, z⟩ more)) popi
        by_cases k5 : kd (j + 1) = 5
        · rw [if_pos k5]
          refine Or.inr ⟨ct (j + 1), ?_, by omega, a8, u8 (by omega)⟩
          have : ¬ e.2.2.2.2.1 + 1 < ct (j + 1) := fun z => more ⟨k5, z⟩
          omega
        · rw [if_neg k5]; exact Or.inl rfl
    · have popi := ih (B - 1) (by omega) es s (tk + 1) fc' fn' cn' t fV fL fN fB vt yv cK cS cT cV cI dg vl FX' FY' (stX + 1) (stY + 1) hs h0 (by omega) hme rqe s1 g hz (by omega) (by omega) (by omega) (by omega) (by omega)
      subst a1 a2 s2
      rw [hwn]
      exact rd_go (fun post h => xs_pop (l := 0) (x := 0) (by omega) hz hc2 hqr hrt (by omega) (by omega) hV.1 hKk hKE.2.1 (by omega) a4 (Or.inl rfl) h) (fun post h => ys_cl7 (by omega) hs (by omega) ht hC hTy (by omega) (by omega) (by rw [Nat.add_sub_cancel, s3, k7]) h) popi
    · exact absurd k9 n9
theorem nm_d {c : Int32} (h1 : 49 ≤ c) (h2 : c ≤ 51) : ∃ d : Nat, 1 ≤ d ∧ d ≤ 3 ∧ c - 48 = nI d := by
  have h0 : ¬ c < 0 := fun z => absurd (Int32.lt_of_le_of_lt h1 z) (by decide)
  obtain ⟨i, hi, rfl⟩ := nI_of h0
  have a := (nI_leI (a := 49) (by omega) hi).mp h1
  have b := (nI_leI (b := 51) hi (by omega)).mp h2
  exact ⟨i - 48, by omega, by omega, pk_sub (b := 48) (by omega)⟩
theorem rm_9 (hc1 : 16 ≤ cap) (hc2 : cap ≤ 256) (hT : ir_T ln a_text a_textLength a_slotStatus a_cellKind a_cellName a_tagEnd a_sectionEnd) (hV : vl_R nv kd ct a_valueKind a_amount a_parts a_fieldValues b_vKind b_vNum b_vCnt b_vStr b_vItem b_vKey b_vVal) (hD : sd_P a_slotStatus ln M PS TP MT ST a_text a_cellKind a_cellName a_tagEnd a_sectionEnd b_removed b_tType b_tA b_tB b_tName b_tMatch b_tCount) (r1 : 1 ≤ root) (r2 : root ≤ nv) (h00 : a_slotStatus 0 = 0) {B : Nat} {es : List (Nat × Nat × Nat × Nat × Nat × Nat)} {s tk fc fn cn : Nat} {t : (Nat → Int32) × Nat × Int32} {fV fL fN fB vt yv cK cS cT cV cI dg : Nat → Int32} {vl : Int32} {FX FY stX stY : Nat} (ih : ∀ B', B' < B → rd_I kk cap nv root kd ct ln M PS TP MT ST f_openMarkLength f_closeMarkLength f_openCount f_compileFrom f_compileTo f_valueCount f_outCap f_outCount f_frameCount f_valueTextLength f_renderAt f_renderTo f_returnAt f_finished f_overflowed a_text a_cellKind a_cellName a_tagEnd a_sectionEnd a_textLength a_slotStatus a_slotError a_openMark a_closeMark a_openTags a_valueKind a_amount a_parts a_fieldValues a_out a_frameValue a_frameList a_frameNext a_frameBody a_valueText g_ol g_cl g_newOl g_newCl g_tagName g_parseErr g_openCount g_nVals g_outLen g_outCap g_fn g_cn b_text b_len b_stat b_errPos b_removed b_tType b_tA b_tB b_tName b_tMatch b_tCount b_oc b_cc b_newO b_newC b_openName b_openTok b_vKind b_vNum b_vCnt b_vStr b_vItem b_vKey b_vVal b_out b_fv b_cKind b_cSlot b_cTok b_cVal b_cIdx b_dig B') (hs : s < 4) (h0 : a_slotStatus s = 0) (hm : rn_m M TP ST nv es s (ST s tk)) (hq : rq_P MT es s tk) (hS : rn_s PS kd root fV fL fN fB yv cK cS cT cV cI es fc fn cn) (g : em_g cap t) (hz : t.2.2 = 0) (hB : rn_p PS MT kd ct ln es (PS s tk) ≤ B) (hFX : B < FX) (hFY : B < FY) (hsX : stX + B < 2410256) (hsY : stY + B < 4194304) (ht : tk < M s) (hk : TP s tk = 9) : rd_C kk (fun post => wX_render_30 post FX (nI stX) f_openMarkLength f_closeMarkLength f_openCount f_compileFrom f_compileTo (nI nv) (nI cap) (nI (t).2.1) (nI fc) vl (nI (s * 96 + PS s tk)) (nI (s * 96 + ln s)) (rn_w PS es) 0 ((t).2.2) a_text a_cellKind a_cellName a_tagEnd a_sectionEnd a_textLength a_slotStatus a_slotError a_openMark a_closeMark a_openTags a_valueKind a_amount a_parts a_fieldValues ((t).1) fV fL fN fB vt) (fun post => wY_render_85 post FY (nI s) (nI tk) (nI stY) g_ol g_cl g_newOl g_newCl g_tagName g_parseErr g_openCount (nI nv) (nI (t).2.1) (nI cap) (nI fn) (nI cn) a_text a_textLength a_slotStatus a_slotError b_removed b_tType b_tA b_tB b_tName b_tMatch b_tCount b_oc b_cc b_newO b_newC b_openName b_openTok b_vKind b_vNum b_vCnt b_vStr b_vItem b_vKey b_vVal ((t).1) yv cK cS cT cV cI dg) := by
  obtain ⟨hl, hF, hC, hMT⟩ := hD s hs h0
  have hmp := tk_mp hF.1
  obtain ⟨FX', rfl⟩ : ∃ FX', FX = FX' + 1 := ⟨FX - 1, by omega⟩
  obtain ⟨FY', rfl⟩ : ∃ FY', FY = FY' + 1 := ⟨FY - 1, by omega⟩
  have len2 := (hF.2.2.1.2.2.1 tk (by omega)).1
  have l00 : ∀ x, x < M 0 → (ST 0 x).length ≤ 2 := fun x hx => ((hD 0 (by omega) h00).2.1.2.2.1.2.2.1 x (by omega)).1
  have b5 : fc ≤ (ST s tk).length + 3 := by
    have a := rn_sf es fc fn cn hS
    have b := rn_nl l00 es s _ hm
    split at b <;> omega
  have bl : es.length ≤ (ST s tk).length + 3 := by
    have b := rn_len l00 es s _ hm
    split at b <;> omega
  have bn := rn_sn es fc fn cn hS
  have rt := rn_r1 hm len2
  have p1 := rn_p1 (PS := PS) (MT := MT) (kd := kd) (ct := ct) (ln := ln) es (PS s tk)
  have hA := hF.1.2.2 tk ht
  have hle : PS s (tk + 1) ≤ ln s := tk_ap hF.1 (by omega)
  have hqr : s * 96 + PS s tk < s * 96 + ln s := by omega
  have hrt : s * 96 + ln s ≤ 384 := by omega
  have n6 : TP s tk ≠ 6 := by omega
  have n7 : TP s tk ≠ 7 := by omega
  have n8 : TP s tk ≠ 8 := by omega
  have rqn := rq_go hD hs h0 ht n8 hm hq
  have hmn : rn_m M TP ST nv es s (ST s (tk + 1)) := by rw [tk_oth hF ht n6 n7 n8]; exact hm
  have pot : rn_p PS MT kd ct ln es (PS s (tk + 1)) + (PS s (tk + 1) - PS s tk) ≤ rn_p PS MT kd ct ln es (PS s tk) := by
    have a := rn_d (kd := kd) (ct := ct) es (c := PS s tk) (c' := PS s (tk + 1)) (by omega) (rq_e hD hs h0 (by omega) hmn rqn)
    have b : 1 * (PS s (tk + 1) - PS s tk) ≤ rn_r es * (PS s (tk + 1) - PS s tk) := Nat.mul_le_mul_right _ rt.1
    omega
  have hKE := hF.2.1.2.1 tk ht (by omega)
  have hKk : a_cellKind (s * 96 + PS s tk) = nI 9 := by rw [hKE.1, hk]; rfl
  have hTy : b_tType (s * 100 + tk) = nI 9 := by rw [hA.2.2.2.1, hk]
  have hNm := hF.2.1.2.2.1 tk ht (by omega)
  have s0 : s = 0 := by
    apply Classical.byContradiction
    intro y
    exact hF.2.2.2.2 y tk ht hk
  subst s0
  obtain ⟨d, d1, d3, hd⟩ := nm_d (hNm.2.1 hk).1 (hNm.2.1 hk).2
  have hdY : b_tName (0 * 100 + tk) - 48 = nI d := by rw [← hNm.1]; exact hd
  by_cases hst : a_slotStatus d = 0
  · obtain ⟨hl', hF', hC', _⟩ := hD d (by omega) hst
    have hm2 : rn_m M TP ST nv ((9, 0, tk, d, 0, 0) :: es) d (ST d 0) := Or.inl ⟨rfl, by omega, rfl, hF'.2.2.1.1, rfl, ht, hk, hm⟩
    have rq2 : rq_P MT ((9, 0, tk, d, 0, 0) :: es) d 0 := Or.inl ⟨rfl, rqn⟩
    have hS2 : rn_s PS kd root fV fL fN fB yv (upd cK cn (nI 9)) (upd cS cn (nI 0)) (upd cT cn (nI tk)) cV cI ((9, 0, tk, d, 0, 0) :: es) fc fn (cn + 1) := ⟨fc, fn, cn, rn_sc es fc fn cn hS (fun x hx => ⟨rfl, rfl, rfl, rfl⟩) (fun x hx => rfl) (fun x hx => ⟨pk_un (by omega), pk_un (by omega), pk_un (by omega), rfl, rfl⟩), rfl, pk_us, pk_us, pk_us, Or.inr (Or.inr ⟨rfl, rfl, rfl⟩)⟩
    have psl : PS 0 tk < PS 0 (tk + 1) := hA.1
    have pot2 : rn_p PS MT kd ct ln ((9, 0, tk, d, 0, 0) :: es) (PS d 0) < rn_p PS MT kd ct ln es (PS 0 tk) := by
      have a := rn_d (kd := kd) (ct := ct) es (c := PS 0 tk) (c' := PS 0 (tk + 1)) (by omega) (rq_e hD hs h0 (by omega) hmn rqn)
      have b : 1538 * 1 ≤ rn_r es * (PS 0 (tk + 1) - PS 0 tk) := Nat.mul_le_mul (rt.2 rfl) (by omega)
      show 16 * (ln d - PS d 0) + 1 + rn_p PS MT kd ct ln es (PS 0 (tk + 1)) < _
      omega
    have hi := ih (B - 1) (by omega) ((9, 0, tk, d, 0, 0) :: es) d 0 fc fn (cn + 1) t fV fL fN fB vt yv (upd cK cn (nI 9)) (upd cS cn (nI 0)) (upd cT cn (nI tk)) cV cI dg vl FX' FY' (stX + 1) (stY + 1) (by omega) hst (by omega) hm2 rq2 hS2 g hz (by omega) (by omega) (by omega) (by omega) (by omega)
    rw [hF'.1.1, Nat.add_zero] at hi
    have hE0 : a_tagEnd (0 * 96 + PS 0 tk) = nI (PS 0 (tk + 1)) := by rw [hKE.2.1]; exact congrArg nI (by omega)
    exact rd_go (fun post h => xs_inc1 (by omega) hz hc2 hqr hrt hKk hE0 (show d < 4 from by omega) hd hst (hT.1 d (by omega)).2 h) (fun post h => ys_inc1 (by omega) hs (by omega) ht hC hTy (by omega) d1 d3 hdY hst h) hi
  · exact rd_go (fun post h => xs_inc0 (by omega) hz hc2 hqr hrt hKk hKE.2.1 (show d < 4 from by omega) hd hst h) (fun post h => ys_inc0 (by omega) hs (by omega) ht hC hTy d1 d3 hdY hst h) (ih (B - 1) (by omega) es 0 (tk + 1) fc fn cn (t) fV fL fN fB vt yv cK cS cT cV cI dg vl FX' FY' (stX + 1) (stY + 1) hs h0 (by omega) hmn rqn hS g hz (by omega) (by omega) (by omega) (by omega) (by omega))
theorem rm_0 (hc1 : 16 ≤ cap) (hc2 : cap ≤ 256) (hT : ir_T ln a_text a_textLength a_slotStatus a_cellKind a_cellName a_tagEnd a_sectionEnd) (hV : vl_R nv kd ct a_valueKind a_amount a_parts a_fieldValues b_vKind b_vNum b_vCnt b_vStr b_vItem b_vKey b_vVal) (hD : sd_P a_slotStatus ln M PS TP MT ST a_text a_cellKind a_cellName a_tagEnd a_sectionEnd b_removed b_tType b_tA b_tB b_tName b_tMatch b_tCount) (r1 : 1 ≤ root) (r2 : root ≤ nv) (h00 : a_slotStatus 0 = 0) {B : Nat} {es : List (Nat × Nat × Nat × Nat × Nat × Nat)} {s tk fc fn cn : Nat} {t : (Nat → Int32) × Nat × Int32} {fV fL fN fB vt yv cK cS cT cV cI dg : Nat → Int32} {vl : Int32} {FX FY stX stY : Nat} (ih : ∀ B', B' < B → rd_I kk cap nv root kd ct ln M PS TP MT ST f_openMarkLength f_closeMarkLength f_openCount f_compileFrom f_compileTo f_valueCount f_outCap f_outCount f_frameCount f_valueTextLength f_renderAt f_renderTo f_returnAt f_finished f_overflowed a_text a_cellKind a_cellName a_tagEnd a_sectionEnd a_textLength a_slotStatus a_slotError a_openMark a_closeMark a_openTags a_valueKind a_amount a_parts a_fieldValues a_out a_frameValue a_frameList a_frameNext a_frameBody a_valueText g_ol g_cl g_newOl g_newCl g_tagName g_parseErr g_openCount g_nVals g_outLen g_outCap g_fn g_cn b_text b_len b_stat b_errPos b_removed b_tType b_tA b_tB b_tName b_tMatch b_tCount b_oc b_cc b_newO b_newC b_openName b_openTok b_vKind b_vNum b_vCnt b_vStr b_vItem b_vKey b_vVal b_out b_fv b_cKind b_cSlot b_cTok b_cVal b_cIdx b_dig B') (hs : s < 4) (h0 : a_slotStatus s = 0) (hm : rn_m M TP ST nv es s (ST s tk)) (hq : rq_P MT es s tk) (hS : rn_s PS kd root fV fL fN fB yv cK cS cT cV cI es fc fn cn) (g : em_g cap t) (hz : t.2.2 = 0) (hB : rn_p PS MT kd ct ln es (PS s tk) ≤ B) (hFX : B < FX) (hFY : B < FY) (hsX : stX + B < 2410256) (hsY : stY + B < 4194304) (ht : tk = M s) : rd_C kk (fun post => wX_render_30 post FX (nI stX) f_openMarkLength f_closeMarkLength f_openCount f_compileFrom f_compileTo (nI nv) (nI cap) (nI (t).2.1) (nI fc) vl (nI (s * 96 + PS s tk)) (nI (s * 96 + ln s)) (rn_w PS es) 0 ((t).2.2) a_text a_cellKind a_cellName a_tagEnd a_sectionEnd a_textLength a_slotStatus a_slotError a_openMark a_closeMark a_openTags a_valueKind a_amount a_parts a_fieldValues ((t).1) fV fL fN fB vt) (fun post => wY_render_85 post FY (nI s) (nI tk) (nI stY) g_ol g_cl g_newOl g_newCl g_tagName g_parseErr g_openCount (nI nv) (nI (t).2.1) (nI cap) (nI fn) (nI cn) a_text a_textLength a_slotStatus a_slotError b_removed b_tType b_tA b_tB b_tName b_tMatch b_tCount b_oc b_cc b_newO b_newC b_openName b_openTok b_vKind b_vNum b_vCnt b_vStr b_vItem b_vKey b_vVal ((t).1) yv cK cS cT cV cI dg) := by
  subst ht
  obtain ⟨hl, hF, hC, hMT⟩ := hD s hs h0
  have hmp := tk_mp hF.1
  obtain ⟨FX', rfl⟩ : ∃ FX', FX = FX' + 1 := ⟨FX - 1, by omega⟩
  obtain ⟨FY', rfl⟩ : ∃ FY', FY = FY' + 1 := ⟨FY - 1, by omega⟩
  have len2 := (hF.2.2.1.2.2.1 (M s) (by omega)).1
  have l00 : ∀ x, x < M 0 → (ST 0 x).length ≤ 2 := fun x hx => ((hD 0 (by omega) h00).2.1.2.2.1.2.2.1 x (by omega)).1
  have b5 : fc ≤ (ST s (M s)).length + 3 := by
    have a := rn_sf es fc fn cn hS
    have b := rn_nl l00 es s _ hm
    split at b <;> omega
  have bl : es.length ≤ (ST s (M s)).length + 3 := by
    have b := rn_len l00 es s _ hm
    split at b <;> omega
  have bn := rn_sn es fc fn cn hS
  have rt := rn_r1 hm len2
  have p1 := rn_p1 (PS := PS) (MT := MT) (kd := kd) (ct := ct) (ln := ln) es (PS s (M s))
  have eps : PS s (M s) = ln s := hF.1.2.1
  have est : ST s (M s) = [] := hF.2.2.2.1
  cases es with
  | nil =>
    have s0 := hm.1
    subst s0
    obtain ⟨a1, a2, a3, a4, a5⟩ := hS
    obtain ⟨FX2, rfl⟩ : ∃ FX2, FX' = FX2 + 1 := ⟨FX' - 1, by omega⟩
    exact ⟨0, (f_openMarkLength, f_closeMarkLength, f_openCount, f_compileFrom, f_compileTo, nI nv, nI cap, nI t.2.1, nI fc, vl, nI (0 * 96 + PS 0 (M 0)), nI (0 * 96 + ln 0), -1, 1, t.2.2, a_text, a_cellKind, a_cellName, a_tagEnd, a_sectionEnd, a_textLength, a_slotStatus, a_slotError, a_openMark, a_closeMark, a_openTags, a_valueKind, a_amount, a_parts, a_fieldValues, t.1, fV, fL, fN, fB, vt), (g_ol, g_cl, g_newOl, g_newCl, g_tagName, g_parseErr, g_openCount, nI nv, nI (t).2.1, nI cap, nI fn, nI cn, a_text, a_textLength, a_slotStatus, a_slotError, b_removed, b_tType, b_tA, b_tB, b_tName, b_tMatch, b_tCount, b_oc, b_cc, b_newO, b_newC, b_openName, b_openTok, b_vKind, b_vNum, b_vCnt, b_vStr, b_vItem, b_vKey, b_vVal, (t).1, yv, cK, cS, cT, cV, cI, dg), ir_mk hc1 hc2 g.1 hT hV, fun post h => xs_fin (by omega) hz (by omega) (by omega) h, fun post h => ys_fin (by omega) hs (by omega) hC a3 h⟩
  | cons e es =>
    rcases hm with ⟨g1, g2, g3, g4, g5, g6, g7, g8⟩ | ⟨g1, g2, g3, g4, g5, g6', g7⟩
    rotate_left
    · rw [est] at g5; exact absurd g5 (by simp)
    obtain ⟨fc', fn', cn', s1, s2, s3, s4, s5, s6⟩ := hS
    rcases s6 with ⟨k6, _⟩ | ⟨k7, _⟩ | ⟨k9, a1, a2⟩
    · omega
    · omega
    subst a1 a2 s2
    obtain ⟨hl0, hF0, hC0, _⟩ := hD 0 (by omega) h00
    have rq2 : rq_P MT es 0 (e.2.2.1 + 1) := by
      rcases hq with ⟨_, b⟩ | ⟨a, _⟩
      · exact b
      · exact absurd g1 a
    have hm2 : rn_m M TP ST nv es 0 (ST 0 (e.2.2.1 + 1)) := by
      rw [tk_oth hF0 g6 (by omega) (by omega) (by omega)]; exact g8
    have ple : PS 0 (e.2.2.1 + 1) ≤ ln 0 := tk_ap hF0.1 (by omega)
    have pot2 : rn_p PS MT kd ct ln es (PS 0 (e.2.2.1 + 1)) < rn_p PS MT kd ct ln (e :: es) (PS s (M s)) := by
      simp only [rn_p, if_pos g1, rn_z]
      omega
    have hi := ih (B - 1) (by omega) es 0 (e.2.2.1 + 1) fc fn cn' t fV fL fN fB vt yv cK cS cT cV cI dg vl FX' FY' (stX + 1) (stY + 1) (by omega) h00 (by omega) hm2 rq2 s1 g hz (by omega) (by omega) (by omega) (by omega) (by omega)
    rw [rn_w0 es _ hm2, show 0 * 96 + PS 0 (e.2.2.1 + 1) = PS 0 (e.2.2.1 + 1) from by omega] at hi
    have hwn : rn_w PS (e :: es) = nI (PS 0 (e.2.2.1 + 1)) := by simp only [rn_w, if_pos g1]
    rw [hwn]
    exact rd_go (fun post h => xs_ret (by omega) hz (by omega) (by omega) (by omega) (hT.1 0 (by omega)).2 h) (fun post h => ys_ret (by omega) hs (by omega) hC (by omega) (by omega) (by rw [Nat.add_sub_cancel, s3, k9]) (by rw [Nat.add_sub_cancel, s4, g5]) (by rw [Nat.add_sub_cancel, s5]) h) hi
end LLRO
