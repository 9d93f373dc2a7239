section LLV
theorem id_ix (x : Int32) {nv : Nat} (h : nv ≤ 32) : (x < 1 ∨ nI nv < x) ∨ ∃ j, j < nv ∧ x = nI (j + 1) := by
  by_cases h1 : x < 1
  · exact Or.inl (Or.inl h1)
  · have h0 : ¬ x < 0 := fun z => h1 (Int32.lt_trans z (by decide))
    obtain ⟨i, hi, rfl⟩ := nI_of h0
    by_cases h2 : i ≤ nv
    · have h3 : ¬ i = 0 := by
        intro z
        subst z
        exact h1 (by decide)
      exact Or.inr ⟨i - 1, by omega, congrArg nI (by omega)⟩
    · exact Or.inl (Or.inr (nI_lt (by omega) hi))
section KO
variable {f_openMarkLength f_closeMarkLength f_openCount f_compileFrom f_compileTo f_valueCount f_outCap f_outCount f_frameCount f_valueTextLength f_renderAt f_renderTo f_returnAt f_finished f_overflowed : Int32} {a_text a_cellKind a_cellName a_tagEnd a_sectionEnd a_textLength a_slotStatus a_slotError a_openMark a_closeMark a_openTags a_valueKind a_amount a_parts a_fieldValues a_out a_frameValue a_frameList a_frameNext a_frameBody a_valueText : Nat → Int32} {g_ol g_cl g_newOl g_newCl g_tagName g_parseErr g_openCount g_nVals g_outLen g_outCap g_fn g_cn : Int32} {b_text b_len b_stat b_errPos b_removed b_tType b_tA b_tB b_tName b_tMatch b_tCount b_oc b_cc b_newO b_newC b_openName b_openTok b_vKind b_vNum b_vCnt b_vStr b_vItem b_vKey b_vVal b_out b_fv b_cKind b_cSlot b_cTok b_cVal b_cIdx b_dig : Nat → Int32} {nv : Nat}
theorem xl_kin {post : Int32 → Prop} {j : Nat} {q : Int32} (hn : nv ≤ 32) (hj : j < nv) (hq : a_valueKind (j + 1) = q) (h : post q) : wpX_kindOf post (f_openMarkLength, f_closeMarkLength, f_openCount, f_compileFrom, f_compileTo, nI nv, f_outCap, f_outCount, f_frameCount, f_valueTextLength, f_renderAt, f_renderTo, f_returnAt, f_finished, f_overflowed, a_text, a_cellKind, a_cellName, a_tagEnd, a_sectionEnd, a_textLength, a_slotStatus, a_slotError, a_openMark, a_closeMark, a_openTags, a_valueKind, a_amount, a_parts, a_fieldValues, a_out, a_frameValue, a_frameList, a_frameNext, a_frameBody, a_valueText) (nI (j + 1)) := by
  refine br_f (nI_nlt (b := 1) (by omega) (by omega)) (br_f (nI_nlt (by omega) (by omega)) ⟨vp_in_nI (by omega) (by omega), ?_⟩)
  rw [nI_clamp (by omega), hq]
  exact h
theorem xl_kout {post : Int32 → Prop} {x : Int32} (hx : x < 1 ∨ nI nv < x) (h : post 0) : wpX_kindOf post (f_openMarkLength, f_closeMarkLength, f_openCount, f_compileFrom, f_compileTo, nI nv, f_outCap, f_outCount, f_frameCount, f_valueTextLength, f_renderAt, f_renderTo, f_returnAt, f_finished, f_overflowed, a_text, a_cellKind, a_cellName, a_tagEnd, a_sectionEnd, a_textLength, a_slotStatus, a_slotError, a_openMark, a_closeMark, a_openTags, a_valueKind, a_amount, a_parts, a_fieldValues, a_out, a_frameValue, a_frameList, a_frameNext, a_frameBody, a_valueText) x := by
  rcases hx with z | z
  · exact br_t z h
  · exact br_c (fun _ => h) (fun _ => br_t z h)
theorem yl_kin {post : Int32 → Prop} {j : Nat} {q : Int32} (hn : nv ≤ 32) (hj : j < nv) (hq : b_vKind j = q) (h : post q) : wpY_kindOf post (g_ol, g_cl, g_newOl, g_newCl, g_tagName, g_parseErr, g_openCount, nI nv, g_outLen, g_outCap, g_fn, g_cn, b_text, b_len, b_stat, b_errPos, b_removed, b_tType, b_tA, b_tB, b_tName, b_tMatch, b_tCount, b_oc, b_cc, b_newO, b_newC, b_openName, b_openTok, b_vKind, b_vNum, b_vCnt, b_vStr, b_vItem, b_vKey, b_vVal, b_out, b_fv, b_cKind, b_cSlot, b_cTok, b_cVal, b_cIdx, b_dig) (nI (j + 1)) := by
  refine br_f (nI_nlt (b := 1) (by omega) (by omega)) (br_t (nI_le (by omega) (by omega)) ?_)
  rw [nI_pred, nI_clamp (by omega), hq]
  exact ⟨vp_in_nI (by omega) (by omega), h⟩
theorem yl_kout {post : Int32 → Prop} {x : Int32} (hx : x < 1 ∨ nI nv < x) (h : post 0) : wpY_kindOf post (g_ol, g_cl, g_newOl, g_newCl, g_tagName, g_parseErr, g_openCount, nI nv, g_outLen, g_outCap, g_fn, g_cn, b_text, b_len, b_stat, b_errPos, b_removed, b_tType, b_tA, b_tB, b_tName, b_tMatch, b_tCount, b_oc, b_cc, b_newO, b_newC, b_openName, b_openTok, b_vKind, b_vNum, b_vCnt, b_vStr, b_vItem, b_vKey, b_vVal, b_out, b_fv, b_cKind, b_cSlot, b_cTok, b_cVal, b_cIdx, b_dig) x := by
  rcases hx with z | z
  · exact br_t z h
  · exact br_c (fun _ => h) (fun _ => br_f (Int32.not_le.mpr z) h)
theorem xl_vin {post : Int32 → Prop} {j q : Nat} (hn : nv ≤ 32) (hj : j < nv) (hq : a_valueKind (j + 1) = nI q) (h1 : 1 ≤ q) (h6 : q ≤ 6) (h : post 1) : wpX_isValue post (f_openMarkLength, f_closeMarkLength, f_openCount, f_compileFrom, f_compileTo, nI nv, f_outCap, f_outCount, f_frameCount, f_valueTextLength, f_renderAt, f_renderTo, f_returnAt, f_finished, f_overflowed, a_text, a_cellKind, a_cellName, a_tagEnd, a_sectionEnd, a_textLength, a_slotStatus, a_slotError, a_openMark, a_closeMark, a_openTags, a_valueKind, a_amount, a_parts, a_fieldValues, a_out, a_frameValue, a_frameList, a_frameNext, a_frameBody, a_valueText) (nI (j + 1)) := by
  unfold wpX_isValue
  exact xl_kin hn hj hq (br_f (nI_ne0 (by omega) (by omega)) h)
theorem xl_vout {post : Int32 → Prop} {x : Int32} (hx : x < 1 ∨ nI nv < x) (h : post 0) : wpX_isValue post (f_openMarkLength, f_closeMarkLength, f_openCount, f_compileFrom, f_compileTo, nI nv, f_outCap, f_outCount, f_frameCount, f_valueTextLength, f_renderAt, f_renderTo, f_returnAt, f_finished, f_overflowed, a_text, a_cellKind, a_cellName, a_tagEnd, a_sectionEnd, a_textLength, a_slotStatus, a_slotError, a_openMark, a_closeMark, a_openTags, a_valueKind, a_amount, a_parts, a_fieldValues, a_out, a_frameValue, a_frameList, a_frameNext, a_frameBody, a_valueText) x := by
  unfold wpX_isValue
  exact xl_kout hx (br_t rfl h)
theorem xl_prin {post : Int32 → Prop} {c : Int32} (h1 : 32 ≤ c → c ≤ 126 → post 1) (h0 : ¬ (32 ≤ c ∧ c ≤ 126) → post 0) : wpX_isPrintable post (f_openMarkLength, f_closeMarkLength, f_openCount, f_compileFrom, f_compileTo, f_valueCount, f_outCap, f_outCount, f_frameCount, f_valueTextLength, f_renderAt, f_renderTo, f_returnAt, f_finished, f_overflowed, a_text, a_cellKind, a_cellName, a_tagEnd, a_sectionEnd, a_textLength, a_slotStatus, a_slotError, a_openMark, a_closeMark, a_openTags, a_valueKind, a_amount, a_parts, a_fieldValues, a_out, a_frameValue, a_frameList, a_frameNext, a_frameBody, a_valueText) c := by
  refine br_c (fun z => h0 (fun y => absurd z (Int32.not_lt.mpr y.1))) (fun z => br_c (fun w => h0 (fun y => absurd w (Int32.not_lt.mpr y.2))) (fun w => h1 (Int32.not_lt.mp z) (Int32.not_lt.mp w)))
theorem xl_let {post : Int32 → Prop} {c : Int32} (h1 : 97 ≤ c → c ≤ 122 → post 1) (h0 : ¬ (97 ≤ c ∧ c ≤ 122) → post 0) : wpX_isLetter post (f_openMarkLength, f_closeMarkLength, f_openCount, f_compileFrom, f_compileTo, f_valueCount, f_outCap, f_outCount, f_frameCount, f_valueTextLength, f_renderAt, f_renderTo, f_returnAt, f_finished, f_overflowed, a_text, a_cellKind, a_cellName, a_tagEnd, a_sectionEnd, a_textLength, a_slotStatus, a_slotError, a_openMark, a_closeMark, a_openTags, a_valueKind, a_amount, a_parts, a_fieldValues, a_out, a_frameValue, a_frameList, a_frameNext, a_frameBody, a_valueText) c := by
  refine br_c (fun z => h0 (fun y => absurd z (Int32.not_lt.mpr y.1))) (fun z => br_c (fun w => h0 (fun y => absurd w (Int32.not_lt.mpr y.2))) (fun w => h1 (Int32.not_lt.mp z) (Int32.not_lt.mp w)))
end KO
section VL
variable {nv : Nat} {kd ct : Nat → Nat} {xk am pt fd yk yn yc ys yi yq yv : Nat → Int32}
theorem vl_new (h : vl_R nv kd ct xk am pt fd yk yn yc ys yi yq yv) (hn : nv < 32) {q : Nat} (h1 : 1 ≤ q) (h6 : q ≤ 6) (x : Int32) (hx : q ≠ 3 → x = 0) :
    vl_R (nv + 1) (fu kd (nv + 1) q) (fu ct (nv + 1) 0) (upd xk (nv + 1) (nI q)) (upd am (nv + 1) x) pt fd (upd yk nv (nI q)) (upd yn nv x) (upd yc nv 0) ys yi yq yv := by
  refine ⟨by omega, fun j hj => ?_⟩
  by_cases e : j = nv
  · subst e
    rw [fu_s, fu_s, pk_us, pk_us, pk_us, pk_us, pk_us]
    exact ⟨h1, h6, by omega, rfl, rfl, rfl, fun _ => rfl, hx, fun _ => rfl, fun _ => by omega, fun _ i hi => absurd hi (by omega), fun _ i hi => absurd hi (by omega), fun _ i hi => absurd hi (by omega)⟩
  · simp only [fu_n (show j + 1 ≠ nv + 1 from by omega), pk_un (show j + 1 ≠ nv + 1 from by omega), pk_un e]
    obtain ⟨g1, g2, g3, g4, g5, g6, g7, g8, g9, g10, g11, g12, g13⟩ := h.2 j (by omega)
    refine ⟨g1, g2, g3, g4, g5, g6, g7, g8, g9, g10, g11, fun z i hi => ?_, fun z i hi => ?_⟩
    · obtain ⟨a, w, b, c, d⟩ := g12 z i hi
      exact ⟨a, w, b, by omega, d⟩
    · obtain ⟨a, a2, w, b, c, d⟩ := g13 z i hi
      exact ⟨a, a2, w, b, by omega, d⟩
/-- one part more for the value j + 1 -/
theorem vl_add (h : vl_R nv kd ct xk am pt fd yk yn yc ys yi yq yv) {j : Nat} (hj : j < nv) {fd' ys' yi' yq' yv' : Nat → Int32} (c : Int32) (hk : 4 ≤ kd (j + 1)) (h8 : ct (j + 1) < 8) (h4 : 5 ≤ kd (j + 1) → ct (j + 1) < 4)
    (es : ∀ x, (kd (j + 1) = 4 → x ≠ j * 8 + ct (j + 1)) → ys' x = ys x) (ei : ∀ x, (kd (j + 1) = 5 → x ≠ j * 4 + ct (j + 1)) → yi' x = yi x) (eq : ∀ x, (kd (j + 1) = 6 → x ≠ j * 4 + ct (j + 1)) → yq' x = yq x) (ev : ∀ x, (kd (j + 1) = 6 → x ≠ j * 4 + ct (j + 1)) → yv' x = yv x) (ef : ∀ x, (kd (j + 1) = 6 → x ≠ (j + 1) * 4 + ct (j + 1)) → fd' x = fd x)
    (n4 : kd (j + 1) = 4 → ys' (j * 8 + ct (j + 1)) = c) (n5 : kd (j + 1) = 5 → yi' (j * 4 + ct (j + 1)) = c ∧ ∃ w, 1 ≤ w ∧ w ≤ nv ∧ c = nI w) (n6 : kd (j + 1) = 6 → yq' (j * 4 + ct (j + 1)) = c ∧ fd' ((j + 1) * 4 + ct (j + 1)) = yv' (j * 4 + ct (j + 1)) ∧ ∃ w, 1 ≤ w ∧ w ≤ nv ∧ yv' (j * 4 + ct (j + 1)) = nI w) :
    vl_R nv kd (fu ct (j + 1) (ct (j + 1) + 1)) xk (upd am (j + 1) (nI (ct (j + 1) + 1))) (upd pt ((j + 1) * 8 + ct (j + 1)) c) fd' yk yn (upd yc j (nI (ct (j + 1) + 1))) ys' yi' yq' yv' := by
  refine ⟨h.1, fun i hi => ?_⟩
  by_cases e : i = j
  · subst e
    obtain ⟨g1, g2, g3, g4, g5, g6, g7, g8, g9, g10, g11, g12, g13⟩ := h.2 i hi
    rw [fu_s, pk_us, pk_us]
    refine ⟨g1, g2, by omega, g4, g5, rfl, fun z => by omega, fun _ => rfl, fun z => by omega, fun z => by have := h4 z; omega, fun z a ha => ?_, fun z a ha => ?_, fun z a ha => ?_⟩
    · by_cases w : a = ct (i + 1)
      · subst w
        rw [pk_us, n4 z]
      · rw [pk_un (by omega), es _ (fun _ => by omega)]
        exact g11 z a (by omega)
    · by_cases w : a = ct (i + 1)
      · subst w
        rw [pk_us, (n5 z).1]
        exact ⟨rfl, (n5 z).2⟩
      · rw [pk_un (by omega), ei _ (fun _ => by omega)]
        exact g12 z a (by omega)
    · by_cases w : a = ct (i + 1)
      · subst w
        rw [pk_us, (n6 z).1]
        exact ⟨rfl, (n6 z).2⟩
      · rw [pk_un (by omega), eq _ (fun _ => by omega), ev _ (fun _ => by omega), ef _ (fun _ => by omega)]
        exact g13 z a (by omega)
  · obtain ⟨g1, g2, g3, g4, g5, g6, g7, g8, g9, g10, g11, g12, g13⟩ := h.2 i hi
    simp only [fu_n (show i + 1 ≠ j + 1 from by omega), pk_un (show i + 1 ≠ j + 1 from by omega), pk_un e]
    refine ⟨g1, g2, g3, g4, g5, g6, g7, g8, g9, g10, fun z a ha => ?_, fun z a ha => ?_, fun z a ha => ?_⟩
    · rw [pk_un (by omega), es _ (fun _ => by omega)]
      exact g11 z a ha
    · have := g10 (by omega)
      rw [pk_un (by omega), ei _ (fun y => by have := h4 (by omega); omega)]
      exact g12 z a ha
    · have := g10 (by omega)
      rw [pk_un (by omega), eq _ (fun y => by have := h4 (by omega); omega), ev _ (fun y => by have := h4 (by omega); omega), ef _ (fun y => by have := h4 (by omega); omega)]
      exact g13 z a ha
/-- a field of the map j + 1 set anew -/
theorem vl_set (h : vl_R nv kd ct xk am pt fd yk yn yc ys yi yq yv) {j a : Nat} (hj : j < nv) (hk : kd (j + 1) = 6) (ha : a < ct (j + 1)) {w : Nat} (h1 : 1 ≤ w) (h2 : w ≤ nv) :
    vl_R nv kd ct xk am pt (upd fd ((j + 1) * 4 + a) (nI w)) yk yn yc ys yi yq (upd yv (j * 4 + a) (nI w)) := by
  refine ⟨h.1, fun i hi => ?_⟩
  obtain ⟨g1, g2, g3, g4, g5, g6, g7, g8, g9, g10, g11, g12, g13⟩ := h.2 i hi
  have hj4 := (h.2 j hj).2.2.2.2.2.2.2.2.2.1 (by omega)
  refine ⟨g1, g2, g3, g4, g5, g6, g7, g8, g9, g10, g11, g12, fun z b hb => ?_⟩
  have := g10 (by omega)
  obtain ⟨x1, x2, x3⟩ := g13 z b hb
  by_cases e : (i + 1) * 4 + b = (j + 1) * 4 + a
  · rw [e, show i * 4 + b = j * 4 + a from by omega, pk_us, pk_us]
    rw [show i * 4 + b = j * 4 + a from by omega] at x1
    exact ⟨x1, rfl, w, h1, h2, rfl⟩
  · rw [pk_un e, pk_un (by omega)]
    exact ⟨x1, x2, x3⟩
end VL
end LLV
