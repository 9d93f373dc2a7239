section LLTX
theorem irT_chg {ln : Nat → Nat} {tx tl ss K N E G tx' : Nat → Int32} (h : ir_T ln tx tl ss K N E G) {s n' : Nat} (hs : s < 4) (hn : n' ≤ 96) (hr : ∀ j, 0 ≤ tx' j ∧ tx' j ≤ 126) (ho : ∀ s' c, s' ≠ s → c < 96 → tx' (s' * 96 + c) = tx (s' * 96 + c)) : ir_T (fu ln s n') tx' (upd tl s (nI n')) (upd ss s (-7)) K N E G := by
  refine ⟨fun s' h' => ?_, hr, fun s' h' z => ?_⟩
  · by_cases e : s' = s
    · rw [e, fu_s, pk_us]; exact ⟨hn, rfl⟩
    · rw [fu_n e, pk_un e]; exact h.1 s' h'
  · by_cases e : s' = s
    · rw [e, pk_us] at z; exact absurd z (by decide)
    · rw [pk_un e] at z
      rw [fu_n e]
      exact cp_cg (h.1 s' h').1 (h.2.2 s' h' z) (fun c hc => ⟨ho s' c e hc, rfl, rfl, rfl, rfl⟩)
theorem ud_self {f : Nat → Int32} {k : Nat} {x : Int32} (h : f k = x) : upd f k x = f := by
  funext j
  by_cases e : j = k
  · rw [e, pk_us, h]
  · rw [pk_un e]
def pc_f (p : Int32) (i : Nat) : Int32 := ((p.toUInt32 >>> ((8 * nI i).toUInt32 &&& Int32.toUInt32 31)).toInt32) &&& 255
def pc_n (g : Nat → Int32) : Nat → Nat → Nat
  | 0, i => i
  | d + 1, i => if g i = 0 then i else pc_n g d (i + 1)
theorem pc_nu {g : Nat → Int32} {d i : Nat} : pc_n g (d + 1) i = if g i = 0 then i else pc_n g d (i + 1) := rfl
theorem pc_nb {g : Nat → Int32} : ∀ d i, i ≤ pc_n g d i ∧ pc_n g d i ≤ i + d := by
  intro d
  induction d with
  | zero => intro i; exact ⟨Nat.le_refl _, Nat.le_refl _⟩
  | succ d ih =>
    intro i
    rw [pc_nu]
    have := ih (i + 1)
    split <;> omega
def pc_t (c : Int32) : Prop := c = 10 ∨ (32 ≤ c ∧ c ≤ 126)
section XX
variable {f_openMarkLength f_closeMarkLength f_openCount f_compileFrom f_compileTo f_valueCount f_outCap f_outCount f_frameCount f_valueTextLength f_renderAt f_renderTo f_returnAt f_finished f_overflowed : Int32} {a_text a_cellKind a_cellName a_tagEnd a_sectionEnd a_textLength a_slotStatus a_slotError a_openMark a_closeMark a_openTags a_valueKind a_amount a_parts a_fieldValues a_out a_frameValue a_frameList a_frameNext a_frameBody a_valueText : Nat → Int32}
theorem xl_pch {post : Int32 → Prop} {p : Int32} {i : Nat} (h : post (pc_f p i)) : wpX_packedChar post (f_openMarkLength, f_closeMarkLength, f_openCount, f_compileFrom, f_compileTo, f_valueCount, f_outCap, f_outCount, f_frameCount, f_valueTextLength, f_renderAt, f_renderTo, f_returnAt, f_finished, f_overflowed, a_text, a_cellKind, a_cellName, a_tagEnd, a_sectionEnd, a_textLength, a_slotStatus, a_slotError, a_openMark, a_closeMark, a_openTags, a_valueKind, a_amount, a_parts, a_fieldValues, a_out, a_frameValue, a_frameList, a_frameNext, a_frameBody, a_valueText) p (nI i) := h
theorem xl_pcn {post : Int32 → Prop} {p : Int32} : ∀ d i, i + d = 4 → post (nI (pc_n (pc_f p) d i)) → wX_packedCount_2 post p f_openMarkLength f_closeMarkLength f_openCount f_compileFrom f_compileTo f_valueCount f_outCap f_outCount f_frameCount f_valueTextLength f_renderAt f_renderTo f_returnAt f_finished f_overflowed a_text a_cellKind a_cellName a_tagEnd a_sectionEnd a_textLength a_slotStatus a_slotError a_openMark a_closeMark a_openTags a_valueKind a_amount a_parts a_fieldValues a_out a_frameValue a_frameList a_frameNext a_frameBody a_valueText (d + 1) (nI i) := by
  intro d
  induction d with
  | zero =>
    intro i hi h
    have e : i = 4 := by omega
    subst e
    exact br_t (nI_le (a := 4) (b := 4) (by omega) (by decide)) h
  | succ d ih =>
    intro i hi h
    rw [pc_nu] at h
    refine br_f (nI_ge (b := 4) (by omega) (by decide)) (xl_pch ?_)
    by_cases z : pc_f p i = 0
    · rw [if_pos z] at h
      exact br_t z h
    · rw [if_neg z] at h
      exact br_f z (nm_r (nI_1 _) (ih (i + 1) (by omega) h))
theorem xl_tc {post : Int32 → Prop} {c : Int32} (h1 : pc_t c → post 1) (h0 : ¬ pc_t c → post 0) : wpX_isTextChar post (f_openMarkLength, f_closeMarkLength, f_openCount, f_compileFrom, f_compileTo, f_valueCount, f_outCap, f_outCount, f_frameCount, f_valueTextLength, f_renderAt, f_renderTo, f_returnAt, f_finished, f_overflowed, a_text, a_cellKind, a_cellName, a_tagEnd, a_sectionEnd, a_textLength, a_slotStatus, a_slotError, a_openMark, a_closeMark, a_openTags, a_valueKind, a_amount, a_parts, a_fieldValues, a_out, a_frameValue, a_frameList, a_frameNext, a_frameBody, a_valueText) c := by
  unfold wpX_isTextChar
  refine br_c (fun z => h1 (Or.inl z)) (fun z => xl_prin (fun a b => br_f (by decide) (h1 (Or.inr ⟨a, b⟩))) (fun a => br_t rfl (h0 ?_)))
  rintro (y | y)
  · exact z y
  · exact a y
theorem xl_19T {post : Int32 → SX → Prop} {p x1 : Int32} {m : Nat} (hm : m ≤ 4) (hg : ∀ b, b < m → pc_t (pc_f p b)) (h : wX_putChars_19 post x1 p (nI m) f_openMarkLength f_closeMarkLength f_openCount f_compileFrom f_compileTo f_valueCount f_outCap f_outCount f_frameCount f_valueTextLength f_renderAt f_renderTo f_returnAt f_finished f_overflowed a_text a_cellKind a_cellName a_tagEnd a_sectionEnd a_textLength a_slotStatus a_slotError a_openMark a_closeMark a_openTags a_valueKind a_amount a_parts a_fieldValues a_out a_frameValue a_frameList a_frameNext a_frameBody a_valueText 1 (nI m)) : ∀ d i, i + d = m → wX_putChars_19 post x1 p (nI m) f_openMarkLength f_closeMarkLength f_openCount f_compileFrom f_compileTo f_valueCount f_outCap f_outCount f_frameCount f_valueTextLength f_renderAt f_renderTo f_returnAt f_finished f_overflowed a_text a_cellKind a_cellName a_tagEnd a_sectionEnd a_textLength a_slotStatus a_slotError a_openMark a_closeMark a_openTags a_valueKind a_amount a_parts a_fieldValues a_out a_frameValue a_frameList a_frameNext a_frameBody a_valueText (d + 1) (nI i) := by
  intro d
  induction d with
  | zero =>
    intro i hi
    have e : i = m := by omega
    subst e
    exact h
  | succ d ih =>
    intro i hi
    exact br_f (nI_ge (by omega) (by omega)) (xl_pch (xl_tc (fun _ => br_f (by decide) (nm_r (nI_1 _) (ih (i + 1) (by omega)))) (fun z => absurd (hg i (by omega)) z)))
theorem xl_19F {post : Int32 → SX → Prop} {p x1 : Int32} {m : Nat} (hm : m ≤ 4) (h : post (-1) (f_openMarkLength, f_closeMarkLength, f_openCount, f_compileFrom, f_compileTo, f_valueCount, f_outCap, f_outCount, f_frameCount, f_valueTextLength, f_renderAt, f_renderTo, f_returnAt, f_finished, f_overflowed, a_text, a_cellKind, a_cellName, a_tagEnd, a_sectionEnd, a_textLength, a_slotStatus, a_slotError, a_openMark, a_closeMark, a_openTags, a_valueKind, a_amount, a_parts, a_fieldValues, a_out, a_frameValue, a_frameList, a_frameNext, a_frameBody, a_valueText)) : ∀ d i, i + d = m → (∃ b, i ≤ b ∧ b < m ∧ ¬ pc_t (pc_f p b)) → wX_putChars_19 post x1 p (nI m) f_openMarkLength f_closeMarkLength f_openCount f_compileFrom f_compileTo f_valueCount f_outCap f_outCount f_frameCount f_valueTextLength f_renderAt f_renderTo f_returnAt f_finished f_overflowed a_text a_cellKind a_cellName a_tagEnd a_sectionEnd a_textLength a_slotStatus a_slotError a_openMark a_closeMark a_openTags a_valueKind a_amount a_parts a_fieldValues a_out a_frameValue a_frameList a_frameNext a_frameBody a_valueText (d + 1) (nI i) := by
  intro d
  induction d with
  | zero => intro i hi ⟨b, b1, b2, _⟩; omega
  | succ d ih =>
    intro i hi ⟨b, b1, b2, b3⟩
    refine br_f (nI_ge (by omega) (by omega)) (xl_pch (xl_tc (fun z => br_f (by decide) (nm_r (nI_1 _) (ih (i + 1) (by omega) ⟨b, ?_, b2, b3⟩))) (fun z => br_t rfl h)))
    by_cases e : b = i
    · rw [e] at b3; exact absurd z b3
    · omega
theorem xl_chg {post : SX → Prop} {s : Nat} {x : Int32} (hs : s < 4) (h : post (f_openMarkLength, f_closeMarkLength, f_openCount, f_compileFrom, f_compileTo, f_valueCount, f_outCap, f_outCount, f_frameCount, f_valueTextLength, f_renderAt, f_renderTo, f_returnAt, f_finished, f_overflowed, a_text, a_cellKind, a_cellName, a_tagEnd, a_sectionEnd, upd a_textLength s x, upd a_slotStatus s (-7), upd a_slotError s (-1), a_openMark, a_closeMark, a_openTags, a_valueKind, a_amount, a_parts, a_fieldValues, a_out, a_frameValue, a_frameList, a_frameNext, a_frameBody, a_valueText)) : wpX_changeLength post (f_openMarkLength, f_closeMarkLength, f_openCount, f_compileFrom, f_compileTo, f_valueCount, f_outCap, f_outCount, f_frameCount, f_valueTextLength, f_renderAt, f_renderTo, f_returnAt, f_finished, f_overflowed, a_text, a_cellKind, a_cellName, a_tagEnd, a_sectionEnd, a_textLength, a_slotStatus, a_slotError, a_openMark, a_closeMark, a_openTags, a_valueKind, a_amount, a_parts, a_fieldValues, a_out, a_frameValue, a_frameList, a_frameNext, a_frameBody, a_valueText) (nI s) x := by
  unfold wpX_changeLength
  have e : (nI s).toNatClampNeg = s := nI_clamp (by omega)
  refine ⟨vp_in_nI hs (by omega), nm_r (by rw [e]) ⟨vp_in_nI hs (by omega), nm_r (by rw [e]) ⟨vp_in_nI hs (by omega), nm_r (by rw [e]) h⟩⟩⟩
theorem xl_83 {post : Int32 → SX → Prop} {s n m : Nat} {p : Int32} (hs : s < 4) (hl : a_textLength s = nI n) (hn : n + m ≤ 96) (h : post (nI m) (f_openMarkLength, f_closeMarkLength, f_openCount, f_compileFrom, f_compileTo, f_valueCount, f_outCap, f_outCount, f_frameCount, f_valueTextLength, f_renderAt, f_renderTo, f_returnAt, f_finished, f_overflowed, wr_f a_text (pc_f p) (s * 96 + n) m, a_cellKind, a_cellName, a_tagEnd, a_sectionEnd, upd a_textLength s (nI (n + m)), upd a_slotStatus s (-7), upd a_slotError s (-1), a_openMark, a_closeMark, a_openTags, a_valueKind, a_amount, a_parts, a_fieldValues, a_out, a_frameValue, a_frameList, a_frameNext, a_frameBody, a_valueText)) : ∀ d i, i + d = m → wX_putChars_83 post (nI s) p (nI m) (nI (s * 96 + n)) f_openMarkLength f_closeMarkLength f_openCount f_compileFrom f_compileTo f_valueCount f_outCap f_outCount f_frameCount f_valueTextLength f_renderAt f_renderTo f_returnAt f_finished f_overflowed (d + 1) (nI i) (wr_f a_text (pc_f p) (s * 96 + n) i) a_cellKind a_cellName a_tagEnd a_sectionEnd a_textLength a_slotStatus a_slotError a_openMark a_closeMark a_openTags a_valueKind a_amount a_parts a_fieldValues a_out a_frameValue a_frameList a_frameNext a_frameBody a_valueText := by
  intro d
  induction d with
  | zero =>
    intro i hi
    have e : i = m := by omega
    subst e
    unfold wX_putChars_83
    rw [nI_clamp (show s < 2 ^ 31 from by omega), hl, nI_add]
    exact br_t (nI_le (by omega) (by omega)) ⟨vp_in_nI hs (by omega), xl_chg hs h⟩
  | succ d ih =>
    intro i hi
    refine br_f (nI_ge (by omega) (by omega)) (xl_pch ?_)
    refine ⟨by rw [nI_add]; exact vp_in_nI (by omega) (by omega), nm_r ?_ (nm_r (nI_1 _) (ih (i + 1) (by omega)))⟩
    rw [nI_add, nI_clamp (by omega)]
    exact wr_s
end XX
section YY
variable {g_ol g_cl g_newOl g_newCl g_tagName g_parseErr g_openCount g_nVals g_outLen g_outCap g_fn g_cn : Int32} {b_text b_len b_stat b_errPos b_removed b_tType b_tA b_tB b_tName b_tMatch b_tCount b_oc b_cc b_newO b_newC b_openName b_openTok b_vKind b_vNum b_vCnt b_vStr b_vItem b_vKey b_vVal b_out b_fv b_cKind b_cSlot b_cTok b_cVal b_cIdx b_dig : Nat → Int32}
theorem yl_16T {post : Int32 → SY → Prop} {p x1 : Int32} {m : Nat} (h : wY_putChars_75 post x1 p (nI m) g_ol g_cl g_newOl g_newCl g_tagName g_parseErr g_openCount g_nVals g_outLen g_outCap g_fn g_cn b_text b_len b_stat b_errPos b_removed b_tType b_tA b_tB b_tName b_tMatch b_tCount b_oc b_cc b_newO b_newC b_openName b_openTok b_vKind b_vNum b_vCnt b_vStr b_vItem b_vKey b_vVal b_out b_fv b_cKind b_cSlot b_cTok b_cVal b_cIdx b_dig) : ∀ d i, i + d = 4 → pc_n (pc_f p) d i = m → (∀ b, i ≤ b → b < m → pc_t (pc_f p b)) → wY_putChars_16 post x1 p g_ol g_cl g_newOl g_newCl g_tagName g_parseErr g_openCount g_nVals g_outLen g_outCap g_fn g_cn b_text b_len b_stat b_errPos b_removed b_tType b_tA b_tB b_tName b_tMatch b_tCount b_oc b_cc b_newO b_newC b_openName b_openTok b_vKind b_vNum b_vCnt b_vStr b_vItem b_vKey b_vVal b_out b_fv b_cKind b_cSlot b_cTok b_cVal b_cIdx b_dig (d + 1) (nI i) (nI i) := by
  intro d
  induction d with
  | zero =>
    intro i hi hm hg
    have e : i = m := hm
    subst e
    exact br_t (nI_le (a := 4) (by omega) (by omega)) h
  | succ d ih =>
    intro i hi hm hg
    rw [pc_nu] at hm
    refine br_f (nI_ge (b := 4) (by omega) (by decide)) (nm_r (e' := pc_f p i) rfl ?_)
    by_cases z : pc_f p i = 0
    · rw [if_pos z] at hm
      subst hm
      exact br_t z h
    · rw [if_neg z] at hm
      have hb := pc_nb (g := pc_f p) d (i + 1)
      have r := ih (i + 1) (by omega) hm (fun b b1 b2 => hg b (by omega) b2)
      refine br_f z ?_
      by_cases y : pc_f p i = 10
      · exact br_t y (nm_r (nI_1 _) (nm_r (nI_1 _) r))
      · rcases hg i (Nat.le_refl _) (by omega) with w | w
        · exact absurd w y
        · exact br_f y (br_f (Int32.not_lt.mpr w.1) (br_t w.2 (nm_r (nI_1 _) (nm_r (nI_1 _) r))))
theorem yl_16F {post : Int32 → SY → Prop} {p x1 : Int32} {m : Nat} (h : post (-1) (g_ol, g_cl, g_newOl, g_newCl, g_tagName, g_parseErr, g_openCount, g_nVals, g_outLen, g_outCap, g_fn, g_cn, b_text, b_len, b_stat, b_errPos, b_removed, b_tType, b_tA, b_tB, b_tName, b_tMatch, b_tCount, b_oc, b_cc, b_newO, b_newC, b_openName, b_openTok, b_vKind, b_vNum, b_vCnt, b_vStr, b_vItem, b_vKey, b_vVal, b_out, b_fv, b_cKind, b_cSlot, b_cTok, b_cVal, b_cIdx, b_dig)) : ∀ d i, i + d = 4 → pc_n (pc_f p) d i = m → (∃ b, i ≤ b ∧ b < m ∧ ¬ pc_t (pc_f p b)) → wY_putChars_16 post x1 p g_ol g_cl g_newOl g_newCl g_tagName g_parseErr g_openCount g_nVals g_outLen g_outCap g_fn g_cn b_text b_len b_stat b_errPos b_removed b_tType b_tA b_tB b_tName b_tMatch b_tCount b_oc b_cc b_newO b_newC b_openName b_openTok b_vKind b_vNum b_vCnt b_vStr b_vItem b_vKey b_vVal b_out b_fv b_cKind b_cSlot b_cTok b_cVal b_cIdx b_dig (d + 1) (nI i) (nI i) := by
  intro d
  induction d with
  | zero =>
    intro i hi hm ⟨b, b1, b2, _⟩
    have e : i = m := hm
    omega
  | succ d ih =>
    intro i hi hm ⟨b, b1, b2, b3⟩
    rw [pc_nu] at hm
    refine br_f (nI_ge (b := 4) (by omega) (by decide)) (nm_r (e' := pc_f p i) rfl ?_)
    by_cases z : pc_f p i = 0
    · rw [if_pos z] at hm
      omega
    · rw [if_neg z] at hm
      refine br_f z ?_
      have step : pc_t (pc_f p i) → wY_putChars_16 post x1 p g_ol g_cl g_newOl g_newCl g_tagName g_parseErr g_openCount g_nVals g_outLen g_outCap g_fn g_cn b_text b_len b_stat b_errPos b_removed b_tType b_tA b_tB b_tName b_tMatch b_tCount b_oc b_cc b_newO b_newC b_openName b_openTok b_vKind b_vNum b_vCnt b_vStr b_vItem b_vKey b_vVal b_out b_fv b_cKind b_cSlot b_cTok b_cVal b_cIdx b_dig (d + 1) (nI (i + 1)) (nI (i + 1)) := fun w => ih (i + 1) (by omega) hm ⟨b, by
        by_cases e : b = i
        · rw [e] at b3; exact absurd w b3
        · omega, b2, b3⟩
      by_cases y : pc_f p i = 10
      · exact br_t y (nm_r (nI_1 _) (nm_r (nI_1 _) (step (Or.inl y))))
      · refine br_f y (br_c (fun _ => h) (fun w => br_c (fun w2 => nm_r (nI_1 _) (nm_r (nI_1 _) (step (Or.inr ⟨Int32.not_lt.mp w, w2⟩)))) (fun _ => h)))
theorem yl_100 {post : Int32 → SY → Prop} {s n m : Nat} {p : Int32} (hs : s < 4) (hn : n + m ≤ 96) (h : post (nI m) (g_ol, g_cl, g_newOl, g_newCl, g_tagName, g_parseErr, g_openCount, g_nVals, g_outLen, g_outCap, g_fn, g_cn, wr_f b_text (pc_f p) (s * 96 + n) m, upd b_len s (nI (n + m)), upd b_stat s (-7), upd b_errPos s (-1), b_removed, b_tType, b_tA, b_tB, b_tName, b_tMatch, b_tCount, b_oc, b_cc, b_newO, b_newC, b_openName, b_openTok, b_vKind, b_vNum, b_vCnt, b_vStr, b_vItem, b_vKey, b_vVal, b_out, b_fv, b_cKind, b_cSlot, b_cTok, b_cVal, b_cIdx, b_dig)) : ∀ d i, i + d = m → wY_putChars_100 post (nI s) p (nI m) g_ol g_cl g_newOl g_newCl g_tagName g_parseErr g_openCount g_nVals g_outLen g_outCap g_fn g_cn (d + 1) (nI i) (wr_f b_text (pc_f p) (s * 96 + n) i) (upd b_len s (nI (n + i))) b_stat b_errPos b_removed b_tType b_tA b_tB b_tName b_tMatch b_tCount b_oc b_cc b_newO b_newC b_openName b_openTok b_vKind b_vNum b_vCnt b_vStr b_vItem b_vKey b_vVal b_out b_fv b_cKind b_cSlot b_cTok b_cVal b_cIdx b_dig := by
  have e : (nI s).toNatClampNeg = s := nI_clamp (by omega)
  intro d
  induction d with
  | zero =>
    intro i hi
    have e2 : i = m := by omega
    subst e2
    exact br_t (nI_le (by omega) (by omega)) ⟨vp_in_nI hs (by omega), nm_r (by rw [e]) ⟨vp_in_nI hs (by omega), nm_r (by rw [e]) h⟩⟩
  | succ d ih =>
    intro i hi
    refine br_f (nI_ge (by omega) (by omega)) ⟨vp_in_nI hs (by omega), ?_⟩
    rw [e, pk_us, la_m96, nI_add, nI_clamp (by omega)]
    refine ⟨vp_in_nI (by omega) (by omega), nm_r ?_ ⟨vp_in_nI hs (by omega), vp_in_nI hs (by omega), nm_r ?_ (nm_r (nI_1 _) (ih (i + 1) (by omega)))⟩⟩
    · rw [show s * 96 + (n + i) = s * 96 + n + i from by omega]
      exact wr_s
    · rw [nI_1, fl_uu]
      rfl
end YY
theorem i_vc_clearTemplate {k : Nat} {u : SX} {v : SY} (I : i_Rel k u v) (hk : k + 4 ≤ 2049) (v1 : Int32) : wpX_clearTemplate (fun r u' => wpY_clearTemplate (fun r' v' => r' = r ∧ i_Rel (k + 4) u' v') v v1) u v1 := by
  refine ir_el (P := fun u v => wpX_clearTemplate (fun r u' => wpY_clearTemplate (fun r' v' => r' = r ∧ i_Rel (k + 4) u' v') v v1) u v1) I ?_
  intro f_openMarkLength f_closeMarkLength f_openCount f_compileFrom f_compileTo f_frameCount f_valueTextLength f_renderAt f_renderTo f_returnAt f_finished f_overflowed a_text a_cellKind a_cellName a_tagEnd a_sectionEnd a_textLength a_slotStatus a_slotError a_openMark a_closeMark a_openTags a_valueKind a_amount a_parts a_fieldValues a_out a_frameValue a_frameList a_frameNext a_frameBody a_valueText g_ol g_cl g_newOl g_newCl g_tagName g_parseErr g_openCount g_fn g_cn b_removed b_tType b_tA b_tB b_tName b_tMatch b_tCount b_oc b_cc b_newO b_newC b_openName b_openTok b_vKind b_vNum b_vCnt b_vStr b_vItem b_vKey b_vVal b_fv b_cKind b_cSlot b_cTok b_cVal b_cIdx b_dig ln nv oc cap kd ct hc1 hc2 hoc hT hV
  unfold wpX_clearTemplate wpY_clearTemplate
  rcases pk_ix v1 (n := 4) (by omega) with h | h | ⟨s, hs, rfl⟩
  · exact xl_nslot (Or.inl h) (br_t rfl (br_t h ⟨rfl, ir_mk hc1 hc2 hoc hT hV⟩))
  · exact xl_nslot (Or.inr h) (br_t rfl (br_c (fun _ => ⟨rfl, ir_mk hc1 hc2 hoc hT hV⟩) (fun _ => br_f (fun z => absurd (Int32.le_trans h z) (by decide)) ⟨rfl, ir_mk hc1 hc2 hoc hT hV⟩)))
  · have e : (nI s).toNatClampNeg = s := nI_clamp (by omega)
    refine xl_slot hs (br_f (by decide) (xl_chg hs (br_f (nI_pos (by omega)) (br_t (nI_le (b := 3) (by omega) (by decide)) ⟨vp_in_nI hs (by omega), nm_r (by rw [e]) ⟨vp_in_nI hs (by omega), nm_r (by rw [e]) ⟨vp_in_nI hs (by omega), nm_r (by rw [e]) ⟨rfl, ?_⟩⟩⟩⟩))))
    exact ir_mk hc1 hc2 hoc (irT_chg hT hs (n' := 0) (by omega) hT.2.1 (fun _ _ _ _ => rfl)) hV
theorem i_vc_putChars {k : Nat} {u : SX} {v : SY} (I : i_Rel k u v) (hk : k + 4 ≤ 2049) (v1 : Int32) (v2 : Int32) : wpX_putChars (fun r u' => wpY_putChars (fun r' v' => r' = r ∧ i_Rel (k + 4) u' v') v v1 v2) u v1 v2 := by
  refine ir_el (P := fun u v => wpX_putChars (fun r u' => wpY_putChars (fun r' v' => r' = r ∧ i_Rel (k + 4) u' v') v v1 v2) u v1 v2) I ?_
  intro f_openMarkLength f_closeMarkLength f_openCount f_compileFrom f_compileTo f_frameCount f_valueTextLength f_renderAt f_renderTo f_returnAt f_finished f_overflowed a_text a_cellKind a_cellName a_tagEnd a_sectionEnd a_textLength a_slotStatus a_slotError a_openMark a_closeMark a_openTags a_valueKind a_amount a_parts a_fieldValues a_out a_frameValue a_frameList a_frameNext a_frameBody a_valueText g_ol g_cl g_newOl g_newCl g_tagName g_parseErr g_openCount g_fn g_cn b_removed b_tType b_tA b_tB b_tName b_tMatch b_tCount b_oc b_cc b_newO b_newC b_openName b_openTok b_vKind b_vNum b_vCnt b_vStr b_vItem b_vKey b_vVal b_fv b_cKind b_cSlot b_cTok b_cVal b_cIdx b_dig ln nv oc cap kd ct hc1 hc2 hoc hT hV
  unfold wpX_putChars wpY_putChars
  rcases pk_ix v1 (n := 4) (by omega) with h | h | ⟨s, hs, rfl⟩
  · exact xl_nslot (Or.inl h) (br_t rfl (br_t h ⟨rfl, ir_mk hc1 hc2 hoc hT hV⟩))
  · exact xl_nslot (Or.inr h) (br_t rfl (br_c (fun _ => ⟨rfl, ir_mk hc1 hc2 hoc hT hV⟩) (fun _ => br_f (fun z => absurd (Int32.le_trans h z) (by decide)) ⟨rfl, ir_mk hc1 hc2 hoc hT hV⟩)))
  · have e : (nI s).toNatClampNeg = s := nI_clamp (by omega)
    have hl := hT.1 s hs
    have y0 : ¬ nI s < 0 := nI_pos (by omega)
    have y3 : nI s ≤ 3 := nI_le (b := 3) (by omega) (by decide)
    have hb := pc_nb (g := pc_f v2) 4 0
    obtain ⟨m, hm⟩ : ∃ m, m = pc_n (pc_f v2) 4 0 := ⟨_, rfl⟩
    refine xl_slot hs (br_f (by decide) ⟨_, xl_pcn 4 0 rfl ?_⟩)
    show ∃ n19 : Nat, _
    rw [← hm]
    by_cases hg : ∀ b, b < m → pc_t (pc_f v2 b)
    · refine ⟨_, xl_19T (by omega) hg (br_t (nI_le (Nat.le_refl _) (by omega)) ?_) m 0 (by omega)⟩
      refine pk_eq m 0 (fun z => ?_) (fun z => ⟨vp_in_nI hs (by omega), ?_⟩)
      · refine br_f y0 (br_t y3 ⟨_, yl_16T (m := m) (br_t (by rw [z]; rfl) ⟨rfl, ir_mk hc1 hc2 hoc hT hV⟩) 4 0 rfl hm.symm (fun b _ b2 => hg b b2)⟩)
      · rw [e, hl.2, nI_add]
        refine pk_le (ln s + m) 96 (fun w => xl_tend hs hl.2 ?_) (fun w => ?_)
        · show ∃ n83 : Nat, _
          have r := xl_83 (f_openMarkLength := f_openMarkLength) (f_closeMarkLength := f_closeMarkLength) (f_openCount := f_openCount) (f_compileFrom := f_compileFrom) (f_compileTo := f_compileTo) (f_valueCount := nI nv) (f_outCap := nI cap) (f_outCount := nI oc) (f_frameCount := f_frameCount) (f_valueTextLength := f_valueTextLength) (f_renderAt := f_renderAt) (f_renderTo := f_renderTo) (f_returnAt := f_returnAt) (f_finished := f_finished) (f_overflowed := f_overflowed) (a_text := a_text) (a_cellKind := a_cellKind) (a_cellName := a_cellName) (a_tagEnd := a_tagEnd) (a_sectionEnd := a_sectionEnd) (a_textLength := a_textLength) (a_slotStatus := a_slotStatus) (a_slotError := a_slotError) (a_openMark := a_openMark) (a_closeMark := a_closeMark) (a_openTags := a_openTags) (a_valueKind := a_valueKind) (a_amount := a_amount) (a_parts := a_parts) (a_fieldValues := a_fieldValues) (a_out := a_out) (a_frameValue := a_frameValue) (a_frameList := a_frameList) (a_frameNext := a_frameNext) (a_frameBody := a_frameBody) (a_valueText := a_valueText) (p := v2) (m := m) (n := ln s) hs hl.2 w (post := fun r u' => wpY_putChars (fun r' v' => r' = r ∧ i_Rel (k + 4) u' v') (g_ol, g_cl, g_newOl, g_newCl, g_tagName, g_parseErr, g_openCount, nI nv, nI oc, nI cap, g_fn, g_cn, a_text, a_textLength, a_slotStatus, a_slotError, b_removed, b_tType, b_tA, b_tB, b_tName, b_tMatch, b_tCount, b_oc, b_cc, b_newO, b_newC, b_openName, b_openTok, b_vKind, b_vNum, b_vCnt, b_vStr, b_vItem, b_vKey, b_vVal, a_out, b_fv, b_cKind, b_cSlot, b_cTok, b_cVal, b_cIdx, b_dig) (nI s) v2) ?_ m 0 (by omega)
          · rw [wr_0] at r
            exact ⟨_, r⟩
          · refine br_f y0 (br_t y3 ⟨_, yl_16T (m := m) (br_f (nI_ne0 (by omega) (by omega)) ⟨vp_in_nI hs (by omega), ?_⟩) 4 0 rfl hm.symm (fun b _ b2 => hg b b2)⟩)
            rw [e, hl.2, nI_add]
            have r := yl_100 (g_ol := g_ol) (g_cl := g_cl) (g_newOl := g_newOl) (g_newCl := g_newCl) (g_tagName := g_tagName) (g_parseErr := g_parseErr) (g_openCount := g_openCount) (g_nVals := nI nv) (g_outLen := nI oc) (g_outCap := nI cap) (g_fn := g_fn) (g_cn := g_cn) (b_text := a_text) (b_len := a_textLength) (b_stat := a_slotStatus) (b_errPos := a_slotError) (b_removed := b_removed) (b_tType := b_tType) (b_tA := b_tA) (b_tB := b_tB) (b_tName := b_tName) (b_tMatch := b_tMatch) (b_tCount := b_tCount) (b_oc := b_oc) (b_cc := b_cc) (b_newO := b_newO) (b_newC := b_newC) (b_openName := b_openName) (b_openTok := b_openTok) (b_vKind := b_vKind) (b_vNum := b_vNum) (b_vCnt := b_vCnt) (b_vStr := b_vStr) (b_vItem := b_vItem) (b_vKey := b_vKey) (b_vVal := b_vVal) (b_out := a_out) (b_fv := b_fv) (b_cKind := b_cKind) (b_cSlot := b_cSlot) (b_cTok := b_cTok) (b_cVal := b_cVal) (b_cIdx := b_cIdx) (b_dig := b_dig) (p := v2) (m := m) (n := ln s) (s := s) hs w (post := fun r' v' => r' = nI m ∧ i_Rel (k + 4) (f_openMarkLength, f_closeMarkLength, f_openCount, f_compileFrom, f_compileTo, nI nv, nI cap, nI oc, f_frameCount, f_valueTextLength, f_renderAt, f_renderTo, f_returnAt, f_finished, f_overflowed, wr_f a_text (pc_f v2) (s * 96 + ln s) m, a_cellKind, a_cellName, a_tagEnd, a_sectionEnd, upd a_textLength s (nI (ln s + m)), upd a_slotStatus s (-7), upd a_slotError s (-1), a_openMark, a_closeMark, a_openTags, a_valueKind, a_amount, a_parts, a_fieldValues, a_out, a_frameValue, a_frameList, a_frameNext, a_frameBody, a_valueText) v') ⟨rfl, ?_⟩ m 0 (by omega)
            · have e0 : upd a_textLength s (nI (ln s + 0)) = a_textLength := ud_self hl.2
              rw [wr_0, e0] at r
              exact br_t (nI_le (b := 96) w (by decide)) ⟨_, r⟩
            · refine ir_mk hc1 hc2 hoc (irT_chg hT hs w (fun j => ?_) (fun s' c h1 h2 => wr_out (by omega))) hV
              by_cases q : s * 96 + ln s ≤ j ∧ j < s * 96 + ln s + m
              · rw [wr_in q.1 q.2]
                rcases hg (j - (s * 96 + ln s)) (by omega) with x | x
                · rw [x]; decide
                · exact ⟨Int32.le_trans (by decide) x.1, x.2⟩
              · rw [wr_out (by omega)]; exact hT.2.1 j
        · refine br_f y0 (br_t y3 ⟨_, yl_16T (m := m) (br_f (nI_ne0 (by omega) (by omega)) ⟨vp_in_nI hs (by omega), ?_⟩) 4 0 rfl hm.symm (fun b _ b2 => hg b b2)⟩)
          rw [e, hl.2, nI_add]
          exact br_f (nI_ge (a := 96) w (by omega)) ⟨rfl, ir_mk hc1 hc2 hoc hT hV⟩
    · have hg' : ∃ b, 0 ≤ b ∧ b < m ∧ ¬ pc_t (pc_f v2 b) := by
        apply Classical.byContradiction
        intro q
        apply hg
        intro b hb'
        apply Classical.byContradiction
        intro q2
        exact q ⟨b, by omega, hb', q2⟩
      exact ⟨_, xl_19F (by omega) (br_f y0 (br_t y3 ⟨_, yl_16F ⟨rfl, ir_mk hc1 hc2 hoc hT hV⟩ 4 0 rfl hm.symm hg'⟩)) m 0 (by omega) hg'⟩
end LLTX
