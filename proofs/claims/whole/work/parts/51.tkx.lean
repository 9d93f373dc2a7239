section LLTX2
/-- the int at or below zero whose digits are written -/
def tx_m (a : Int32) : Int32 := if 0 ≤ a then -a else a
theorem tx_m0 (a : Int32) : (tx_m a).toInt ≤ 0 := by
  unfold tx_m
  have h0 : (0 : Int32).toInt = 0 := by decide
  by_cases z : 0 ≤ a
  · rw [if_pos z, Int32.toInt_neg]
    have h1 : 0 ≤ a.toInt := by
      have := Int32.le_iff_toInt_le.mp z
      omega
    have h2 := a.toInt_lt
    rw [Int.bmod_eq_of_le (by omega) (by omega)]
    omega
  · rw [if_neg z]
    have h1 : ¬ (0 ≤ a.toInt) := fun w => z (Int32.le_iff_toInt_le.mpr (by omega))
    omega
/-- the text of an int -/
def tx_n (a : Int32) : List Int32 := (if 0 ≤ a then [] else [45]) ++ em_d (ll_dg (tx_m a)) (em_q (tx_m a) 9 1)
/-- the text of the value v -/
def tx_l (esc : Bool) (kd ct : Nat → Nat) (am pt : Nat → Int32) (v : Nat) : List Int32 :=
  if kd v = 1 then [102, 97, 108, 115, 101] else if kd v = 2 then [116, 114, 117, 101] else if kd v = 3 then tx_n (am v) else if kd v = 4 then em_u esc (fun i => pt (v * 8 + i)) (ct v) 0 else []
variable {f_openMarkLength f_closeMarkLength f_openCount f_compileFrom f_compileTo f_valueCount f_outCap f_outCount f_frameCount f_valueTextLength f_renderAt f_renderTo f_returnAt f_finished f_overflowed : Int32} {a_text a_cellKind a_cellName a_tagEnd a_sectionEnd a_textLength a_slotStatus a_slotError a_openMark a_closeMark a_openTags a_valueKind a_amount a_parts a_fieldValues a_out a_frameValue a_frameList a_frameNext a_frameBody a_valueText : Nat → Int32}
theorem xt_num {esc : Bool} (a : Int32) : ∃ (vt' : Nat → Int32) (vl : Nat), vl ≤ 11 ∧ em_u esc vt' vl 0 = tx_n a ∧ ∀ post : SX → Prop, post (f_openMarkLength, f_closeMarkLength, f_openCount, f_compileFrom, f_compileTo, f_valueCount, f_outCap, f_outCount, f_frameCount, nI vl, f_renderAt, f_renderTo, f_returnAt, f_finished, f_overflowed, a_text, a_cellKind, a_cellName, a_tagEnd, a_sectionEnd, a_textLength, a_slotStatus, a_slotError, a_openMark, a_closeMark, a_openTags, a_valueKind, a_amount, a_parts, a_fieldValues, a_out, a_frameValue, a_frameList, a_frameNext, a_frameBody, vt') → wpX_takeNumber post (f_openMarkLength, f_closeMarkLength, f_openCount, f_compileFrom, f_compileTo, f_valueCount, f_outCap, f_outCount, f_frameCount, f_valueTextLength, f_renderAt, f_renderTo, f_returnAt, f_finished, f_overflowed, a_text, a_cellKind, a_cellName, a_tagEnd, a_sectionEnd, a_textLength, a_slotStatus, a_slotError, a_openMark, a_closeMark, a_openTags, a_valueKind, a_amount, a_parts, a_fieldValues, a_out, a_frameValue, a_frameList, a_frameNext, a_frameBody, a_valueText) a := by
  have qb := em_qb (tx_m a) 9 1
  have hd := em_digit (esc := esc) (tx_m0 a)
  obtain ⟨sg, hsg, hz⟩ : ∃ sg, sg ≤ 1 ∧ ((0 ≤ a ∧ sg = 0) ∨ (¬ 0 ≤ a ∧ sg = 1)) := by
    by_cases z : 0 ≤ a
    · exact ⟨0, by omega, Or.inl ⟨z, rfl⟩⟩
    · exact ⟨1, by omega, Or.inr ⟨z, rfl⟩⟩
  obtain ⟨vt', a1, a2, a3⟩ := xt_44 (f_openMarkLength := f_openMarkLength) (f_closeMarkLength := f_closeMarkLength) (f_openCount := f_openCount) (f_compileFrom := f_compileFrom) (f_compileTo := f_compileTo) (f_valueCount := f_valueCount) (f_outCap := f_outCap) (f_outCount := f_outCount) (f_frameCount := f_frameCount) (f_valueTextLength := f_valueTextLength) (f_renderAt := f_renderAt) (f_renderTo := f_renderTo) (f_returnAt := f_returnAt) (f_finished := f_finished) (f_overflowed := f_overflowed) (a_text := a_text) (a_cellKind := a_cellKind) (a_cellName := a_cellName) (a_tagEnd := a_tagEnd) (a_sectionEnd := a_sectionEnd) (a_textLength := a_textLength) (a_slotStatus := a_slotStatus) (a_slotError := a_slotError) (a_openMark := a_openMark) (a_closeMark := a_closeMark) (a_openTags := a_openTags) (a_valueKind := a_valueKind) (a_amount := a_amount) (a_parts := a_parts) (a_fieldValues := a_fieldValues) (a_out := a_out) (a_frameValue := a_frameValue) (a_frameList := a_frameList) (a_frameNext := a_frameNext) (a_frameBody := a_frameBody) (m := tx_m a) (x4 := nI (sg + em_q (tx_m a) 9 1)) (sg := sg) (dc := em_q (tx_m a) 9 1) hsg (by omega) (em_q (tx_m a) 9 1) (upd a_valueText 0 45) (Nat.le_refl _) (fun i i1 i2 => absurd i1 (by omega)) (fun _ => pk_us)
  have hdl : em_u esc vt' (em_q (tx_m a) 9 1) sg = em_d (ll_dg (tx_m a)) (em_q (tx_m a) 9 1) := em_ud (em_q (tx_m a) 9 1) sg (fun j hj => a1 j hj) (fun k _ => hd k)
  refine ⟨vt', sg + em_q (tx_m a) 9 1, by omega, ?_, fun post h => ?_⟩
  · unfold tx_n
    rcases hz with ⟨z, w⟩ | ⟨z, w⟩
    · subst w
      rw [if_pos z, Nat.zero_add]
      exact hdl
    · subst w
      rw [if_neg z, Nat.add_comm 1, em_us, a2 rfl, em_plain (by decide) (by decide) (by decide) (by decide) (by decide), hdl]
  · have g20 : wX_takeNumber_20 post (tx_m a) (nI sg) f_openMarkLength f_closeMarkLength f_openCount f_compileFrom f_compileTo f_valueCount f_outCap f_outCount f_frameCount f_valueTextLength f_renderAt f_renderTo f_returnAt f_finished f_overflowed a_text a_cellKind a_cellName a_tagEnd a_sectionEnd a_textLength a_slotStatus a_slotError a_openMark a_closeMark a_openTags a_valueKind a_amount a_parts a_fieldValues a_out a_frameValue a_frameList a_frameNext a_frameBody a_valueText := by
      unfold wX_takeNumber_20 wpX_digitCount
      refine ⟨by decide, nm_r (e' := ll_it (tx_m a) 1) rfl ⟨_, xt_dc 9 1 rfl (nm_r (nI_add _ _) (nm_e (nm_e ?_)))⟩⟩
      have r := a3 post h
      rw [Nat.sub_self] at r
      exact ⟨_, r⟩
    unfold wpX_takeNumber
    rcases hz with ⟨z, w⟩ | ⟨z, w⟩
    · subst w
      rw [show tx_m a = -a from if_pos z] at g20
      exact br_t z (br_t z g20)
    · subst w
      rw [show tx_m a = a from if_neg z] at g20
      exact br_f z (br_f z g20)
theorem xt_str {post : SX → Prop} {j m : Nat} (hj : j < 32) (hm : m ≤ 8) (ham : a_amount (j + 1) = nI m) (h : post (f_openMarkLength, f_closeMarkLength, f_openCount, f_compileFrom, f_compileTo, f_valueCount, f_outCap, f_outCount, f_frameCount, nI m, f_renderAt, f_renderTo, f_returnAt, f_finished, f_overflowed, a_text, a_cellKind, a_cellName, a_tagEnd, a_sectionEnd, a_textLength, a_slotStatus, a_slotError, a_openMark, a_closeMark, a_openTags, a_valueKind, a_amount, a_parts, a_fieldValues, a_out, a_frameValue, a_frameList, a_frameNext, a_frameBody, cy_f a_valueText (fun i => a_parts ((j + 1) * 8 + i)) m)) : ∀ d i, i + d = m → wX_takeText_55 post (nI (j + 1)) (d + 1) (nI i) f_openMarkLength f_closeMarkLength f_openCount f_compileFrom f_compileTo f_valueCount f_outCap f_outCount f_frameCount (nI i) f_renderAt f_renderTo f_returnAt f_finished f_overflowed a_text a_cellKind a_cellName a_tagEnd a_sectionEnd a_textLength a_slotStatus a_slotError a_openMark a_closeMark a_openTags a_valueKind a_amount a_parts a_fieldValues a_out a_frameValue a_frameList a_frameNext a_frameBody (cy_f a_valueText (fun i => a_parts ((j + 1) * 8 + i)) i) := by
  intro d
  induction d with
  | zero =>
    intro i hi
    have e : i = m := by omega
    subst e
    refine ⟨vp_in_nI (by omega) (by omega), ?_⟩
    rw [nI_clamp (by omega), ham]
    exact br_t (nI_le (by omega) (by omega)) h
  | succ d ih =>
    intro i hi
    refine ⟨vp_in_nI (by omega) (by omega), ?_⟩
    rw [nI_clamp (show j + 1 < 2 ^ 31 from by omega), ham, la_m8, nI_add, nI_clamp (by omega)]
    refine br_f (nI_ge (by omega) (by omega)) ⟨vp_in_nI (by omega) (by omega), xt_ch (by omega) (nm_r (nI_1 _) ?_)⟩
    rw [cy_s (g := fun i => a_parts ((j + 1) * 8 + i))]
    exact ih (i + 1) (by omega)
theorem xt_txt {nv : Nat} {kd ct : Nat → Nat} {yk yn yc ys yi yq yv : Nat → Int32} {esc : Bool} (hV : vl_R nv kd ct a_valueKind a_amount a_parts a_fieldValues yk yn yc ys yi yq yv) {j : Nat} (hj : j < nv) : ∃ (vt' : Nat → Int32) (vl : Nat), vl ≤ 11 ∧ em_u esc vt' vl 0 = tx_l esc kd ct a_amount a_parts (j + 1) ∧ ∀ post : SX → Prop, post (f_openMarkLength, f_closeMarkLength, f_openCount, f_compileFrom, f_compileTo, nI nv, f_outCap, f_outCount, f_frameCount, nI vl, f_renderAt, f_renderTo, f_returnAt, f_finished, f_overflowed, a_text, a_cellKind, a_cellName, a_tagEnd, a_sectionEnd, a_textLength, a_slotStatus, a_slotError, a_openMark, a_closeMark, a_openTags, a_valueKind, a_amount, a_parts, a_fieldValues, a_out, a_frameValue, a_frameList, a_frameNext, a_frameBody, vt') → wpX_takeText post (f_openMarkLength, f_closeMarkLength, f_openCount, f_compileFrom, f_compileTo, nI nv, f_outCap, f_outCount, f_frameCount, f_valueTextLength, f_renderAt, f_renderTo, f_returnAt, f_finished, f_overflowed, a_text, a_cellKind, a_cellName, a_tagEnd, a_sectionEnd, a_textLength, a_slotStatus, a_slotError, a_openMark, a_closeMark, a_openTags, a_valueKind, a_amount, a_parts, a_fieldValues, a_out, a_frameValue, a_frameList, a_frameNext, a_frameBody, a_valueText) (nI (j + 1)) := by
  obtain ⟨g1, g2, g3, g4, g5, g6, g7, g8, g9, g10, g11, g12, g13⟩ := hV.2 j hj
  have hnv := hV.1
  have eC : (nI (j + 1)).toNatClampNeg = j + 1 := nI_clamp (by omega)
  unfold tx_l
  by_cases k1 : kd (j + 1) = 1
  · rw [if_pos k1]
    rw [k1] at g4
    refine ⟨upd (upd (upd (upd (upd a_valueText 0 102) 1 97) 2 108) 3 115) 4 101, 5, by omega, by cases esc <;> rfl, fun post h => ?_⟩
    · unfold wpX_takeText
      exact xl_kin hnv hj g4 (br_f (by decide) (br_f (by decide) (br_t rfl (xt_ch (l := 0) (by omega) (xt_ch (l := 1) (by omega) (xt_ch (l := 2) (by omega) (xt_ch (l := 3) (by omega) (xt_ch (l := 4) (by omega) h))))))))
  · rw [if_neg k1]
    by_cases k2 : kd (j + 1) = 2
    · rw [if_pos k2]
      rw [k2] at g4
      refine ⟨upd (upd (upd (upd a_valueText 0 116) 1 114) 2 117) 3 101, 4, by omega, by cases esc <;> rfl, fun post h => ?_⟩
      · unfold wpX_takeText
        exact xl_kin hnv hj g4 (br_f (by decide) (br_f (by decide) (br_f (by decide) (br_t rfl (xt_ch (l := 0) (by omega) (xt_ch (l := 1) (by omega) (xt_ch (l := 2) (by omega) (xt_ch (l := 3) (by omega) h))))))))
    · rw [if_neg k2]
      by_cases k3 : kd (j + 1) = 3
      · rw [if_pos k3]
        rw [k3] at g4
        obtain ⟨vt', vl, b1, b2, b3⟩ := xt_num (f_openMarkLength := f_openMarkLength) (f_closeMarkLength := f_closeMarkLength) (f_openCount := f_openCount) (f_compileFrom := f_compileFrom) (f_compileTo := f_compileTo) (f_valueCount := nI nv) (f_outCap := f_outCap) (f_outCount := f_outCount) (f_frameCount := f_frameCount) (f_valueTextLength := 0) (f_renderAt := f_renderAt) (f_renderTo := f_renderTo) (f_returnAt := f_returnAt) (f_finished := f_finished) (f_overflowed := f_overflowed) (a_text := a_text) (a_cellKind := a_cellKind) (a_cellName := a_cellName) (a_tagEnd := a_tagEnd) (a_sectionEnd := a_sectionEnd) (a_textLength := a_textLength) (a_slotStatus := a_slotStatus) (a_slotError := a_slotError) (a_openMark := a_openMark) (a_closeMark := a_closeMark) (a_openTags := a_openTags) (a_valueKind := a_valueKind) (a_amount := a_amount) (a_parts := a_parts) (a_fieldValues := a_fieldValues) (a_out := a_out) (a_frameValue := a_frameValue) (a_frameList := a_frameList) (a_frameNext := a_frameNext) (a_frameBody := a_frameBody) (a_valueText := a_valueText) (esc := esc) (a_amount (j + 1))
        refine ⟨vt', vl, b1, b2, fun post h => ?_⟩
        unfold wpX_takeText
        refine xl_kin hnv hj g4 (br_f (by decide) (br_f (by decide) (br_f (by decide) (br_f (by decide) (br_t rfl ⟨vp_in_nI (by omega) (by omega), ?_⟩)))))
        rw [eC]
        exact b3 _ h
      · rw [if_neg k3]
        by_cases k4 : kd (j + 1) = 4
        · rw [if_pos k4]
          rw [k4] at g4
          refine ⟨cy_f a_valueText (fun i => a_parts ((j + 1) * 8 + i)) (ct (j + 1)), ct (j + 1), by omega, em_ucg _ _ (fun i i1 i2 => cy_in (by omega)), fun post h => ?_⟩
          unfold wpX_takeText
          have r := xt_str (f_openMarkLength := f_openMarkLength) (f_closeMarkLength := f_closeMarkLength) (f_openCount := f_openCount) (f_compileFrom := f_compileFrom) (f_compileTo := f_compileTo) (f_valueCount := nI nv) (f_outCap := f_outCap) (f_outCount := f_outCount) (f_frameCount := f_frameCount) (f_renderAt := f_renderAt) (f_renderTo := f_renderTo) (f_returnAt := f_returnAt) (f_finished := f_finished) (f_overflowed := f_overflowed) (a_text := a_text) (a_cellKind := a_cellKind) (a_cellName := a_cellName) (a_tagEnd := a_tagEnd) (a_sectionEnd := a_sectionEnd) (a_textLength := a_textLength) (a_slotStatus := a_slotStatus) (a_slotError := a_slotError) (a_openMark := a_openMark) (a_closeMark := a_closeMark) (a_openTags := a_openTags) (a_valueKind := a_valueKind) (a_amount := a_amount) (a_parts := a_parts) (a_fieldValues := a_fieldValues) (a_out := a_out) (a_frameValue := a_frameValue) (a_frameList := a_frameList) (a_frameNext := a_frameNext) (a_frameBody := a_frameBody) (a_valueText := a_valueText) (post := post) (by omega) g3 (g8 (by omega)) h (ct (j + 1)) 0 (by omega)
          rw [cy_0] at r
          exact xl_kin hnv hj g4 (br_f (by decide) (br_f (by decide) (br_f (by decide) (br_f (by decide) (br_f (by decide) (br_t rfl ⟨_, r⟩))))))
        · rw [if_neg k4]
          refine ⟨a_valueText, 0, by omega, rfl, fun post h => ?_⟩
          unfold wpX_takeText
          exact xl_kin hnv hj g4 (br_f (nI_nlt (b := 1) (by omega) (by omega)) (br_t (nI_lt (a := 4) (by omega) (by omega)) h))
theorem xt_non {nv : Nat} {post : SX → Prop} (h : post (f_openMarkLength, f_closeMarkLength, f_openCount, f_compileFrom, f_compileTo, nI nv, f_outCap, f_outCount, f_frameCount, 0, f_renderAt, f_renderTo, f_returnAt, f_finished, f_overflowed, a_text, a_cellKind, a_cellName, a_tagEnd, a_sectionEnd, a_textLength, a_slotStatus, a_slotError, a_openMark, a_closeMark, a_openTags, a_valueKind, a_amount, a_parts, a_fieldValues, a_out, a_frameValue, a_frameList, a_frameNext, a_frameBody, a_valueText)) : wpX_takeText post (f_openMarkLength, f_closeMarkLength, f_openCount, f_compileFrom, f_compileTo, nI nv, f_outCap, f_outCount, f_frameCount, f_valueTextLength, f_renderAt, f_renderTo, f_returnAt, f_finished, f_overflowed, a_text, a_cellKind, a_cellName, a_tagEnd, a_sectionEnd, a_textLength, a_slotStatus, a_slotError, a_openMark, a_closeMark, a_openTags, a_valueKind, a_amount, a_parts, a_fieldValues, a_out, a_frameValue, a_frameList, a_frameNext, a_frameBody, a_valueText) 0 := by
  unfold wpX_takeText
  exact xl_kout (Or.inl (by decide)) (br_t (by decide) h)
end LLTX2
