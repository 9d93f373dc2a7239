section LLIN
section XX
variable {f_openMarkLength f_closeMarkLength f_openCount f_compileFrom f_compileTo f_valueCount f_outCap f_outCount f_frameCount f_valueTextLength f_renderAt f_renderTo f_returnAt f_finished f_overflowed : Int32} {a_text a_cellKind a_cellName a_tagEnd a_sectionEnd a_textLength a_slotStatus a_slotError a_openMark a_closeMark a_openTags a_valueKind a_amount a_parts a_fieldValues a_out a_frameValue a_frameList a_frameNext a_frameBody a_valueText : Nat → Int32}
theorem xl_in {post : SX → Prop} (h : post (f_openMarkLength, f_closeMarkLength, f_openCount, f_compileFrom, f_compileTo, f_valueCount, f_outCap, f_outCount, f_frameCount, f_valueTextLength, f_renderAt, f_renderTo, f_returnAt, f_finished, f_overflowed, a_text, a_cellKind, a_cellName, a_tagEnd, a_sectionEnd, a_textLength, fl_f a_slotStatus 0 4 (-7), fl_f a_slotError 0 4 (-1), a_openMark, a_closeMark, a_openTags, a_valueKind, a_amount, a_parts, a_fieldValues, a_out, a_frameValue, a_frameList, a_frameNext, a_frameBody, a_valueText)) : ∀ d i, i + d = 4 → wX_init_199 post f_openMarkLength f_closeMarkLength f_openCount f_compileFrom f_compileTo f_valueCount f_outCap f_outCount f_frameCount f_valueTextLength f_renderAt f_renderTo f_returnAt f_finished f_overflowed (d + 1) (nI i) a_text a_cellKind a_cellName a_tagEnd a_sectionEnd a_textLength (fl_f a_slotStatus 0 i (-7)) (fl_f a_slotError 0 i (-1)) a_openMark a_closeMark a_openTags a_valueKind a_amount a_parts a_fieldValues a_out a_frameValue a_frameList a_frameNext a_frameBody a_valueText := by
  intro d
  induction d with
  | zero =>
    intro i hi
    have e : i = 4 := by omega
    subst e
    exact br_t (nI_le (a := 4) (b := 4) (by omega) (by decide)) h
  | succ d ih =>
    intro i hi
    refine br_f (nI_ge (b := 4) (by omega) (by decide)) ⟨vp_in_nI (by omega) (by omega), nm_r ?_ ⟨vp_in_nI (by omega) (by omega), nm_r ?_ (nm_r (nI_1 _) (ih (i + 1) (by omega)))⟩⟩
    · rw [nI_clamp (by omega)]; exact fl_s (by omega)
    · rw [nI_clamp (by omega)]; exact fl_s (by omega)
end XX
section YY
variable {g_ol g_cl g_newOl g_newCl g_tagName g_parseErr g_openCount g_nVals g_outLen g_outCap g_fn g_cn : Int32} {b_text b_len b_stat b_errPos b_removed b_tType b_tA b_tB b_tName b_tMatch b_tCount b_oc b_cc b_newO b_newC b_openName b_openTok b_vKind b_vNum b_vCnt b_vStr b_vItem b_vKey b_vVal b_out b_fv b_cKind b_cSlot b_cTok b_cVal b_cIdx b_dig : Nat → Int32}
theorem yl_in {post : SY → Prop} (h : post (g_ol, g_cl, g_newOl, g_newCl, g_tagName, g_parseErr, g_openCount, g_nVals, g_outLen, g_outCap, g_fn, g_cn, b_text, b_len, fl_f b_stat 0 4 (-7), fl_f b_errPos 0 4 (-1), b_removed, b_tType, b_tA, b_tB, b_tName, b_tMatch, b_tCount, b_oc, b_cc, b_newO, b_newC, b_openName, b_openTok, b_vKind, b_vNum, b_vCnt, b_vStr, b_vItem, b_vKey, b_vVal, b_out, b_fv, b_cKind, b_cSlot, b_cTok, b_cVal, b_cIdx, b_dig)) : ∀ d i, i + d = 4 → wY_init_291 post g_ol g_cl g_newOl g_newCl g_tagName g_parseErr g_openCount g_nVals g_outLen g_outCap g_fn g_cn (d + 1) (nI i) b_text b_len (fl_f b_stat 0 i (-7)) (fl_f b_errPos 0 i (-1)) b_removed b_tType b_tA b_tB b_tName b_tMatch b_tCount b_oc b_cc b_newO b_newC b_openName b_openTok b_vKind b_vNum b_vCnt b_vStr b_vItem b_vKey b_vVal b_out b_fv b_cKind b_cSlot b_cTok b_cVal b_cIdx b_dig := by
  intro d
  induction d with
  | zero =>
    intro i hi
    have e : i = 4 := by omega
    subst e
    exact br_t (nI_le (a := 4) (b := 4) (by omega) (by decide)) h
  | succ d ih =>
    intro i hi
    refine br_f (nI_ge (b := 4) (by omega) (by decide)) ⟨vp_in_nI (by omega) (by omega), nm_r ?_ ⟨vp_in_nI (by omega) (by omega), nm_r ?_ (nm_r (nI_1 _) (ih (i + 1) (by omega)))⟩⟩
    · rw [nI_clamp (by omega)]; exact fl_s (by omega)
    · rw [nI_clamp (by omega)]; exact fl_s (by omega)
end YY
theorem in_cap (x : Int32) : ∃ c : Nat, 16 ≤ c ∧ c ≤ 256 ∧ ((¬ 16 ≤ x ∧ c = 16) ∨ (16 ≤ x ∧ x ≤ 256 ∧ x = nI c) ∨ (16 ≤ x ∧ ¬ x ≤ 256 ∧ c = 256)) := by
  by_cases h : 16 ≤ x
  · by_cases h2 : x ≤ 256
    · have h0 : ¬ x < 0 := fun z => absurd (Int32.lt_of_le_of_lt h z) (by decide)
      obtain ⟨c, hc, rfl⟩ := nI_of h0
      exact ⟨c, (nI_leI (a := 16) (by omega) hc).mp h, (nI_leI (b := 256) hc (by omega)).mp h2, Or.inr (Or.inl ⟨h, h2, rfl⟩)⟩
    · exact ⟨256, by omega, by omega, Or.inr (Or.inr ⟨h, h2, rfl⟩)⟩
  · exact ⟨16, by omega, by omega, Or.inl ⟨h, rfl⟩⟩
theorem in_rel {c : Nat} (h1 : 16 ≤ c) (h2 : c ≤ 256) : i_Rel 1 (0, 0, 0, 0, 0, 0, nI c, 0, 0, 0, 0, 0, 0, 0, 0, fun _ => 0, fun _ => 0, fun _ => 0, fun _ => 0, fun _ => 0, fun _ => 0, fl_f (fun _ => 0) 0 4 (-7), fl_f (fun _ => 0) 0 4 (-1), fun _ => 0, fun _ => 0, fun _ => 0, fun _ => 0, fun _ => 0, fun _ => 0, fun _ => 0, fun _ => 0, fun _ => 0, fun _ => 0, fun _ => 0, fun _ => 0, fun _ => 0) (0, 0, 0, 0, 0, 0, 0, 0, 0, nI c, 0, 0, fun _ => 0, fun _ => 0, fl_f (fun _ => 0) 0 4 (-7), fl_f (fun _ => 0) 0 4 (-1), fun _ => 0, fun _ => 0, fun _ => 0, fun _ => 0, fun _ => 0, fun _ => 0, fun _ => 0, fun _ => 0, fun _ => 0, fun _ => 0, fun _ => 0, fun _ => 0, fun _ => 0, fun _ => 0, fun _ => 0, fun _ => 0, fun _ => 0, fun _ => 0, fun _ => 0, fun _ => 0, fun _ => 0, fun _ => 0, fun _ => 0, fun _ => 0, fun _ => 0, fun _ => 0, fun _ => 0, fun _ => 0) := by
  refine ir_mk (ln := fun _ => 0) (nv := 0) (oc := 0) (cap := c) (kd := fun _ => 0) (ct := fun _ => 0) h1 h2 (by omega) ⟨fun s hs => ⟨Nat.zero_le _, rfl⟩, fun j => (by decide : (0 : Int32) ≤ 0 ∧ (0 : Int32) ≤ 126), fun s hs z => ?_⟩ ⟨by omega, fun j hj => absurd hj (by omega)⟩
  rw [fl_in (by omega) hs] at z
  exact absurd z (by decide)
theorem i_vc0 (k0 : Int32) : wpX_init (fun u => wpY_init (fun v => i_Rel 1 u v) k0) k0 := by
  obtain ⟨c, c1, c2, h⟩ := in_cap k0
  have ry := yl_in (g_ol := 0) (g_cl := 0) (g_newOl := 0) (g_newCl := 0) (g_tagName := 0) (g_parseErr := 0) (g_openCount := 0) (g_nVals := 0) (g_outLen := 0) (g_outCap := nI c) (g_fn := 0) (g_cn := 0) (b_text := fun _ => 0) (b_len := fun _ => 0) (b_stat := fun _ => 0) (b_errPos := fun _ => 0) (b_removed := fun _ => 0) (b_tType := fun _ => 0) (b_tA := fun _ => 0) (b_tB := fun _ => 0) (b_tName := fun _ => 0) (b_tMatch := fun _ => 0) (b_tCount := fun _ => 0) (b_oc := fun _ => 0) (b_cc := fun _ => 0) (b_newO := fun _ => 0) (b_newC := fun _ => 0) (b_openName := fun _ => 0) (b_openTok := fun _ => 0) (b_vKind := fun _ => 0) (b_vNum := fun _ => 0) (b_vCnt := fun _ => 0) (b_vStr := fun _ => 0) (b_vItem := fun _ => 0) (b_vKey := fun _ => 0) (b_vVal := fun _ => 0) (b_out := fun _ => 0) (b_fv := fun _ => 0) (b_cKind := fun _ => 0) (b_cSlot := fun _ => 0) (b_cTok := fun _ => 0) (b_cVal := fun _ => 0) (b_cIdx := fun _ => 0) (b_dig := fun _ => 0) (post := fun v => i_Rel 1 (0, 0, 0, 0, 0, 0, nI c, 0, 0, 0, 0, 0, 0, 0, 0, fun _ => 0, fun _ => 0, fun _ => 0, fun _ => 0, fun _ => 0, fun _ => 0, fl_f (fun _ => 0) 0 4 (-7), fl_f (fun _ => 0) 0 4 (-1), fun _ => 0, fun _ => 0, fun _ => 0, fun _ => 0, fun _ => 0, fun _ => 0, fun _ => 0, fun _ => 0, fun _ => 0, fun _ => 0, fun _ => 0, fun _ => 0, fun _ => 0) v) (in_rel c1 c2) 4 0 rfl
  rw [fl_0 (lo := 0) (hi := 0) (x := -7) (Nat.le_refl _), fl_0 (lo := 0) (hi := 0) (x := -1) (Nat.le_refl _)] at ry
  rcases h with ⟨a, rfl⟩ | ⟨a, b, rfl⟩ | ⟨a, b, rfl⟩
  · have rx := xl_in (f_openMarkLength := 0) (f_closeMarkLength := 0) (f_openCount := 0) (f_compileFrom := 0) (f_compileTo := 0) (f_valueCount := 0) (f_outCap := nI 16) (f_outCount := 0) (f_frameCount := 0) (f_valueTextLength := 0) (f_renderAt := 0) (f_renderTo := 0) (f_returnAt := 0) (f_finished := 0) (f_overflowed := 0) (a_text := fun _ => 0) (a_cellKind := fun _ => 0) (a_cellName := fun _ => 0) (a_tagEnd := fun _ => 0) (a_sectionEnd := fun _ => 0) (a_textLength := fun _ => 0) (a_slotStatus := fun _ => 0) (a_slotError := fun _ => 0) (a_openMark := fun _ => 0) (a_closeMark := fun _ => 0) (a_openTags := fun _ => 0) (a_valueKind := fun _ => 0) (a_amount := fun _ => 0) (a_parts := fun _ => 0) (a_fieldValues := fun _ => 0) (a_out := fun _ => 0) (a_frameValue := fun _ => 0) (a_frameList := fun _ => 0) (a_frameNext := fun _ => 0) (a_frameBody := fun _ => 0) (a_valueText := fun _ => 0) (post := fun u => wpY_init (fun v => i_Rel 1 u v) k0) (br_f a (br_t (by decide) ⟨_, ry⟩)) 4 0 rfl
    rw [fl_0 (lo := 0) (hi := 0) (x := -7) (Nat.le_refl _), fl_0 (lo := 0) (hi := 0) (x := -1) (Nat.le_refl _)] at rx
    exact br_f a (br_t (by decide) ⟨_, rx⟩)
  · have rx := xl_in (f_openMarkLength := 0) (f_closeMarkLength := 0) (f_openCount := 0) (f_compileFrom := 0) (f_compileTo := 0) (f_valueCount := 0) (f_outCap := nI c) (f_outCount := 0) (f_frameCount := 0) (f_valueTextLength := 0) (f_renderAt := 0) (f_renderTo := 0) (f_returnAt := 0) (f_finished := 0) (f_overflowed := 0) (a_text := fun _ => 0) (a_cellKind := fun _ => 0) (a_cellName := fun _ => 0) (a_tagEnd := fun _ => 0) (a_sectionEnd := fun _ => 0) (a_textLength := fun _ => 0) (a_slotStatus := fun _ => 0) (a_slotError := fun _ => 0) (a_openMark := fun _ => 0) (a_closeMark := fun _ => 0) (a_openTags := fun _ => 0) (a_valueKind := fun _ => 0) (a_amount := fun _ => 0) (a_parts := fun _ => 0) (a_fieldValues := fun _ => 0) (a_out := fun _ => 0) (a_frameValue := fun _ => 0) (a_frameList := fun _ => 0) (a_frameNext := fun _ => 0) (a_frameBody := fun _ => 0) (a_valueText := fun _ => 0) (post := fun u => wpY_init (fun v => i_Rel 1 u v) (nI c)) (br_t a (br_t b ⟨_, ry⟩)) 4 0 rfl
    rw [fl_0 (lo := 0) (hi := 0) (x := -7) (Nat.le_refl _), fl_0 (lo := 0) (hi := 0) (x := -1) (Nat.le_refl _)] at rx
    exact br_t a (br_t b ⟨_, rx⟩)
  · have rx := xl_in (f_openMarkLength := 0) (f_closeMarkLength := 0) (f_openCount := 0) (f_compileFrom := 0) (f_compileTo := 0) (f_valueCount := 0) (f_outCap := nI 256) (f_outCount := 0) (f_frameCount := 0) (f_valueTextLength := 0) (f_renderAt := 0) (f_renderTo := 0) (f_returnAt := 0) (f_finished := 0) (f_overflowed := 0) (a_text := fun _ => 0) (a_cellKind := fun _ => 0) (a_cellName := fun _ => 0) (a_tagEnd := fun _ => 0) (a_sectionEnd := fun _ => 0) (a_textLength := fun _ => 0) (a_slotStatus := fun _ => 0) (a_slotError := fun _ => 0) (a_openMark := fun _ => 0) (a_closeMark := fun _ => 0) (a_openTags := fun _ => 0) (a_valueKind := fun _ => 0) (a_amount := fun _ => 0) (a_parts := fun _ => 0) (a_fieldValues := fun _ => 0) (a_out := fun _ => 0) (a_frameValue := fun _ => 0) (a_frameList := fun _ => 0) (a_frameNext := fun _ => 0) (a_frameBody := fun _ => 0) (a_valueText := fun _ => 0) (post := fun u => wpY_init (fun v => i_Rel 1 u v) k0) (br_t a (br_f b ⟨_, ry⟩)) 4 0 rfl
    rw [fl_0 (lo := 0) (hi := 0) (x := -7) (Nat.le_refl _), fl_0 (lo := 0) (hi := 0) (x := -1) (Nat.le_refl _)] at rx
    exact br_t a (br_f b ⟨_, rx⟩)
end LLIN
