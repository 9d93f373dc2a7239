section LLVM
section AD
variable {f_openMarkLength f_closeMarkLength f_openCount f_compileFrom f_compileTo f_valueCount f_outCap f_outCount f_frameCount f_valueTextLength f_renderAt f_renderTo f_returnAt f_finished f_overflowed : Int32} {a_text a_cellKind a_cellName a_tagEnd a_sectionEnd a_textLength a_slotStatus a_slotError a_openMark a_closeMark a_openTags a_valueKind a_amount a_parts a_fieldValues a_out a_frameValue a_frameList a_frameNext a_frameBody a_valueText : Nat → Int32}
theorem xl_add {post : Int32 → SX → Prop} {j m cp : Nat} {c : Int32} (hj : j < 32) (ham : a_amount (j + 1) = nI m) (hm : m ≤ 8) (hc : cp ≤ 8) (hf : m < cp → post 0 (f_openMarkLength, f_closeMarkLength, f_openCount, f_compileFrom, f_compileTo, f_valueCount, f_outCap, f_outCount, f_frameCount, f_valueTextLength, f_renderAt, f_renderTo, f_returnAt, f_finished, f_overflowed, a_text, a_cellKind, a_cellName, a_tagEnd, a_sectionEnd, a_textLength, a_slotStatus, a_slotError, a_openMark, a_closeMark, a_openTags, a_valueKind, upd a_amount (j + 1) (nI (m + 1)), upd a_parts ((j + 1) * 8 + m) c, a_fieldValues, a_out, a_frameValue, a_frameList, a_frameNext, a_frameBody, a_valueText)) (hn : cp ≤ m → post (-2) (f_openMarkLength, f_closeMarkLength, f_openCount, f_compileFrom, f_compileTo, f_valueCount, f_outCap, f_outCount, f_frameCount, f_valueTextLength, f_renderAt, f_renderTo, f_returnAt, f_finished, f_overflowed, a_text, a_cellKind, a_cellName, a_tagEnd, a_sectionEnd, a_textLength, a_slotStatus, a_slotError, a_openMark, a_closeMark, a_openTags, a_valueKind, a_amount, a_parts, a_fieldValues, a_out, a_frameValue, a_frameList, a_frameNext, a_frameBody, a_valueText)) : wpX_addPart post (f_openMarkLength, f_closeMarkLength, f_openCount, f_compileFrom, f_compileTo, f_valueCount, f_outCap, f_outCount, f_frameCount, f_valueTextLength, f_renderAt, f_renderTo, f_returnAt, f_finished, f_overflowed, a_text, a_cellKind, a_cellName, a_tagEnd, a_sectionEnd, a_textLength, a_slotStatus, a_slotError, a_openMark, a_closeMark, a_openTags, a_valueKind, a_amount, a_parts, a_fieldValues, a_out, a_frameValue, a_frameList, a_frameNext, a_frameBody, a_valueText) (nI (j + 1)) c (nI cp) := by
  unfold wpX_addPart
  refine ⟨vp_in_nI (by omega) (by omega), ?_⟩
  rw [nI_clamp (by omega), ham, la_m8, nI_add]
  refine pk_lt m cp (fun z => ⟨vp_in_nI (by omega) (by omega), vp_in_nI (by omega) (by omega), nm_r ?_ ⟨vp_in_nI (by omega) (by omega), vp_in_nI (by omega) (by omega), nm_r ?_ (hf z)⟩⟩) hn
  · rw [nI_clamp (by omega)]
  · rw [nI_1]
theorem xl_fi {post : Int32 → Prop} {j m : Nat} {key : Int32} (hj : j < 32) (ham : a_amount (j + 1) = nI m) (hm : m ≤ 8) : ∀ d i, i + d = m → (∀ a, i ≤ a → a < m → a_parts ((j + 1) * 8 + a) = key → (∀ b, i ≤ b → b < a → a_parts ((j + 1) * 8 + b) ≠ key) → post (nI a)) → ((∀ a, i ≤ a → a < m → a_parts ((j + 1) * 8 + a) ≠ key) → post (-1)) → wX_fieldIndex_2 post (nI (j + 1)) key f_openMarkLength f_closeMarkLength f_openCount f_compileFrom f_compileTo f_valueCount f_outCap f_outCount f_frameCount f_valueTextLength f_renderAt f_renderTo f_returnAt f_finished f_overflowed a_text a_cellKind a_cellName a_tagEnd a_sectionEnd a_textLength a_slotStatus a_slotError a_openMark a_closeMark a_openTags a_valueKind a_amount a_parts a_fieldValues a_out a_frameValue a_frameList a_frameNext a_frameBody a_valueText (d + 1) (nI i) := by
  intro d
  induction d with
  | zero =>
    intro i hi h1 h0
    refine ⟨vp_in_nI (by omega) (by omega), ?_⟩
    rw [nI_clamp (by omega), ham]
    exact br_t (nI_le (by omega) (by omega)) (h0 (fun a a1 a2 => absurd a2 (by omega)))
  | succ d ih =>
    intro i hi h1 h0
    refine ⟨vp_in_nI (by omega) (by omega), ?_⟩
    rw [nI_clamp (by omega), ham, la_m8, nI_add, nI_clamp (by omega)]
    refine br_f (nI_ge (by omega) (by omega)) ⟨vp_in_nI (by omega) (by omega), ?_⟩
    by_cases z : a_parts ((j + 1) * 8 + i) = key
    · exact br_t z (h1 i (Nat.le_refl _) (by omega) z (fun b b1 b2 => absurd b2 (by omega)))
    · refine br_f z (nm_r (nI_1 _) (ih (i + 1) (by omega) (fun a a1 a2 a3 a4 => h1 a (by omega) a2 a3 (fun b b1 b2 => ?_)) (fun g => h0 (fun a a1 a2 => ?_))))
      · by_cases e : b = i
        · rw [e]; exact z
        · exact a4 b (by omega) b2
      · by_cases e : a = i
        · rw [e]; exact z
        · exact g a (by omega) a2
/-- where the key stands in the map j + 1 -/
theorem xl_field {post : Int32 → Prop} {j m : Nat} {key : Int32} (hj : j < 32) (ham : a_amount (j + 1) = nI m) (hm : m ≤ 8) (h1 : ∀ a, a < m → a_parts ((j + 1) * 8 + a) = key → (∀ b, b < a → a_parts ((j + 1) * 8 + b) ≠ key) → post (nI a)) (h0 : (∀ a, a < m → a_parts ((j + 1) * 8 + a) ≠ key) → post (-1)) : wpX_fieldIndex post (f_openMarkLength, f_closeMarkLength, f_openCount, f_compileFrom, f_compileTo, f_valueCount, f_outCap, f_outCount, f_frameCount, f_valueTextLength, f_renderAt, f_renderTo, f_returnAt, f_finished, f_overflowed, a_text, a_cellKind, a_cellName, a_tagEnd, a_sectionEnd, a_textLength, a_slotStatus, a_slotError, a_openMark, a_closeMark, a_openTags, a_valueKind, a_amount, a_parts, a_fieldValues, a_out, a_frameValue, a_frameList, a_frameNext, a_frameBody, a_valueText) (nI (j + 1)) key :=
  ⟨_, xl_fi hj ham hm m 0 (by omega) (fun a _ a2 a3 a4 => h1 a a2 a3 (fun b b1 => a4 b (by omega) b1)) (fun g => h0 (fun a a1 => g a (by omega) a1))⟩
end AD
theorem i_vc_newValue {k : Nat} {u : SX} {v : SY} (I : i_Rel k u v) (hk : k + 4 ≤ 2049) (v1 : Int32) (v2 : Int32) : wpX_newValue (fun r u' => wpY_newValue (fun r' v' => r' = r ∧ i_Rel (k + 4) u' v') v v1 v2) u v1 v2 := by
  refine ir_el (P := fun u v => wpX_newValue (fun r u' => wpY_newValue (fun r' v' => r' = r ∧ i_Rel (k + 4) u' v') v v1 v2) u v1 v2) I ?_
  intro f_openMarkLength f_closeMarkLength f_openCount f_compileFrom f_compileTo f_frameCount f_valueTextLength f_renderAt f_renderTo f_returnAt f_finished f_overflowed a_text a_cellKind a_cellName a_tagEnd a_sectionEnd a_textLength a_slotStatus a_slotError a_openMark a_closeMark a_openTags a_valueKind a_amount a_parts a_fieldValues a_out a_frameValue a_frameList a_frameNext a_frameBody a_valueText g_ol g_cl g_newOl g_newCl g_tagName g_parseErr g_openCount g_fn g_cn b_removed b_tType b_tA b_tB b_tName b_tMatch b_tCount b_oc b_cc b_newO b_newC b_openName b_openTok b_vKind b_vNum b_vCnt b_vStr b_vItem b_vKey b_vVal b_fv b_cKind b_cSlot b_cTok b_cVal b_cIdx b_dig ln nv oc cap kd ct hc1 hc2 hoc hT hV
  unfold wpX_newValue wpY_newValue
  have hnv := hV.1
  by_cases a1 : v1 < 1
  · exact br_t a1 (br_t a1 ⟨rfl, ir_mk hc1 hc2 hoc hT hV⟩)
  · by_cases a6 : v1 ≤ 6
    · obtain ⟨q, q1, q6, rfl⟩ : ∃ q, 1 ≤ q ∧ q ≤ 6 ∧ v1 = nI q := by
        rcases id_ix v1 (nv := 6) (by omega) with (z | z) | ⟨j, hj, e⟩
        · exact absurd z a1
        · exact absurd a6 (Int32.not_le.mpr z)
        · exact ⟨j + 1, by omega, by omega, e⟩
      refine br_f a1 (br_t a6 (pk_lt nv 32 (fun hn => ?_) (fun hn => ?_)))
      · refine nm_r (nI_1 nv) ⟨vp_in_nI (by omega) (by omega), nm_r (by rw [nI_clamp (by omega)]) ?_⟩
        refine pk_eq q 3 (fun z => ⟨vp_in_nI (by omega) (by omega), nm_r (by rw [nI_clamp (by omega)]) ?_⟩) (fun z => ⟨vp_in_nI (by omega) (by omega), nm_r (by rw [nI_clamp (by omega)]) ?_⟩)
        · refine br_f a1 (br_t a6 (br_t (nI_lt (b := 32) hn (by decide)) ⟨vp_in_nI hn (by omega), nm_r (by rw [nI_clamp (by omega)]) (br_t (by rw [z]; rfl) ⟨vp_in_nI hn (by omega), nm_r (by rw [nI_clamp (by omega)]) ⟨vp_in_nI hn (by omega), nm_r (by rw [nI_clamp (by omega)]) (nm_r (nI_1 nv) ⟨rfl, ?_⟩)⟩⟩)⟩))
          exact ir_mk hc1 hc2 hoc hT (vl_new hV hn q1 q6 v2 (fun y => absurd z y))
        · refine br_f a1 (br_t a6 (br_t (nI_lt (b := 32) hn (by decide)) ⟨vp_in_nI hn (by omega), nm_r (by rw [nI_clamp (by omega)]) (br_f (fun y => z (la_im (b := 3) y (by omega) (by omega))) ⟨vp_in_nI hn (by omega), nm_r (by rw [nI_clamp (by omega)]) ⟨vp_in_nI hn (by omega), nm_r (by rw [nI_clamp (by omega)]) (nm_r (nI_1 nv) ⟨rfl, ?_⟩)⟩⟩)⟩))
          exact ir_mk hc1 hc2 hoc hT (vl_new hV hn q1 q6 0 (fun _ => rfl))
      · exact br_f a1 (br_t a6 (br_f (nI_nlt (b := 32) hn (by omega)) ⟨rfl, ir_mk hc1 hc2 hoc hT hV⟩))
    · exact br_f a1 (br_f a6 (br_f a1 (br_f a6 ⟨rfl, ir_mk hc1 hc2 hoc hT hV⟩)))
theorem i_vc_appendChar {k : Nat} {u : SX} {v : SY} (I : i_Rel k u v) (hk : k + 4 ≤ 2049) (v1 : Int32) (v2 : Int32) : wpX_appendChar (fun r u' => wpY_appendChar (fun r' v' => r' = r ∧ i_Rel (k + 4) u' v') v v1 v2) u v1 v2 := by
  refine ir_el (P := fun u v => wpX_appendChar (fun r u' => wpY_appendChar (fun r' v' => r' = r ∧ i_Rel (k + 4) u' v') v v1 v2) u v1 v2) I ?_
  intro f_openMarkLength f_closeMarkLength f_openCount f_compileFrom f_compileTo f_frameCount f_valueTextLength f_renderAt f_renderTo f_returnAt f_finished f_overflowed a_text a_cellKind a_cellName a_tagEnd a_sectionEnd a_textLength a_slotStatus a_slotError a_openMark a_closeMark a_openTags a_valueKind a_amount a_parts a_fieldValues a_out a_frameValue a_frameList a_frameNext a_frameBody a_valueText g_ol g_cl g_newOl g_newCl g_tagName g_parseErr g_openCount g_fn g_cn b_removed b_tType b_tA b_tB b_tName b_tMatch b_tCount b_oc b_cc b_newO b_newC b_openName b_openTok b_vKind b_vNum b_vCnt b_vStr b_vItem b_vKey b_vVal b_fv b_cKind b_cSlot b_cTok b_cVal b_cIdx b_dig ln nv oc cap kd ct hc1 hc2 hoc hT hV
  unfold wpX_appendChar wpY_appendChar
  have hnv := hV.1
  rcases id_ix v1 hnv with h | ⟨j, hj, rfl⟩
  · exact xl_kout h (br_f (by decide) (yl_kout h (br_f (by decide) ⟨rfl, ir_mk hc1 hc2 hoc hT hV⟩)))
  · obtain ⟨g1, g2, g3, g4, g5, g6, g7, g8, g9, g10, g11, g12, g13⟩ := hV.2 j hj
    by_cases k4 : kd (j + 1) = 4
    · rw [k4] at g4 g5
      refine xl_kin hnv hj g4 (br_t rfl (xl_prin (fun c1 c2 => br_f (by decide) ?_) (fun c0 => br_t rfl ?_)))
      · refine xl_add (cp := 8) (by omega) (g8 (by omega)) g3 (by omega) (fun z => ?_) (fun z => ?_)
        · refine yl_kin hnv hj g5 (br_t rfl (br_f (Int32.not_lt.mpr c1) (br_t c2 ?_)))
          rw [nI_pred, nI_clamp (by omega), g6, la_m8, nI_add]
          refine ⟨vp_in_nI (by omega) (by omega), br_t (nI_lt (b := 8) z (by decide)) ⟨vp_in_nI (by omega) (by omega), vp_in_nI (by omega) (by omega), nm_r (by rw [nI_clamp (by omega)]) ⟨vp_in_nI (by omega) (by omega), vp_in_nI (by omega) (by omega), nm_r (by rw [nI_1]) ⟨rfl, ?_⟩⟩⟩⟩
          exact ir_mk hc1 hc2 hoc hT (vl_add hV hj v2 (by omega) z (fun y => by omega) (fun x hx => pk_un (hx k4)) (fun x hx => rfl) (fun x hx => rfl) (fun x hx => rfl) (fun x hx => rfl) (fun _ => pk_us) (fun y => by omega) (fun y => by omega))
        · refine yl_kin hnv hj g5 (br_t rfl (br_f (Int32.not_lt.mpr c1) (br_t c2 ?_)))
          rw [nI_pred, nI_clamp (by omega), g6]
          exact ⟨vp_in_nI (by omega) (by omega), br_f (nI_nlt (b := 8) z (by omega)) ⟨rfl, ir_mk hc1 hc2 hoc hT hV⟩⟩
      · refine yl_kin hnv hj g5 (br_t rfl (br_c (fun z => ⟨rfl, ir_mk hc1 hc2 hoc hT hV⟩) (fun z => br_f (fun y => c0 ⟨Int32.not_lt.mp z, y⟩) ⟨rfl, ir_mk hc1 hc2 hoc hT hV⟩)))
    · have n4 : ¬ nI (kd (j + 1)) = 4 := fun y => k4 (la_im (b := 4) y (by omega) (by omega))
      exact xl_kin hnv hj g4 (br_f n4 (yl_kin hnv hj g5 (br_f n4 ⟨rfl, ir_mk hc1 hc2 hoc hT hV⟩)))
theorem i_vc_addItem {k : Nat} {u : SX} {v : SY} (I : i_Rel k u v) (hk : k + 4 ≤ 2049) (v1 : Int32) (v2 : Int32) : wpX_addItem (fun r u' => wpY_addItem (fun r' v' => r' = r ∧ i_Rel (k + 4) u' v') v v1 v2) u v1 v2 := by
  refine ir_el (P := fun u v => wpX_addItem (fun r u' => wpY_addItem (fun r' v' => r' = r ∧ i_Rel (k + 4) u' v') v v1 v2) u v1 v2) I ?_
  intro f_openMarkLength f_closeMarkLength f_openCount f_compileFrom f_compileTo f_frameCount f_valueTextLength f_renderAt f_renderTo f_returnAt f_finished f_overflowed a_text a_cellKind a_cellName a_tagEnd a_sectionEnd a_textLength a_slotStatus a_slotError a_openMark a_closeMark a_openTags a_valueKind a_amount a_parts a_fieldValues a_out a_frameValue a_frameList a_frameNext a_frameBody a_valueText g_ol g_cl g_newOl g_newCl g_tagName g_parseErr g_openCount g_fn g_cn b_removed b_tType b_tA b_tB b_tName b_tMatch b_tCount b_oc b_cc b_newO b_newC b_openName b_openTok b_vKind b_vNum b_vCnt b_vStr b_vItem b_vKey b_vVal b_fv b_cKind b_cSlot b_cTok b_cVal b_cIdx b_dig ln nv oc cap kd ct hc1 hc2 hoc hT hV
  unfold wpX_addItem wpY_addItem
  have hnv := hV.1
  rcases id_ix v1 hnv with h | ⟨j, hj, rfl⟩
  · exact xl_kout h (br_f (by decide) (yl_kout h (br_f (by decide) ⟨rfl, ir_mk hc1 hc2 hoc hT hV⟩)))
  · obtain ⟨g1, g2, g3, g4, g5, g6, g7, g8, g9, g10, g11, g12, g13⟩ := hV.2 j hj
    by_cases k5 : kd (j + 1) = 5
    · rw [k5] at g4 g5
      rcases id_ix v2 hnv with h | ⟨i, hi, rfl⟩
      · refine xl_kin hnv hj g4 (br_t rfl (xl_vout h (br_t rfl (yl_kin hnv hj g5 (br_t rfl (br_c (fun _ => ⟨rfl, ir_mk hc1 hc2 hoc hT hV⟩) (fun z => br_f ?_ ⟨rfl, ir_mk hc1 hc2 hoc hT hV⟩)))))))
        rcases h with h | h
        · exact absurd h z
        · exact Int32.not_le.mpr h
      · obtain ⟨i1, i2, _, i4, _⟩ := hV.2 i hi
        have a1 : ¬ nI (i + 1) < 1 := nI_nlt (b := 1) (by omega) (by omega)
        have a2 : nI (i + 1) ≤ nI nv := nI_le (by omega) (by omega)
        refine xl_kin hnv hj g4 (br_t rfl (xl_vin hnv hi i4 i1 i2 (br_f (by decide) ?_)))
        refine xl_add (cp := 4) (by omega) (g8 (by omega)) g3 (by omega) (fun z => ?_) (fun z => ?_)
        · refine yl_kin hnv hj g5 (br_t rfl (br_f a1 (br_t a2 ?_)))
          rw [nI_pred, nI_clamp (by omega), g6, la_m4, nI_add]
          refine ⟨vp_in_nI (by omega) (by omega), br_t (nI_lt (b := 4) z (by decide)) ⟨vp_in_nI (by omega) (by omega), vp_in_nI (by omega) (by omega), nm_r (by rw [nI_clamp (by omega)]) ⟨vp_in_nI (by omega) (by omega), vp_in_nI (by omega) (by omega), nm_r (by rw [nI_1]) ⟨rfl, ?_⟩⟩⟩⟩
          exact ir_mk hc1 hc2 hoc hT (vl_add hV hj (nI (i + 1)) (by omega) (by omega) (fun y => z) (fun x hx => rfl) (fun x hx => pk_un (hx k5)) (fun x hx => rfl) (fun x hx => rfl) (fun x hx => rfl) (fun y => by omega) (fun _ => ⟨pk_us, i + 1, by omega, by omega, rfl⟩) (fun y => by omega))
        · refine yl_kin hnv hj g5 (br_t rfl (br_f a1 (br_t a2 ?_)))
          rw [nI_pred, nI_clamp (by omega), g6]
          exact ⟨vp_in_nI (by omega) (by omega), br_f (nI_nlt (b := 4) z (by omega)) ⟨rfl, ir_mk hc1 hc2 hoc hT hV⟩⟩
    · have n5 : ¬ nI (kd (j + 1)) = 5 := fun y => k5 (la_im (b := 5) y (by omega) (by omega))
      exact xl_kin hnv hj g4 (br_f n5 (yl_kin hnv hj g5 (br_f n5 ⟨rfl, ir_mk hc1 hc2 hoc hT hV⟩)))
end LLVM
