section LLVN
def vf_s (pt fd : Nat → Int32) (v : Nat) (key : Int32) : Nat → Nat → Int32
  | 0, _ => 0
  | d + 1, i => if pt (v * 8 + i) = key then fd (v * 4 + i) else vf_s pt fd v key d (i + 1)
theorem vf_su {pt fd : Nat → Int32} {v : Nat} {key : Int32} {d i : Nat} : vf_s pt fd v key (d + 1) i = if pt (v * 8 + i) = key then fd (v * 4 + i) else vf_s pt fd v key d (i + 1) := rfl
theorem vf_hit {pt fd : Nat → Int32} {v : Nat} {key : Int32} {a : Nat} (ha : pt (v * 8 + a) = key) : ∀ d i, i ≤ a → a < i + d → (∀ b, i ≤ b → b < a → pt (v * 8 + b) ≠ key) → vf_s pt fd v key d i = fd (v * 4 + a) := by
  intro d
  induction d with
  | zero => intro i h1 h2; omega
  | succ d ih =>
    intro i h1 h2 h3
    rw [vf_su]
    by_cases e : i = a
    · rw [e, if_pos ha]
    · rw [if_neg (h3 i (Nat.le_refl _) (by omega))]
      exact ih (i + 1) (by omega) (by omega) (fun b b1 b2 => h3 b (by omega) b2)
theorem vf_miss {pt fd : Nat → Int32} {v : Nat} {key : Int32} : ∀ d i, (∀ b, i ≤ b → b < i + d → pt (v * 8 + b) ≠ key) → vf_s pt fd v key d i = 0 := by
  intro d
  induction d with
  | zero => intro i h; rfl
  | succ d ih =>
    intro i h
    rw [vf_su, if_neg (h i (Nat.le_refl _) (by omega))]
    exact ih (i + 1) (fun b b1 b2 => h b (by omega) (by omega))
theorem vf_cs {pt fd : Nat → Int32} {v : Nat} {key : Int32} {P : Int32 → Prop} (h0 : P 0) : ∀ d i, (∀ b, i ≤ b → b < i + d → P (fd (v * 4 + b))) → P (vf_s pt fd v key d i) := by
  intro d
  induction d with
  | zero => intro i h; exact h0
  | succ d ih =>
    intro i h
    rw [vf_su]
    split
    · exact h i (Nat.le_refl _) (by omega)
    · exact ih (i + 1) (fun b b1 b2 => h b (by omega) (by omega))
/-- the field key of the value v -/
def vf_f (kd ct : Nat → Nat) (pt fd : Nat → Int32) (key : Int32) (v : Nat) : Int32 := if kd v = 6 then vf_s pt fd v key (ct v) 0 else 0
section FO
variable {f_openMarkLength f_closeMarkLength f_openCount f_compileFrom f_compileTo f_valueCount f_outCap f_outCount f_frameCount f_valueTextLength f_renderAt f_renderTo f_returnAt f_finished f_overflowed : Int32} {a_text a_cellKind a_cellName a_tagEnd a_sectionEnd a_textLength a_slotStatus a_slotError a_openMark a_closeMark a_openTags a_valueKind a_amount a_parts a_fieldValues a_out a_frameValue a_frameList a_frameNext a_frameBody a_valueText : Nat → Int32} {g_ol g_cl g_newOl g_newCl g_tagName g_parseErr g_openCount g_nVals g_outLen g_outCap g_fn g_cn : Int32} {b_text b_len b_stat b_errPos b_removed b_tType b_tA b_tB b_tName b_tMatch b_tCount b_oc b_cc b_newO b_newC b_openName b_openTok b_vKind b_vNum b_vCnt b_vStr b_vItem b_vKey b_vVal b_out b_fv b_cKind b_cSlot b_cTok b_cVal b_cIdx b_dig : Nat → Int32} {nv : Nat} {kd ct : Nat → Nat}
theorem vf_r {key : Int32} (hV : vl_R nv kd ct a_valueKind a_amount a_parts a_fieldValues b_vKind b_vNum b_vCnt b_vStr b_vItem b_vKey b_vVal) {j : Nat} (hj : j < nv) : vf_f kd ct a_parts a_fieldValues key (j + 1) = 0 ∨ ∃ w, 1 ≤ w ∧ w ≤ nv ∧ vf_f kd ct a_parts a_fieldValues key (j + 1) = nI w := by
  unfold vf_f
  by_cases z : kd (j + 1) = 6
  · rw [if_pos z]
    refine vf_cs (P := fun x => x = 0 ∨ ∃ w, 1 ≤ w ∧ w ≤ nv ∧ x = nI w) (Or.inl rfl) _ _ (fun b b1 b2 => Or.inr ?_)
    obtain ⟨_, e, w, w1, w2, w3⟩ := (hV.2 j hj).2.2.2.2.2.2.2.2.2.2.2.2 z b (by omega)
    exact ⟨w, w1, w2, e.trans w3⟩
  · rw [if_neg z]
    exact Or.inl rfl
theorem xl_fof {post : Int32 → Prop} {key : Int32} (hV : vl_R nv kd ct a_valueKind a_amount a_parts a_fieldValues b_vKind b_vNum b_vCnt b_vStr b_vItem b_vKey b_vVal) {j : Nat} (hj : j < nv) (h : post (vf_f kd ct a_parts a_fieldValues key (j + 1))) : wpX_fieldOf post (f_openMarkLength, f_closeMarkLength, f_openCount, f_compileFrom, f_compileTo, nI nv, f_outCap, f_outCount, f_frameCount, f_valueTextLength, f_renderAt, f_renderTo, f_returnAt, f_finished, f_overflowed, a_text, a_cellKind, a_cellName, a_tagEnd, a_sectionEnd, a_textLength, a_slotStatus, a_slotError, a_openMark, a_closeMark, a_openTags, a_valueKind, a_amount, a_parts, a_fieldValues, a_out, a_frameValue, a_frameList, a_frameNext, a_frameBody, a_valueText) (nI (j + 1)) key := by
  obtain ⟨g1, g2, g3, g4, g5, g6, g7, g8, g9, g10, g11, g12, g13⟩ := hV.2 j hj
  have hnv := hV.1
  unfold wpX_fieldOf
  unfold vf_f at h
  by_cases z : kd (j + 1) = 6
  · rw [if_pos z] at h
    rw [z] at g4
    have c4 := g10 (by omega)
    refine xl_kin hnv hj g4 (br_t rfl (xl_field (by omega) (g8 (by omega)) g3 (fun a a1 a2 a3 => ?_) (fun a0 => ?_)))
    · rw [vf_hit a2 (ct (j + 1)) 0 (by omega) (by omega) (fun b _ b2 => a3 b b2)] at h
      refine br_f (la_n1 (by omega)) ?_
      rw [la_m4, nI_add, nI_clamp (by omega)]
      exact ⟨vp_in_nI (by omega) (by omega), h⟩
    · rw [vf_miss (ct (j + 1)) 0 (fun b _ b2 => a0 b (by omega))] at h
      exact br_t rfl h
  · rw [if_neg z] at h
    exact xl_kin hnv hj g4 (br_f (fun y => z (la_im (b := 6) y (by omega) (by omega))) h)
theorem yl_fo {post : Int32 → Prop} {key : Int32} {j m : Nat} (hj : j < 32) (hm : m ≤ 4) (hc : b_vCnt j = nI m) (he : ∀ i, i < m → a_parts ((j + 1) * 8 + i) = b_vKey (j * 4 + i) ∧ a_fieldValues ((j + 1) * 4 + i) = b_vVal (j * 4 + i)) : ∀ d i, i + d = m → post (vf_s a_parts a_fieldValues (j + 1) key d i) → wY_fieldOf_14 post (nI (j + 1)) key g_ol g_cl g_newOl g_newCl g_tagName g_parseErr g_openCount g_nVals g_outLen g_outCap g_fn g_cn b_text b_len b_stat b_errPos b_removed b_tType b_tA b_tB b_tName b_tMatch b_tCount b_oc b_cc b_newO b_newC b_openName b_openTok b_vKind b_vNum b_vCnt b_vStr b_vItem b_vKey b_vVal b_out b_fv b_cKind b_cSlot b_cTok b_cVal b_cIdx b_dig (d + 1) (nI i) := by
  intro d
  induction d with
  | zero =>
    intro i hi h
    unfold wY_fieldOf_14
    rw [nI_pred, nI_clamp (by omega), hc]
    exact ⟨vp_in_nI (by omega) (by omega), br_t (nI_le (by omega) (by omega)) h⟩
  | succ d ih =>
    intro i hi h
    rw [vf_su] at h
    unfold wY_fieldOf_14
    rw [nI_pred, nI_clamp (by omega), hc, la_m4, nI_add, nI_clamp (by omega), ← (he i (by omega)).1, ← (he i (by omega)).2]
    refine ⟨vp_in_nI (by omega) (by omega), br_f (nI_ge (by omega) (by omega)) ⟨vp_in_nI (by omega) (by omega), ?_⟩⟩
    by_cases z : a_parts ((j + 1) * 8 + i) = key
    · rw [if_pos z] at h
      exact br_t z ⟨vp_in_nI (by omega) (by omega), h⟩
    · rw [if_neg z] at h
      exact br_f z (nm_r (nI_1 _) (ih (i + 1) (by omega) h))
theorem yl_fof {post : Int32 → Prop} {key : Int32} (hV : vl_R nv kd ct a_valueKind a_amount a_parts a_fieldValues b_vKind b_vNum b_vCnt b_vStr b_vItem b_vKey b_vVal) {j : Nat} (hj : j < nv) (h : post (vf_f kd ct a_parts a_fieldValues key (j + 1))) : wpY_fieldOf post (g_ol, g_cl, g_newOl, g_newCl, g_tagName, g_parseErr, g_openCount, nI nv, g_outLen, g_outCap, g_fn, g_cn, b_text, b_len, b_stat, b_errPos, b_removed, b_tType, b_tA, b_tB, b_tName, b_tMatch, b_tCount, b_oc, b_cc, b_newO, b_newC, b_openName, b_openTok, b_vKind, b_vNum, b_vCnt, b_vStr, b_vItem, b_vKey, b_vVal, b_out, b_fv, b_cKind, b_cSlot, b_cTok, b_cVal, b_cIdx, b_dig) (nI (j + 1)) key := by
  obtain ⟨g1, g2, g3, g4, g5, g6, g7, g8, g9, g10, g11, g12, g13⟩ := hV.2 j hj
  have hnv := hV.1
  unfold wpY_fieldOf
  unfold vf_f at h
  by_cases z : kd (j + 1) = 6
  · rw [if_pos z] at h
    rw [z] at g5
    exact yl_kin hnv hj g5 (br_t rfl ⟨_, yl_fo (by omega) (g10 (by omega)) g6 (fun i hi => ⟨(g13 z i hi).1, (g13 z i hi).2.1⟩) (ct (j + 1)) 0 (by omega) h⟩)
  · rw [if_neg z] at h
    exact yl_kin hnv hj g5 (br_f (fun y => z (la_im (b := 6) y (by omega) (by omega))) h)
theorem yl_sfT {post : Int32 → SY → Prop} {key val : Int32} {j m a : Nat} (hj : j < 32) (hm : m ≤ 4) (hc : b_vCnt j = nI m) (ha : a < m) (hk : b_vKey (j * 4 + a) = key) (h : post 0 (g_ol, g_cl, g_newOl, g_newCl, g_tagName, g_parseErr, g_openCount, g_nVals, g_outLen, g_outCap, g_fn, g_cn, b_text, b_len, b_stat, b_errPos, b_removed, b_tType, b_tA, b_tB, b_tName, b_tMatch, b_tCount, b_oc, b_cc, b_newO, b_newC, b_openName, b_openTok, b_vKind, b_vNum, b_vCnt, b_vStr, b_vItem, b_vKey, upd b_vVal (j * 4 + a) val, b_out, b_fv, b_cKind, b_cSlot, b_cTok, b_cVal, b_cIdx, b_dig)) : ∀ d i, i + d = a → (∀ b, i ≤ b → b < a → b_vKey (j * 4 + b) ≠ key) → wY_setField_51 post (nI (j + 1)) key val (nI (j * 4)) g_ol g_cl g_newOl g_newCl g_tagName g_parseErr g_openCount g_nVals g_outLen g_outCap g_fn g_cn b_text b_len b_stat b_errPos b_removed b_tType b_tA b_tB b_tName b_tMatch b_tCount b_oc b_cc b_newO b_newC b_openName b_openTok b_vKind b_vNum b_vCnt b_vStr b_vItem b_vKey b_vVal b_out b_fv b_cKind b_cSlot b_cTok b_cVal b_cIdx b_dig (d + 1) (nI i) := by
  intro d
  induction d with
  | zero =>
    intro i hi g
    have e : i = a := by omega
    subst e
    unfold wY_setField_51
    rw [nI_pred, nI_clamp (by omega), hc, nI_add, nI_add, nI_clamp (by omega), nI_clamp (by omega)]
    exact ⟨vp_in_nI (by omega) (by omega), br_f (nI_ge (by omega) (by omega)) ⟨vp_in_nI (by omega) (by omega), br_t hk ⟨vp_in_nI (by omega) (by omega), nm_e h⟩⟩⟩
  | succ d ih =>
    intro i hi g
    unfold wY_setField_51
    rw [nI_pred, nI_clamp (by omega), hc, nI_add, nI_add, nI_clamp (by omega), nI_clamp (by omega)]
    exact ⟨vp_in_nI (by omega) (by omega), br_f (nI_ge (by omega) (by omega)) ⟨vp_in_nI (by omega) (by omega), br_f (g i (Nat.le_refl _) (by omega)) (nm_r (nI_1 _) (ih (i + 1) (by omega) (fun b b1 b2 => g b (by omega) b2)))⟩⟩
theorem yl_sfF {post : Int32 → SY → Prop} {key val : Int32} {j m : Nat} (hj : j < 32) (hm : m ≤ 4) (hc : b_vCnt j = nI m) (h : m < 4 → post 0 (g_ol, g_cl, g_newOl, g_newCl, g_tagName, g_parseErr, g_openCount, g_nVals, g_outLen, g_outCap, g_fn, g_cn, b_text, b_len, b_stat, b_errPos, b_removed, b_tType, b_tA, b_tB, b_tName, b_tMatch, b_tCount, b_oc, b_cc, b_newO, b_newC, b_openName, b_openTok, b_vKind, b_vNum, upd b_vCnt j (nI (m + 1)), b_vStr, b_vItem, upd b_vKey (j * 4 + m) key, upd b_vVal (j * 4 + m) val, b_out, b_fv, b_cKind, b_cSlot, b_cTok, b_cVal, b_cIdx, b_dig)) (h' : 4 ≤ m → post (-2) (g_ol, g_cl, g_newOl, g_newCl, g_tagName, g_parseErr, g_openCount, g_nVals, g_outLen, g_outCap, g_fn, g_cn, b_text, b_len, b_stat, b_errPos, b_removed, b_tType, b_tA, b_tB, b_tName, b_tMatch, b_tCount, b_oc, b_cc, b_newO, b_newC, b_openName, b_openTok, b_vKind, b_vNum, b_vCnt, b_vStr, b_vItem, b_vKey, b_vVal, b_out, b_fv, b_cKind, b_cSlot, b_cTok, b_cVal, b_cIdx, b_dig)) : ∀ d i, i + d = m → (∀ b, i ≤ b → b < m → b_vKey (j * 4 + b) ≠ key) → wY_setField_51 post (nI (j + 1)) key val (nI (j * 4)) g_ol g_cl g_newOl g_newCl g_tagName g_parseErr g_openCount g_nVals g_outLen g_outCap g_fn g_cn b_text b_len b_stat b_errPos b_removed b_tType b_tA b_tB b_tName b_tMatch b_tCount b_oc b_cc b_newO b_newC b_openName b_openTok b_vKind b_vNum b_vCnt b_vStr b_vItem b_vKey b_vVal b_out b_fv b_cKind b_cSlot b_cTok b_cVal b_cIdx b_dig (d + 1) (nI i) := by
  intro d
  induction d with
  | zero =>
    intro i hi g
    unfold wY_setField_51
    rw [nI_pred, nI_clamp (by omega), hc, nI_add, nI_clamp (by omega)]
    refine ⟨vp_in_nI (by omega) (by omega), br_t (nI_le (by omega) (by omega)) ⟨vp_in_nI (by omega) (by omega), pk_lt m 4 (fun z => ⟨vp_in_nI (by omega) (by omega), vp_in_nI (by omega) (by omega), nm_e ⟨vp_in_nI (by omega) (by omega), vp_in_nI (by omega) (by omega), nm_e ⟨vp_in_nI (by omega) (by omega), vp_in_nI (by omega) (by omega), nm_r (by rw [nI_1]) (h z)⟩⟩⟩) h'⟩⟩
  | succ d ih =>
    intro i hi g
    unfold wY_setField_51
    rw [nI_pred, nI_clamp (by omega), hc, nI_add, nI_add, nI_clamp (by omega), nI_clamp (by omega)]
    exact ⟨vp_in_nI (by omega) (by omega), br_f (nI_ge (by omega) (by omega)) ⟨vp_in_nI (by omega) (by omega), br_f (g i (Nat.le_refl _) (by omega)) (nm_r (nI_1 _) (ih (i + 1) (by omega) (fun b b1 b2 => g b (by omega) b2)))⟩⟩
end FO
theorem i_vc_fieldOf {k : Nat} {u : SX} {v : SY} (I : i_Rel k u v) (hk : k + 4 ≤ 2049) (v1 : Int32) (v2 : Int32) : wpX_fieldOf (fun r => wpY_fieldOf (fun r' => r' = r ∧ i_Rel (k + 4) u v) v v1 v2) u v1 v2 := by
  refine ir_el (P := fun u v => wpX_fieldOf (fun r => wpY_fieldOf (fun r' => r' = r ∧ i_Rel (k + 4) u v) v v1 v2) u v1 v2) I ?_
  intro f_openMarkLength f_closeMarkLength f_openCount f_compileFrom f_compileTo f_frameCount f_valueTextLength f_renderAt f_renderTo f_returnAt f_finished f_overflowed a_text a_cellKind a_cellName a_tagEnd a_sectionEnd a_textLength a_slotStatus a_slotError a_openMark a_closeMark a_openTags a_valueKind a_amount a_parts a_fieldValues a_out a_frameValue a_frameList a_frameNext a_frameBody a_valueText g_ol g_cl g_newOl g_newCl g_tagName g_parseErr g_openCount g_fn g_cn b_removed b_tType b_tA b_tB b_tName b_tMatch b_tCount b_oc b_cc b_newO b_newC b_openName b_openTok b_vKind b_vNum b_vCnt b_vStr b_vItem b_vKey b_vVal b_fv b_cKind b_cSlot b_cTok b_cVal b_cIdx b_dig ln nv oc cap kd ct hc1 hc2 hoc hT hV
  have hnv := hV.1
  rcases id_ix v1 hnv with h | ⟨j, hj, rfl⟩
  · unfold wpX_fieldOf wpY_fieldOf
    exact xl_kout h (br_f (by decide) (yl_kout h (br_f (by decide) ⟨rfl, ir_mk hc1 hc2 hoc hT hV⟩)))
  · exact xl_fof hV hj (yl_fof hV hj ⟨rfl, ir_mk hc1 hc2 hoc hT hV⟩)
theorem i_vc_setField {k : Nat} {u : SX} {v : SY} (I : i_Rel k u v) (hk : k + 4 ≤ 2049) (v1 : Int32) (v2 : Int32) (v3 : Int32) : wpX_setField (fun r u' => wpY_setField (fun r' v' => r' = r ∧ i_Rel (k + 4) u' v') v v1 v2 v3) u v1 v2 v3 := by
  refine ir_el (P := fun u v => wpX_setField (fun r u' => wpY_setField (fun r' v' => r' = r ∧ i_Rel (k + 4) u' v') v v1 v2 v3) u v1 v2 v3) I ?_
  intro f_openMarkLength f_closeMarkLength f_openCount f_compileFrom f_compileTo f_frameCount f_valueTextLength f_renderAt f_renderTo f_returnAt f_finished f_overflowed a_text a_cellKind a_cellName a_tagEnd a_sectionEnd a_textLength a_slotStatus a_slotError a_openMark a_closeMark a_openTags a_valueKind a_amount a_parts a_fieldValues a_out a_frameValue a_frameList a_frameNext a_frameBody a_valueText g_ol g_cl g_newOl g_newCl g_tagName g_parseErr g_openCount g_fn g_cn b_removed b_tType b_tA b_tB b_tName b_tMatch b_tCount b_oc b_cc b_newO b_newC b_openName b_openTok b_vKind b_vNum b_vCnt b_vStr b_vItem b_vKey b_vVal b_fv b_cKind b_cSlot b_cTok b_cVal b_cIdx b_dig ln nv oc cap kd ct hc1 hc2 hoc hT hV
  unfold wpX_setField wpY_setField
  have hnv := hV.1
  rcases id_ix v1 hnv with h | ⟨j, hj, rfl⟩
  · exact xl_kout h (br_f (by decide) (yl_kout h (br_f (by decide) ⟨rfl, ir_mk hc1 hc2 hoc hT hV⟩)))
  · obtain ⟨g1, g2, g3, g4, g5, g6, g7, g8, g9, g10, g11, g12, g13⟩ := hV.2 j hj
    by_cases k6 : kd (j + 1) = 6
    · rw [k6] at g4 g5
      have c4 := g10 (by omega)
      refine xl_kin hnv hj g4 (br_t rfl (xl_let (fun c1 c2 => br_f (by decide) ?_) (fun c0 => br_t rfl (yl_kin hnv hj g5 (br_t rfl (br_c (fun z => ⟨rfl, ir_mk hc1 hc2 hoc hT hV⟩) (fun z => br_f (fun y => c0 ⟨Int32.not_lt.mp z, y⟩) ⟨rfl, ir_mk hc1 hc2 hoc hT hV⟩)))))))
      rcases id_ix v3 hnv with h | ⟨i, hi, rfl⟩
      · refine xl_vout h (br_t rfl (yl_kin hnv hj g5 (br_t rfl (br_f (Int32.not_lt.mpr c1) (br_t c2 (br_c (fun _ => ⟨rfl, ir_mk hc1 hc2 hoc hT hV⟩) (fun z => br_f ?_ ⟨rfl, ir_mk hc1 hc2 hoc hT hV⟩)))))))
        rcases h with h | h
        · exact absurd h z
        · exact Int32.not_le.mpr h
      · obtain ⟨i1, i2, _, i4, _⟩ := hV.2 i hi
        have a1 : ¬ nI (i + 1) < 1 := nI_nlt (b := 1) (by omega) (by omega)
        have a2 : nI (i + 1) ≤ nI nv := nI_le (by omega) (by omega)
        have e4 : (nI (j + 1) - 1) * 4 = nI (j * 4) := by rw [nI_pred, la_m4]
        refine xl_vin hnv hi i4 i1 i2 (br_f (by decide) (xl_field (by omega) (g8 (by omega)) g3 (fun a b1 b2 b3 => br_f (la_n1 (by omega)) ?_) (fun b0 => br_t rfl ?_)))
        · unfold wX_setField_67
          rw [la_m4, nI_add, nI_clamp (by omega)]
          refine ⟨vp_in_nI (by omega) (by omega), nm_e (yl_kin hnv hj g5 (br_t rfl (br_f (Int32.not_lt.mpr c1) (br_t c2 (br_f a1 (br_t a2 (nm_r e4 ⟨_, yl_sfT (by omega) c4 g6 b1 ?hk ⟨rfl, ?hr⟩ a 0 (by omega) (fun b _ x2 => ?hb)⟩)))))))⟩
          case hk => rw [← (g13 k6 a b1).1]; exact b2
          case hr => exact ir_mk hc1 hc2 hoc hT (vl_set hV hj k6 b1 (by omega) (by omega))
          case hb => rw [← (g13 k6 b (by omega)).1]; exact b3 b x2
        · refine ⟨vp_in_nI (by omega) (by omega), nm_r (e' := nI (ct (j + 1))) (by rw [nI_clamp (by omega)]; exact g8 (by omega)) ?_⟩
          have miss : ∀ b, 0 ≤ b → b < ct (j + 1) → b_vKey (j * 4 + b) ≠ v2 := fun b _ x2 => by
            rw [← (g13 k6 b x2).1]; exact b0 b x2
          refine xl_add (cp := 4) (by omega) (g8 (by omega)) g3 (by omega) (fun z => br_t rfl ?_) (fun z => br_f (by decide) ?_)
          · unfold wX_setField_67
            rw [la_m4, nI_add, nI_clamp (by omega)]
            refine ⟨vp_in_nI (by omega) (by omega), nm_e (yl_kin hnv hj g5 (br_t rfl (br_f (Int32.not_lt.mpr c1) (br_t c2 (br_f a1 (br_t a2 (nm_r e4 ⟨_, yl_sfF (by omega) c4 g6 (fun _ => ⟨rfl, ?_⟩) (fun y => absurd y (by omega)) (ct (j + 1)) 0 (by omega) miss⟩)))))))⟩
            exact ir_mk hc1 hc2 hoc hT (vl_add hV hj v2 (by omega) (by omega) (fun y => z) (fun x hx => rfl) (fun x hx => rfl) (fun x hx => pk_un (hx k6)) (fun x hx => pk_un (hx k6)) (fun x hx => pk_un (hx k6)) (fun y => by omega) (fun y => by omega) (fun _ => ⟨pk_us, by rw [pk_us, pk_us], i + 1, by omega, by omega, pk_us⟩))
          · exact yl_kin hnv hj g5 (br_t rfl (br_f (Int32.not_lt.mpr c1) (br_t c2 (br_f a1 (br_t a2 (nm_r e4 ⟨_, yl_sfF (by omega) c4 g6 (fun y => absurd y (by omega)) (fun _ => ⟨rfl, ir_mk hc1 hc2 hoc hT hV⟩) (ct (j + 1)) 0 (by omega) miss⟩))))))
    · have n6 : ¬ nI (kd (j + 1)) = 6 := fun y => k6 (la_im (b := 6) y (by omega) (by omega))
      exact xl_kin hnv hj g4 (br_f n6 (yl_kin hnv hj g5 (br_f n6 ⟨rfl, ir_mk hc1 hc2 hoc hT hV⟩)))
end LLVN
