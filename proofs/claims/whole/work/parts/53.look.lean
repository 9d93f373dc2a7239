section LLLK
/-- the look up of a name -/
def lk_v (root : Nat) (kd ct : Nat → Nat) (pt fd : Nat → Int32) (es : List (Nat × Nat × Nat × Nat × Nat × Nat)) (c : Int32) : Int32 := if c = 46 then nI (rn_t root es) else rn_l root (vf_f kd ct pt fd c) es
variable {f_openMarkLength f_closeMarkLength f_openCount f_compileFrom f_compileTo f_valueCount f_outCap f_outCount f_frameCount f_valueTextLength f_renderAt f_renderTo f_returnAt f_finished f_overflowed : Int32} {a_text a_cellKind a_cellName a_tagEnd a_sectionEnd a_textLength a_slotStatus a_slotError a_openMark a_closeMark a_openTags a_valueKind a_amount a_parts a_fieldValues a_out a_frameValue a_frameList a_frameNext a_frameBody a_valueText : Nat → Int32} {g_ol g_cl g_newOl g_newCl g_tagName g_parseErr g_openCount g_nVals g_outLen g_outCap g_fn g_cn : Int32} {b_text b_len b_stat b_errPos b_removed b_tType b_tA b_tB b_tName b_tMatch b_tCount b_oc b_cc b_newO b_newC b_openName b_openTok b_vKind b_vNum b_vCnt b_vStr b_vItem b_vKey b_vVal b_out b_fv b_cKind b_cSlot b_cTok b_cVal b_cIdx b_dig : Nat → Int32} {nv root : Nat} {kd ct : Nat → Nat} {M : Nat → Nat} {PS TP : Nat → Nat → Nat} {ST : Nat → Nat → List Nat}
theorem lk_r (hV : vl_R nv kd ct a_valueKind a_amount a_parts a_fieldValues b_vKind b_vNum b_vCnt b_vStr b_vItem b_vKey b_vVal) (h1 : 1 ≤ root) (h2 : root ≤ nv) (c : Int32) : ∀ (es : List (Nat × Nat × Nat × Nat × Nat × Nat)) (s : Nat) (hs : List Nat), rn_m M TP ST nv es s hs → rn_l root (vf_f kd ct a_parts a_fieldValues c) es = 0 ∨ ∃ w, 1 ≤ w ∧ w ≤ nv ∧ rn_l root (vf_f kd ct a_parts a_fieldValues c) es = nI w := by
  have fv : ∀ v, 1 ≤ v → v ≤ nv → vf_f kd ct a_parts a_fieldValues c v = 0 ∨ ∃ w, 1 ≤ w ∧ w ≤ nv ∧ vf_f kd ct a_parts a_fieldValues c v = nI w := fun v v1 v2 => by
    obtain ⟨j, rfl⟩ : ∃ j, v = j + 1 := ⟨v - 1, by omega⟩
    exact vf_r hV (by omega)
  intro es
  induction es with
  | nil => intro s hs _; exact fv root h1 h2
  | cons e es ih =>
    intro s hs h
    rcases h with ⟨g1, _, _, _, _, _, _, g7⟩ | ⟨g1, g2, g3, g4, g5, g6, g7⟩
    · simp only [rn_l, if_neg (show ¬ e.1 = 6 from by omega)]
      exact ih _ _ g7
    · by_cases z : e.1 = 6
      · simp only [rn_l, if_pos z]
        by_cases w : vf_f kd ct a_parts a_fieldValues c e.2.2.2.2.2 = 0
        · rw [if_pos w]; exact ih _ _ g7
        · rw [if_neg w]; exact fv _ (g6 z).2.1 (g6 z).2.2
      · simp only [rn_l, if_neg z]
        exact ih _ _ g7
theorem lk_vr (hV : vl_R nv kd ct a_valueKind a_amount a_parts a_fieldValues b_vKind b_vNum b_vCnt b_vStr b_vItem b_vKey b_vVal) (h1 : 1 ≤ root) (h2 : root ≤ nv) (c : Int32) {es : List (Nat × Nat × Nat × Nat × Nat × Nat)} {s : Nat} {hs : List Nat} (hm : rn_m M TP ST nv es s hs) : lk_v root kd ct a_parts a_fieldValues es c = 0 ∨ ∃ w, 1 ≤ w ∧ w ≤ nv ∧ lk_v root kd ct a_parts a_fieldValues es c = nI w := by
  unfold lk_v
  by_cases z : c = 46
  · rw [if_pos z]
    have := rn_tv h1 h2 es s hs hm
    exact Or.inr ⟨_, this.1, this.2, rfl⟩
  · rw [if_neg z]
    exact lk_r hV h1 h2 c es s hs hm
theorem xk_fr {post : Int32 → Prop} {c : Int32} {v i n : Nat} (hV : vl_R nv kd ct a_valueKind a_amount a_parts a_fieldValues b_vKind b_vNum b_vCnt b_vStr b_vItem b_vKey b_vVal) (hi : i < 5) (hv1 : 1 ≤ v) (hv2 : v ≤ nv) (hf : a_frameValue i = nI v) (h1 : ¬ vf_f kd ct a_parts a_fieldValues c v = 0 → post (vf_f kd ct a_parts a_fieldValues c v)) (h0 : vf_f kd ct a_parts a_fieldValues c v = 0 → wX_lookUp_36 post c f_openMarkLength f_closeMarkLength f_openCount f_compileFrom f_compileTo (nI nv) f_outCap f_outCount f_frameCount f_valueTextLength f_renderAt f_renderTo f_returnAt f_finished f_overflowed a_text a_cellKind a_cellName a_tagEnd a_sectionEnd a_textLength a_slotStatus a_slotError a_openMark a_closeMark a_openTags a_valueKind a_amount a_parts a_fieldValues a_out a_frameValue a_frameList a_frameNext a_frameBody a_valueText n (nI i - 1)) : wX_lookUp_36 post c f_openMarkLength f_closeMarkLength f_openCount f_compileFrom f_compileTo (nI nv) f_outCap f_outCount f_frameCount f_valueTextLength f_renderAt f_renderTo f_returnAt f_finished f_overflowed a_text a_cellKind a_cellName a_tagEnd a_sectionEnd a_textLength a_slotStatus a_slotError a_openMark a_closeMark a_openTags a_valueKind a_amount a_parts a_fieldValues a_out a_frameValue a_frameList a_frameNext a_frameBody a_valueText (n + 1) (nI i) := by
  obtain ⟨j, rfl⟩ : ∃ j, v = j + 1 := ⟨v - 1, by omega⟩
  refine br_f (nI_pos (by omega)) ⟨vp_in_nI hi (by omega), ?_⟩
  rw [nI_clamp (by omega), hf]
  exact xl_fof hV (by omega) ⟨fun z => nm_r (Int32.sub_eq_add_neg _ _).symm (h0 z), h1⟩
theorem xk_l {post : Int32 → Prop} {c : Int32} (hV : vl_R nv kd ct a_valueKind a_amount a_parts a_fieldValues b_vKind b_vNum b_vCnt b_vStr b_vItem b_vKey b_vVal) (r1 : 1 ≤ root) (r2 : root ≤ nv) : ∀ (es : List (Nat × Nat × Nat × Nat × Nat × Nat)) (fc fn cn s : Nat) (hs : List Nat), rn_s PS kd root a_frameValue a_frameList a_frameNext a_frameBody b_fv b_cKind b_cSlot b_cTok b_cVal b_cIdx es fc fn cn → rn_m M TP ST nv es s hs → fc ≤ 5 → post (rn_l root (vf_f kd ct a_parts a_fieldValues c) es) → ∃ n, wX_lookUp_36 post c f_openMarkLength f_closeMarkLength f_openCount f_compileFrom f_compileTo (nI nv) f_outCap f_outCount f_frameCount f_valueTextLength f_renderAt f_renderTo f_returnAt f_finished f_overflowed a_text a_cellKind a_cellName a_tagEnd a_sectionEnd a_textLength a_slotStatus a_slotError a_openMark a_closeMark a_openTags a_valueKind a_amount a_parts a_fieldValues a_out a_frameValue a_frameList a_frameNext a_frameBody a_valueText n (nI fc - 1) := by
  intro es
  induction es with
  | nil =>
    intro fc fn cn s hs h hm h5 hp
    obtain ⟨a1, a2, a3, a4, a5⟩ := h
    subst a1
    refine ⟨2, xk_fr (i := 0) hV (by omega) r1 r2 a4 (fun _ => hp) (fun z => br_t (by decide) ?_)⟩
    simp only [rn_l, z] at hp
    exact hp
  | cons e es ih =>
    intro fc fn cn s hs h hm h5 hp
    obtain ⟨fc', fn', cn', b1, b2, b3, b4, b5, b6⟩ := h
    have pos := rn_sn es fc' fn' cn' b1
    rcases b6 with ⟨k, c1, c2, c3, c4, c5, c6, c7⟩ | ⟨k, c1, c2, c3, c4⟩ | ⟨k, c1, c2⟩
    · have hm' : (1 ≤ e.2.2.2.2.2 ∧ e.2.2.2.2.2 ≤ nv) ∧ ∃ s' hs', rn_m M TP ST nv es s' hs' := by
        rcases hm with ⟨g1, _⟩ | ⟨g1, g2, g3, g4, g5, g6, g7⟩
        · omega
        · exact ⟨(g6 k).2, _, _, g7⟩
      obtain ⟨⟨v1, v2⟩, s', hs', hm2⟩ := hm'
      simp only [rn_l, if_pos k] at hp
      subst c1
      rw [nI_pred]
      by_cases z : vf_f kd ct a_parts a_fieldValues c e.2.2.2.2.2 = 0
      · rw [if_pos z] at hp
        obtain ⟨n, hn⟩ := ih fc' fn' cn' s' hs' b1 hm2 (by omega) hp
        exact ⟨n + 1, xk_fr hV (by omega) v1 v2 c5 (fun w => absurd z w) (fun _ => hn)⟩
      · rw [if_neg z] at hp
        exact ⟨1, xk_fr hV (by omega) v1 v2 c5 (fun _ => hp) (fun w => absurd w z)⟩
    · have hm' : ∃ s' hs', rn_m M TP ST nv es s' hs' := by
        rcases hm with ⟨g1, _⟩ | ⟨g1, g2, g3, g4, g5, g6, g7⟩
        · omega
        · exact ⟨_, _, g7⟩
      obtain ⟨s', hs', hm2⟩ := hm'
      have tv := rn_tv r1 r2 es s' hs' hm2
      simp only [rn_l, if_neg (show ¬ e.1 = 6 from by omega)] at hp
      subst c1
      rw [nI_pred]
      by_cases z : vf_f kd ct a_parts a_fieldValues c (rn_t root es) = 0
      · obtain ⟨n, hn⟩ := ih fc' fn' cn' s' hs' b1 hm2 (by omega) hp
        exact ⟨n + 1, xk_fr hV (by omega) tv.1 tv.2 c3 (fun w => absurd z w) (fun _ => hn)⟩
      · rw [rn_lt root _ es z] at hp
        exact ⟨1, xk_fr hV (by omega) tv.1 tv.2 c3 (fun _ => hp) (fun w => absurd w z)⟩
    · have hm' : ∃ s' hs', rn_m M TP ST nv es s' hs' := by
        rcases hm with ⟨g1, g2, g3, g4, g5, g6, g7, g8⟩ | ⟨g1, _⟩
        · exact ⟨_, _, g8⟩
        · omega
      obtain ⟨s', hs', hm2⟩ := hm'
      simp only [rn_l, if_neg (show ¬ e.1 = 6 from by omega)] at hp
      subst c1
      exact ih fc fn' cn' s' hs' b1 hm2 h5 hp
theorem xk_v {post : Int32 → Prop} {c : Int32} (hV : vl_R nv kd ct a_valueKind a_amount a_parts a_fieldValues b_vKind b_vNum b_vCnt b_vStr b_vItem b_vKey b_vVal) (r1 : 1 ≤ root) (r2 : root ≤ nv) {es : List (Nat × Nat × Nat × Nat × Nat × Nat)} {fc fn cn s : Nat} {hs : List Nat} (h : rn_s PS kd root a_frameValue a_frameList a_frameNext a_frameBody b_fv b_cKind b_cSlot b_cTok b_cVal b_cIdx es fc fn cn) (hm : rn_m M TP ST nv es s hs) (h5 : fc ≤ 5) (hp : post (lk_v root kd ct a_parts a_fieldValues es c)) : wpX_lookUp post (f_openMarkLength, f_closeMarkLength, f_openCount, f_compileFrom, f_compileTo, nI nv, f_outCap, f_outCount, nI fc, f_valueTextLength, f_renderAt, f_renderTo, f_returnAt, f_finished, f_overflowed, a_text, a_cellKind, a_cellName, a_tagEnd, a_sectionEnd, a_textLength, a_slotStatus, a_slotError, a_openMark, a_closeMark, a_openTags, a_valueKind, a_amount, a_parts, a_fieldValues, a_out, a_frameValue, a_frameList, a_frameNext, a_frameBody, a_valueText) c := by
  have pos := rn_sn es fc fn cn h
  unfold lk_v at hp
  unfold wpX_lookUp
  by_cases z : c = 46
  · rw [if_pos z] at hp
    refine br_t z (br_f (nI_nle (by omega) (by omega)) ?_)
    rw [la_s (by omega), nI_clamp (by omega), (rn_st es fc fn cn h).1]
    exact ⟨vp_in_nI (by omega) (by omega), hp⟩
  · rw [if_neg z] at hp
    exact br_f z (nm_e (xk_l hV r1 r2 es fc fn cn s hs h hm h5 hp))
theorem yk_fr {post : Int32 → Prop} {c : Int32} {v i n : Nat} (hV : vl_R nv kd ct a_valueKind a_amount a_parts a_fieldValues b_vKind b_vNum b_vCnt b_vStr b_vItem b_vKey b_vVal) (hi : i < 8) (hv1 : 1 ≤ v) (hv2 : v ≤ nv) (hf : b_fv i = nI v) (h1 : ¬ vf_f kd ct a_parts a_fieldValues c v = 0 → post (vf_f kd ct a_parts a_fieldValues c v)) (h0 : vf_f kd ct a_parts a_fieldValues c v = 0 → wY_lookup_36 post c g_ol g_cl g_newOl g_newCl g_tagName g_parseErr g_openCount (nI nv) g_outLen g_outCap g_fn g_cn b_text b_len b_stat b_errPos b_removed b_tType b_tA b_tB b_tName b_tMatch b_tCount b_oc b_cc b_newO b_newC b_openName b_openTok b_vKind b_vNum b_vCnt b_vStr b_vItem b_vKey b_vVal b_out b_fv b_cKind b_cSlot b_cTok b_cVal b_cIdx b_dig n (nI i - 1)) : wY_lookup_36 post c g_ol g_cl g_newOl g_newCl g_tagName g_parseErr g_openCount (nI nv) g_outLen g_outCap g_fn g_cn b_text b_len b_stat b_errPos b_removed b_tType b_tA b_tB b_tName b_tMatch b_tCount b_oc b_cc b_newO b_newC b_openName b_openTok b_vKind b_vNum b_vCnt b_vStr b_vItem b_vKey b_vVal b_out b_fv b_cKind b_cSlot b_cTok b_cVal b_cIdx b_dig (n + 1) (nI i) := by
  obtain ⟨j, rfl⟩ : ∃ j, v = j + 1 := ⟨v - 1, by omega⟩
  obtain ⟨g1, g2, g3, g4, g5, _⟩ := hV.2 j (by omega)
  refine br_f (nI_pos (by omega)) ⟨vp_in_nI hi (by omega), nm_r (e' := nI (j + 1)) (by rw [nI_clamp (by omega)]; exact hf) (yl_kin hV.1 (by omega) g5 ?_)⟩
  refine pk_eq (kd (j + 1)) 6 (fun z => yl_fof hV (by omega) ⟨fun w => nm_r (Int32.sub_eq_add_neg _ _).symm (h0 w), h1⟩) (fun z => nm_r (Int32.sub_eq_add_neg _ _).symm (h0 ?_))
  unfold vf_f
  rw [if_neg z]
theorem yk_l {post : Int32 → Prop} {c : Int32} (hV : vl_R nv kd ct a_valueKind a_amount a_parts a_fieldValues b_vKind b_vNum b_vCnt b_vStr b_vItem b_vKey b_vVal) (r1 : 1 ≤ root) (r2 : root ≤ nv) : ∀ (es : List (Nat × Nat × Nat × Nat × Nat × Nat)) (fc fn cn s : Nat) (hs : List Nat), rn_s PS kd root a_frameValue a_frameList a_frameNext a_frameBody b_fv b_cKind b_cSlot b_cTok b_cVal b_cIdx es fc fn cn → rn_m M TP ST nv es s hs → fn ≤ 8 → post (rn_l root (vf_f kd ct a_parts a_fieldValues c) es) → ∃ n, wY_lookup_36 post c g_ol g_cl g_newOl g_newCl g_tagName g_parseErr g_openCount (nI nv) g_outLen g_outCap g_fn g_cn b_text b_len b_stat b_errPos b_removed b_tType b_tA b_tB b_tName b_tMatch b_tCount b_oc b_cc b_newO b_newC b_openName b_openTok b_vKind b_vNum b_vCnt b_vStr b_vItem b_vKey b_vVal b_out b_fv b_cKind b_cSlot b_cTok b_cVal b_cIdx b_dig n (nI fn - 1) := by
  intro es
  induction es with
  | nil =>
    intro fc fn cn s hs h hm h5 hp
    obtain ⟨a1, a2, a3, a4, a5⟩ := h
    subst a2
    refine ⟨2, yk_fr (i := 0) hV (by omega) r1 r2 a5 (fun _ => hp) (fun z => br_t (by decide) ?_)⟩
    simp only [rn_l, z] at hp
    exact hp
  | cons e es ih =>
    intro fc fn cn s hs h hm h5 hp
    obtain ⟨fc', fn', cn', b1, b2, b3, b4, b5, b6⟩ := h
    have hm' : ∃ s' hs', rn_m M TP ST nv es s' hs' := by
      rcases hm with ⟨g1, g2, g3, g4, g5, g6, g7, g8⟩ | ⟨g1, g2, g3, g4, g5, g6, g7⟩
      · exact ⟨_, _, g8⟩
      · exact ⟨_, _, g7⟩
    obtain ⟨s', hs', hm2⟩ := hm'
    rcases b6 with ⟨k, c1, c2, c3, c4, c5, c6, c7⟩ | ⟨k, c1, c2, c3, c4⟩ | ⟨k, c1, c2⟩
    · have hv : 1 ≤ e.2.2.2.2.2 ∧ e.2.2.2.2.2 ≤ nv := by
        rcases hm with ⟨g1, _⟩ | ⟨g1, g2, g3, g4, g5, g6, g7⟩
        · omega
        · exact (g6 k).2
      simp only [rn_l, if_pos k] at hp
      subst c2
      rw [nI_pred]
      by_cases z : vf_f kd ct a_parts a_fieldValues c e.2.2.2.2.2 = 0
      · rw [if_pos z] at hp
        obtain ⟨n, hn⟩ := ih fc' fn' cn' s' hs' b1 hm2 (by omega) hp
        exact ⟨n + 1, yk_fr hV (by omega) hv.1 hv.2 c6 (fun w => absurd z w) (fun _ => hn)⟩
      · rw [if_neg z] at hp
        exact ⟨1, yk_fr hV (by omega) hv.1 hv.2 c6 (fun _ => hp) (fun w => absurd w z)⟩
    · simp only [rn_l, if_neg (show ¬ e.1 = 6 from by omega)] at hp
      subst c2
      exact ih fc' fn cn' s' hs' b1 hm2 h5 hp
    · simp only [rn_l, if_neg (show ¬ e.1 = 6 from by omega)] at hp
      subst c2
      exact ih fc' fn cn' s' hs' b1 hm2 h5 hp
theorem yk_v {post : Int32 → Prop} {c : Int32} (hV : vl_R nv kd ct a_valueKind a_amount a_parts a_fieldValues b_vKind b_vNum b_vCnt b_vStr b_vItem b_vKey b_vVal) (r1 : 1 ≤ root) (r2 : root ≤ nv) {es : List (Nat × Nat × Nat × Nat × Nat × Nat)} {fc fn cn s : Nat} {hs : List Nat} (h : rn_s PS kd root a_frameValue a_frameList a_frameNext a_frameBody b_fv b_cKind b_cSlot b_cTok b_cVal b_cIdx es fc fn cn) (hm : rn_m M TP ST nv es s hs) (h5 : fn ≤ 8) (hp : post (lk_v root kd ct a_parts a_fieldValues es c)) : wpY_lookup post (g_ol, g_cl, g_newOl, g_newCl, g_tagName, g_parseErr, g_openCount, nI nv, g_outLen, g_outCap, nI fn, g_cn, b_text, b_len, b_stat, b_errPos, b_removed, b_tType, b_tA, b_tB, b_tName, b_tMatch, b_tCount, b_oc, b_cc, b_newO, b_newC, b_openName, b_openTok, b_vKind, b_vNum, b_vCnt, b_vStr, b_vItem, b_vKey, b_vVal, b_out, b_fv, b_cKind, b_cSlot, b_cTok, b_cVal, b_cIdx, b_dig) c := by
  have pos := rn_sn es fc fn cn h
  unfold lk_v at hp
  unfold wpY_lookup
  by_cases z : c = 46
  · rw [if_pos z] at hp
    refine br_t z (br_f (nI_nle (by omega) (by omega)) ?_)
    rw [la_s (by omega), nI_clamp (by omega), (rn_st es fc fn cn h).2]
    exact ⟨vp_in_nI (by omega) (by omega), hp⟩
  · rw [if_neg z] at hp
    exact br_f z (nm_e (yk_l hV r1 r2 es fc fn cn s hs h hm h5 hp))
/-- truthy -/
def tr_P (kd ct : Nat → Nat) (v : Nat) : Prop := kd v ≠ 1 ∧ (kd v = 5 → ct v ≠ 0)
theorem xk_f {post : Int32 → Prop} (hV : vl_R nv kd ct a_valueKind a_amount a_parts a_fieldValues b_vKind b_vNum b_vCnt b_vStr b_vItem b_vKey b_vVal) {j : Nat} (hj : j < nv) (h1 : tr_P kd ct (j + 1) → post 0) (h0 : ¬ tr_P kd ct (j + 1) → post 1) : wpX_isFalsey post (f_openMarkLength, f_closeMarkLength, f_openCount, f_compileFrom, f_compileTo, nI nv, f_outCap, f_outCount, f_frameCount, f_valueTextLength, f_renderAt, f_renderTo, f_returnAt, f_finished, f_overflowed, a_text, a_cellKind, a_cellName, a_tagEnd, a_sectionEnd, a_textLength, a_slotStatus, a_slotError, a_openMark, a_closeMark, a_openTags, a_valueKind, a_amount, a_parts, a_fieldValues, a_out, a_frameValue, a_frameList, a_frameNext, a_frameBody, a_valueText) (nI (j + 1)) := by
  obtain ⟨g1, g2, g3, g4, g5, g6, g7, g8, _⟩ := hV.2 j hj
  have hnv := hV.1
  have n0 : ¬ nI (kd (j + 1)) = 0 := nI_ne0 (by omega) (by omega)
  unfold wpX_isFalsey
  refine xl_kin hnv hj g4 (pk_eq (kd (j + 1)) 5 (fun z => ⟨vp_in_nI (by omega) (by omega), ?_⟩) (fun z => ?_))
  · rw [nI_clamp (by omega), g8 (by omega)]
    refine pk_eq (ct (j + 1)) 0 (fun w => br_f n0 (br_f (fun y => by have := la_im (b := 1) y (by omega) (by omega); omega) (br_f (by decide) (h0 (fun y => y.2 z w))))) (fun w => br_f n0 (br_f (fun y => by have := la_im (b := 1) y (by omega) (by omega); omega) (br_t rfl (h1 ⟨by omega, fun _ => w⟩))))
  · refine br_f n0 (pk_eq (kd (j + 1)) 1 (fun w => h0 (fun y => y.1 w)) (fun w => br_t rfl (h1 ⟨w, fun y => absurd y z⟩)))
theorem xk_f0 {post : Int32 → Prop} (h : post 1) : wpX_isFalsey post (f_openMarkLength, f_closeMarkLength, f_openCount, f_compileFrom, f_compileTo, nI nv, f_outCap, f_outCount, f_frameCount, f_valueTextLength, f_renderAt, f_renderTo, f_returnAt, f_finished, f_overflowed, a_text, a_cellKind, a_cellName, a_tagEnd, a_sectionEnd, a_textLength, a_slotStatus, a_slotError, a_openMark, a_closeMark, a_openTags, a_valueKind, a_amount, a_parts, a_fieldValues, a_out, a_frameValue, a_frameList, a_frameNext, a_frameBody, a_valueText) 0 := by
  unfold wpX_isFalsey
  exact xl_kout (Or.inl (by decide)) (br_f (by decide) (br_t rfl h))
theorem yk_t {post : Int32 → Prop} (hV : vl_R nv kd ct a_valueKind a_amount a_parts a_fieldValues b_vKind b_vNum b_vCnt b_vStr b_vItem b_vKey b_vVal) {j : Nat} (hj : j < nv) (h1 : tr_P kd ct (j + 1) → post 1) (h0 : ¬ tr_P kd ct (j + 1) → post 0) : wpY_truthy post (g_ol, g_cl, g_newOl, g_newCl, g_tagName, g_parseErr, g_openCount, nI nv, g_outLen, g_outCap, g_fn, g_cn, b_text, b_len, b_stat, b_errPos, b_removed, b_tType, b_tA, b_tB, b_tName, b_tMatch, b_tCount, b_oc, b_cc, b_newO, b_newC, b_openName, b_openTok, b_vKind, b_vNum, b_vCnt, b_vStr, b_vItem, b_vKey, b_vVal, b_out, b_fv, b_cKind, b_cSlot, b_cTok, b_cVal, b_cIdx, b_dig) (nI (j + 1)) := by
  obtain ⟨g1, g2, g3, g4, g5, g6, g7, g8, _⟩ := hV.2 j hj
  have hnv := hV.1
  unfold wpY_truthy
  refine yl_kin hnv hj g5 (br_f (nI_ne0 (by omega) (by omega)) (pk_eq (kd (j + 1)) 1 (fun w => h0 (fun y => y.1 w)) (fun w => pk_eq (kd (j + 1)) 5 (fun z => ⟨by rw [nI_pred]; exact vp_in_nI (by omega) (by omega), ?_⟩) (fun z => h1 ⟨w, fun y => absurd y z⟩))))
  rw [nI_pred, nI_clamp (by omega), g6]
  exact pk_eq (ct (j + 1)) 0 (fun y => h0 (fun x => x.2 z y)) (fun y => h1 ⟨w, fun _ => y⟩)
theorem yk_t0 {post : Int32 → Prop} (h : post 0) : wpY_truthy post (g_ol, g_cl, g_newOl, g_newCl, g_tagName, g_parseErr, g_openCount, nI nv, g_outLen, g_outCap, g_fn, g_cn, b_text, b_len, b_stat, b_errPos, b_removed, b_tType, b_tA, b_tB, b_tName, b_tMatch, b_tCount, b_oc, b_cc, b_newO, b_newC, b_openName, b_openTok, b_vKind, b_vNum, b_vCnt, b_vStr, b_vItem, b_vKey, b_vVal, b_out, b_fv, b_cKind, b_cSlot, b_cTok, b_cVal, b_cIdx, b_dig) 0 := by
  unfold wpY_truthy
  exact yl_kout (Or.inl (by decide)) (br_t rfl h)
end LLLK
