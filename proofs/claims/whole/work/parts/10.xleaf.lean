section LLX
variable {f_openMarkLength f_closeMarkLength f_openCount f_compileFrom f_compileTo f_valueCount f_outCap f_outCount f_frameCount f_valueTextLength f_renderAt f_renderTo f_returnAt f_finished f_overflowed : Int32} {a_text a_cellKind a_cellName a_tagEnd a_sectionEnd a_textLength a_slotStatus a_slotError a_openMark a_closeMark a_openTags a_valueKind a_amount a_parts a_fieldValues a_out a_frameValue a_frameList a_frameNext a_frameBody a_valueText : Nat → Int32}
theorem xl_slot {post : Int32 → Prop} {s : Nat} (hs : s < 4) (h : post 1) : wpX_isSlot post (f_openMarkLength, f_closeMarkLength, f_openCount, f_compileFrom, f_compileTo, f_valueCount, f_outCap, f_outCount, f_frameCount, f_valueTextLength, f_renderAt, f_renderTo, f_returnAt, f_finished, f_overflowed, a_text, a_cellKind, a_cellName, a_tagEnd, a_sectionEnd, a_textLength, a_slotStatus, a_slotError, a_openMark, a_closeMark, a_openTags, a_valueKind, a_amount, a_parts, a_fieldValues, a_out, a_frameValue, a_frameList, a_frameNext, a_frameBody, a_valueText) (nI s) :=
  br_f (nI_pos (by omega)) (br_f (nI_ge (b := 4) hs (by decide)) h)
theorem xl_nslot {post : Int32 → Prop} {x : Int32} (hx : x < 0 ∨ nI 4 ≤ x) (h : post 0) : wpX_isSlot post (f_openMarkLength, f_closeMarkLength, f_openCount, f_compileFrom, f_compileTo, f_valueCount, f_outCap, f_outCount, f_frameCount, f_valueTextLength, f_renderAt, f_renderTo, f_returnAt, f_finished, f_overflowed, a_text, a_cellKind, a_cellName, a_tagEnd, a_sectionEnd, a_textLength, a_slotStatus, a_slotError, a_openMark, a_closeMark, a_openTags, a_valueKind, a_amount, a_parts, a_fieldValues, a_out, a_frameValue, a_frameList, a_frameNext, a_frameBody, a_valueText) x := by
  rcases hx with h1 | h1
  · exact br_t h1 h
  · exact br_c (fun _ => h) (fun _ => br_t h1 h)
theorem xl_tend {post : Int32 → Prop} {s n : Nat} (hs : s < 4) (hl : a_textLength s = nI n) (h : post (nI (s * 96 + n))) : wpX_textEnd post (f_openMarkLength, f_closeMarkLength, f_openCount, f_compileFrom, f_compileTo, f_valueCount, f_outCap, f_outCount, f_frameCount, f_valueTextLength, f_renderAt, f_renderTo, f_returnAt, f_finished, f_overflowed, a_text, a_cellKind, a_cellName, a_tagEnd, a_sectionEnd, a_textLength, a_slotStatus, a_slotError, a_openMark, a_closeMark, a_openTags, a_valueKind, a_amount, a_parts, a_fieldValues, a_out, a_frameValue, a_frameList, a_frameNext, a_frameBody, a_valueText) (nI s) := by
  refine ⟨vp_in_nI hs (by omega), ?_⟩
  rw [nI_clamp (by omega), hl, la_m96, nI_add]
  exact h
theorem la_dif {s l f : Nat} (h : f ≤ l) : nI (s + l) - nI (s + f) = nI (l - f) := by
  rw [pk_sub (by omega)]
  exact congrArg nI (by omega)
section TXT
variable {s : Nat} {T : Nat → Int32}
theorem xl_sp {post : Int32 → Prop} {e : Nat} (hs : s < 4) (hT : ∀ i, i < 96 → a_text (s * 96 + i) = T i) (he : e ≤ 96) : ∀ d i, i + d = e → post (nI (s * 96 + ll_sp T d i)) → wX_skipSpaces_2 post (nI (s * 96 + e)) f_openMarkLength f_closeMarkLength f_openCount f_compileFrom f_compileTo f_valueCount f_outCap f_outCount f_frameCount f_valueTextLength f_renderAt f_renderTo f_returnAt f_finished f_overflowed a_text a_cellKind a_cellName a_tagEnd a_sectionEnd a_textLength a_slotStatus a_slotError a_openMark a_closeMark a_openTags a_valueKind a_amount a_parts a_fieldValues a_out a_frameValue a_frameList a_frameNext a_frameBody a_valueText (d + 1) (nI (s * 96 + i)) := by
  intro d
  induction d with
  | zero => intro i hi h; exact br_t (nI_le (by omega) (by omega)) h
  | succ d ih =>
    intro i hi h
    refine br_f (nI_ge (by omega) (by omega)) ⟨vp_in_nI (by omega) (by omega), ?_⟩
    rw [nI_clamp (by omega), hT i (by omega)]
    rw [ll_sp_u] at h
    by_cases z : T i = 32
    · rw [if_pos z] at h
      exact br_t z (nm_r (nI_1 _) (ih (i + 1) (by omega) h))
    · rw [if_neg z] at h
      exact br_f z h
theorem xl_skip {post : Int32 → Prop} {i e : Nat} (hs : s < 4) (hT : ∀ i, i < 96 → a_text (s * 96 + i) = T i) (he : e ≤ 96) (hi : i ≤ e) (h : post (nI (s * 96 + ll_sp T (e - i) i))) : wpX_skipSpaces post (f_openMarkLength, f_closeMarkLength, f_openCount, f_compileFrom, f_compileTo, f_valueCount, f_outCap, f_outCount, f_frameCount, f_valueTextLength, f_renderAt, f_renderTo, f_returnAt, f_finished, f_overflowed, a_text, a_cellKind, a_cellName, a_tagEnd, a_sectionEnd, a_textLength, a_slotStatus, a_slotError, a_openMark, a_closeMark, a_openTags, a_valueKind, a_amount, a_parts, a_fieldValues, a_out, a_frameValue, a_frameList, a_frameNext, a_frameBody, a_valueText) (nI (s * 96 + i)) (nI (s * 96 + e)) := ⟨_, xl_sp hs hT he (e - i) i (by omega) h⟩
theorem xl_sb {post : Int32 → Prop} {lo : Nat} (hs : s < 4) (hT : ∀ i, i < 96 → a_text (s * 96 + i) = T i) : ∀ d j, lo + d = j → j ≤ 96 → post (nI (s * 96 + ll_sb T d j)) → wX_skipSpacesBack_2 post (nI (s * 96 + lo)) f_openMarkLength f_closeMarkLength f_openCount f_compileFrom f_compileTo f_valueCount f_outCap f_outCount f_frameCount f_valueTextLength f_renderAt f_renderTo f_returnAt f_finished f_overflowed a_text a_cellKind a_cellName a_tagEnd a_sectionEnd a_textLength a_slotStatus a_slotError a_openMark a_closeMark a_openTags a_valueKind a_amount a_parts a_fieldValues a_out a_frameValue a_frameList a_frameNext a_frameBody a_valueText (d + 1) (nI (s * 96 + j)) := by
  intro d
  induction d with
  | zero => intro j hi hj h; exact br_t (nI_le (by omega) (by omega)) h
  | succ d ih =>
    intro j hi hj h
    have e1 : nI (s * 96 + j) - 1 = nI (s * 96 + (j - 1)) := by rw [la_s (by omega)]; exact congrArg nI (by omega)
    have e2 : nI (s * 96 + j) + (-1) = nI (s * 96 + (j - 1)) := by rw [la_m (by omega)]; exact congrArg nI (by omega)
    refine br_f (nI_ge (by omega) (by omega)) ?_
    rw [e1, nI_clamp (by omega), hT (j - 1) (by omega)]
    refine ⟨vp_in_nI (by omega) (by omega), ?_⟩
    rw [ll_sb_u] at h
    by_cases z : T (j - 1) = 32
    · rw [if_pos z] at h
      exact br_t z (nm_r e2 (ih (j - 1) (by omega) (by omega) h))
    · rw [if_neg z] at h
      exact br_f z h
theorem xl_skipb {post : Int32 → Prop} {lo j : Nat} (hs : s < 4) (hT : ∀ i, i < 96 → a_text (s * 96 + i) = T i) (hj : j ≤ 96) (hi : lo ≤ j) (h : post (nI (s * 96 + ll_sb T (j - lo) j))) : wpX_skipSpacesBack post (f_openMarkLength, f_closeMarkLength, f_openCount, f_compileFrom, f_compileTo, f_valueCount, f_outCap, f_outCount, f_frameCount, f_valueTextLength, f_renderAt, f_renderTo, f_returnAt, f_finished, f_overflowed, a_text, a_cellKind, a_cellName, a_tagEnd, a_sectionEnd, a_textLength, a_slotStatus, a_slotError, a_openMark, a_closeMark, a_openTags, a_valueKind, a_amount, a_parts, a_fieldValues, a_out, a_frameValue, a_frameList, a_frameNext, a_frameBody, a_valueText) (nI (s * 96 + lo)) (nI (s * 96 + j)) := ⟨_, xl_sb hs hT (j - lo) j (by omega) hj h⟩
theorem xl_sm {post : Int32 → Prop} {e : Nat} (hs : s < 4) (hT : ∀ i, i < 96 → a_text (s * 96 + i) = T i) (he : e ≤ 96) : ∀ d i, i + d = e → post (nI (s * 96 + ll_sm T d i)) → wX_skipMarkChars_2 post (nI (s * 96 + e)) f_openMarkLength f_closeMarkLength f_openCount f_compileFrom f_compileTo f_valueCount f_outCap f_outCount f_frameCount f_valueTextLength f_renderAt f_renderTo f_returnAt f_finished f_overflowed a_text a_cellKind a_cellName a_tagEnd a_sectionEnd a_textLength a_slotStatus a_slotError a_openMark a_closeMark a_openTags a_valueKind a_amount a_parts a_fieldValues a_out a_frameValue a_frameList a_frameNext a_frameBody a_valueText (d + 1) (nI (s * 96 + i)) := by
  intro d
  induction d with
  | zero => intro i hi h; exact br_t (nI_le (by omega) (by omega)) h
  | succ d ih =>
    intro i hi h
    refine br_f (nI_ge (by omega) (by omega)) ⟨vp_in_nI (by omega) (by omega), ?_⟩
    rw [nI_clamp (by omega), hT i (by omega)]
    rw [ll_sm_u] at h
    by_cases z : T i ≤ 32
    · rw [if_neg (fun y => absurd z (Int32.not_le.mpr y.1))] at h
      exact br_t z h
    · refine br_f z ⟨vp_in_nI (by omega) (by omega), ?_⟩
      by_cases z2 : T i = 61
      · rw [if_neg (fun y => y.2 z2)] at h
        exact br_t z2 h
      · rw [if_pos ⟨Int32.not_le.mp z, z2⟩] at h
        exact br_f z2 (nm_r (nI_1 _) (ih (i + 1) (by omega) h))
theorem xl_skipm {post : Int32 → Prop} {i e : Nat} (hs : s < 4) (hT : ∀ i, i < 96 → a_text (s * 96 + i) = T i) (he : e ≤ 96) (hi : i ≤ e) (h : post (nI (s * 96 + ll_sm T (e - i) i))) : wpX_skipMarkChars post (f_openMarkLength, f_closeMarkLength, f_openCount, f_compileFrom, f_compileTo, f_valueCount, f_outCap, f_outCount, f_frameCount, f_valueTextLength, f_renderAt, f_renderTo, f_returnAt, f_finished, f_overflowed, a_text, a_cellKind, a_cellName, a_tagEnd, a_sectionEnd, a_textLength, a_slotStatus, a_slotError, a_openMark, a_closeMark, a_openTags, a_valueKind, a_amount, a_parts, a_fieldValues, a_out, a_frameValue, a_frameList, a_frameNext, a_frameBody, a_valueText) (nI (s * 96 + i)) (nI (s * 96 + e)) := ⟨_, xl_sm hs hT he (e - i) i (by omega) h⟩
theorem xl_only {post : Int32 → Prop} {lo hi : Nat} (hs : s < 4) (hT : ∀ i, i < 96 → a_text (s * 96 + i) = T i) (hh : hi ≤ 96) (hl : lo ≤ hi) (h : post (ll_on T lo hi)) : wpX_onlyChar post (f_openMarkLength, f_closeMarkLength, f_openCount, f_compileFrom, f_compileTo, f_valueCount, f_outCap, f_outCount, f_frameCount, f_valueTextLength, f_renderAt, f_renderTo, f_returnAt, f_finished, f_overflowed, a_text, a_cellKind, a_cellName, a_tagEnd, a_sectionEnd, a_textLength, a_slotStatus, a_slotError, a_openMark, a_closeMark, a_openTags, a_valueKind, a_amount, a_parts, a_fieldValues, a_out, a_frameValue, a_frameList, a_frameNext, a_frameBody, a_valueText) (nI (s * 96 + lo)) (nI (s * 96 + hi)) := by
  have b1 := ll_of_b (T := T) hl
  have b2 := ll_ol_b (T := T) hl
  refine xl_skip hs hT hh hl (xl_skipb hs hT hh b1.2 ?_)
  show ((nI (s * 96 + ll_ol T lo hi) - nI (s * 96 + ll_of T lo hi) = 1 → vp_in (nI (s * 96 + ll_of T lo hi)) 384 ∧ post (a_text (nI (s * 96 + ll_of T lo hi)).toNatClampNeg)) ∧ (¬ nI (s * 96 + ll_ol T lo hi) - nI (s * 96 + ll_of T lo hi) = 1 → post (-1)))
  rw [la_dif b2.1]
  unfold ll_on at h
  refine pk_eq (ll_ol T lo hi - ll_of T lo hi) 1 (fun z => ⟨vp_in_nI (by omega) (by omega), ?_⟩) (fun z => ?_)
  · rw [if_pos (by omega)] at h
    rw [nI_clamp (by omega), hT _ (by omega)]
    exact h
  · rw [if_neg (by omega)] at h
    exact h
theorem xl_oc_openMark {post : Int32 → Prop} {l x : Nat} (hs : s < 4) (hT : ∀ i, i < 96 → a_text (s * 96 + i) = T i) (hl : l ≤ 3) (hx : x + l ≤ 96) : ∀ d i, i + d = l → (ll_oc T a_openMark x d i = true → post 1) → (ll_oc T a_openMark x d i = false → post 0) → wX_occursAt__openMark_3 post (nI l) (nI (s * 96 + x)) f_openMarkLength f_closeMarkLength f_openCount f_compileFrom f_compileTo f_valueCount f_outCap f_outCount f_frameCount f_valueTextLength f_renderAt f_renderTo f_returnAt f_finished f_overflowed a_text a_cellKind a_cellName a_tagEnd a_sectionEnd a_textLength a_slotStatus a_slotError a_openMark a_closeMark a_openTags a_valueKind a_amount a_parts a_fieldValues a_out a_frameValue a_frameList a_frameNext a_frameBody a_valueText (d + 1) (nI i) := by
  intro d
  induction d with
  | zero => intro i hi h1 h0; exact br_t (nI_le (by omega) (by omega)) (h1 rfl)
  | succ d ih =>
    intro i hi h1 h0
    refine br_f (nI_ge (by omega) (by omega)) ?_
    rw [nI_add, nI_clamp (by omega), nI_clamp (by omega), show s * 96 + x + i = s * 96 + (x + i) from by omega, hT (x + i) (by omega)]
    refine ⟨vp_in_nI (by omega) (by omega), vp_in_nI (by omega) (by omega), ?_⟩
    rw [ll_oc_s] at h1 h0
    by_cases z : T (x + i) = a_openMark i
    · rw [if_pos z] at h1 h0
      exact br_t z (nm_r (nI_1 _) (ih (i + 1) (by omega) h1 h0))
    · rw [if_neg z] at h0
      exact br_f z (h0 rfl)
theorem xl_fd_openMark {post : Int32 → Prop} {l n : Nat} (hs : s < 4) (hT : ∀ i, i < 96 → a_text (s * 96 + i) = T i) (hl : l ≤ 3) (hn : n ≤ 96) : ∀ d x, x + d = n + 1 → post (ll_oI (s * 96) (ll_fd T a_openMark l n d x)) → wX_findMark__openMark_3 post (nI l) f_openMarkLength f_closeMarkLength f_openCount f_compileFrom (nI (s * 96 + n)) f_valueCount f_outCap f_outCount f_frameCount f_valueTextLength f_renderAt f_renderTo f_returnAt f_finished f_overflowed a_text a_cellKind a_cellName a_tagEnd a_sectionEnd a_textLength a_slotStatus a_slotError a_openMark a_closeMark a_openTags a_valueKind a_amount a_parts a_fieldValues a_out a_frameValue a_frameList a_frameNext a_frameBody a_valueText (d + 1) (nI (s * 96 + x)) := by
  intro d
  induction d with
  | zero =>
    intro x hx h
    refine br_t ?_ h
    rw [nI_add]
    exact nI_lt (by omega) (by omega)
  | succ d ih =>
    intro x hx h
    rw [ll_fd_u] at h
    by_cases z : x + l ≤ n
    · rw [if_pos z] at h
      refine br_f (by rw [nI_add]; exact nI_nlt (by omega) (by omega)) ⟨_, xl_oc_openMark hs hT hl (by omega) l 0 (by omega) (fun y => ?_) (fun y => ?_)⟩
      · rw [if_pos y] at h
        exact br_f (by decide) h
      · rw [if_neg (by rw [y]; decide)] at h
        exact br_t rfl (nm_r (nI_1 _) (ih (x + 1) (by omega) h))
    · rw [if_neg z] at h
      refine br_t ?_ h
      rw [nI_add]
      exact nI_lt (by omega) (by omega)
theorem xl_find_openMark {post : Int32 → Prop} {l n x : Nat} (hs : s < 4) (hT : ∀ i, i < 96 → a_text (s * 96 + i) = T i) (hl : l ≤ 3) (hn : n ≤ 96) (hx : x ≤ n) (h : post (ll_oI (s * 96) (ll_fd T a_openMark l n (n + 1 - x) x))) : wpX_findMark__openMark post (f_openMarkLength, f_closeMarkLength, f_openCount, f_compileFrom, nI (s * 96 + n), f_valueCount, f_outCap, f_outCount, f_frameCount, f_valueTextLength, f_renderAt, f_renderTo, f_returnAt, f_finished, f_overflowed, a_text, a_cellKind, a_cellName, a_tagEnd, a_sectionEnd, a_textLength, a_slotStatus, a_slotError, a_openMark, a_closeMark, a_openTags, a_valueKind, a_amount, a_parts, a_fieldValues, a_out, a_frameValue, a_frameList, a_frameNext, a_frameBody, a_valueText) (nI l) (nI (s * 96 + x)) := ⟨_, xl_fd_openMark hs hT hl hn (n + 1 - x) x (by omega) h⟩
theorem xl_cm_openMark {post : SX → Prop} {l x : Nat} (hs : s < 4) (hT : ∀ i, i < 96 → a_text (s * 96 + i) = T i) (hl : l ≤ 3) (hx : x + l ≤ 96) : ∀ d i, i + d = l → post (f_openMarkLength, f_closeMarkLength, f_openCount, f_compileFrom, f_compileTo, f_valueCount, f_outCap, f_outCount, f_frameCount, f_valueTextLength, f_renderAt, f_renderTo, f_returnAt, f_finished, f_overflowed, a_text, a_cellKind, a_cellName, a_tagEnd, a_sectionEnd, a_textLength, a_slotStatus, a_slotError, cy_f a_openMark (fun j => T (x + j)) l, a_closeMark, a_openTags, a_valueKind, a_amount, a_parts, a_fieldValues, a_out, a_frameValue, a_frameList, a_frameNext, a_frameBody, a_valueText) → wX_copyMark__openMark_3 post (nI l) (nI (s * 96 + x)) f_openMarkLength f_closeMarkLength f_openCount f_compileFrom f_compileTo f_valueCount f_outCap f_outCount f_frameCount f_valueTextLength f_renderAt f_renderTo f_returnAt f_finished f_overflowed (d + 1) (nI i) a_text a_cellKind a_cellName a_tagEnd a_sectionEnd a_textLength a_slotStatus a_slotError (cy_f a_openMark (fun j => T (x + j)) i) a_closeMark a_openTags a_valueKind a_amount a_parts a_fieldValues a_out a_frameValue a_frameList a_frameNext a_frameBody a_valueText := by
  intro d
  induction d with
  | zero =>
    intro i hi h
    have e : i = l := by omega
    subst e
    exact br_t (nI_le (by omega) (by omega)) h
  | succ d ih =>
    intro i hi h
    refine br_f (nI_ge (by omega) (by omega)) ?_
    rw [nI_add, nI_clamp (by omega), nI_clamp (by omega), show s * 96 + x + i = s * 96 + (x + i) from by omega, hT (x + i) (by omega)]
    exact ⟨vp_in_nI (by omega) (by omega), vp_in_nI (by omega) (by omega), nm_r (cy_s (g := fun j => T (x + j))) (nm_r (nI_1 _) (ih (i + 1) (by omega) h))⟩
theorem xl_copy_openMark {post : SX → Prop} {l x : Nat} (hs : s < 4) (hT : ∀ i, i < 96 → a_text (s * 96 + i) = T i) (hl : l ≤ 3) (hx : x + l ≤ 96) (h : post (f_openMarkLength, f_closeMarkLength, f_openCount, f_compileFrom, f_compileTo, f_valueCount, f_outCap, f_outCount, f_frameCount, f_valueTextLength, f_renderAt, f_renderTo, f_returnAt, f_finished, f_overflowed, a_text, a_cellKind, a_cellName, a_tagEnd, a_sectionEnd, a_textLength, a_slotStatus, a_slotError, cy_f a_openMark (fun j => T (x + j)) l, a_closeMark, a_openTags, a_valueKind, a_amount, a_parts, a_fieldValues, a_out, a_frameValue, a_frameList, a_frameNext, a_frameBody, a_valueText)) : wpX_copyMark__openMark post (f_openMarkLength, f_closeMarkLength, f_openCount, f_compileFrom, f_compileTo, f_valueCount, f_outCap, f_outCount, f_frameCount, f_valueTextLength, f_renderAt, f_renderTo, f_returnAt, f_finished, f_overflowed, a_text, a_cellKind, a_cellName, a_tagEnd, a_sectionEnd, a_textLength, a_slotStatus, a_slotError, a_openMark, a_closeMark, a_openTags, a_valueKind, a_amount, a_parts, a_fieldValues, a_out, a_frameValue, a_frameList, a_frameNext, a_frameBody, a_valueText) (nI l) (nI (s * 96 + x)) := by
  have := xl_cm_openMark (post := post) hs hT hl hx l 0 (by omega) h
  rw [cy_0] at this
  exact ⟨_, this⟩
theorem xl_oc_closeMark {post : Int32 → Prop} {l x : Nat} (hs : s < 4) (hT : ∀ i, i < 96 → a_text (s * 96 + i) = T i) (hl : l ≤ 3) (hx : x + l ≤ 96) : ∀ d i, i + d = l → (ll_oc T a_closeMark x d i = true → post 1) → (ll_oc T a_closeMark x d i = false → post 0) → wX_occursAt__closeMark_3 post (nI l) (nI (s * 96 + x)) f_openMarkLength f_closeMarkLength f_openCount f_compileFrom f_compileTo f_valueCount f_outCap f_outCount f_frameCount f_valueTextLength f_renderAt f_renderTo f_returnAt f_finished f_overflowed a_text a_cellKind a_cellName a_tagEnd a_sectionEnd a_textLength a_slotStatus a_slotError a_openMark a_closeMark a_openTags a_valueKind a_amount a_parts a_fieldValues a_out a_frameValue a_frameList a_frameNext a_frameBody a_valueText (d + 1) (nI i) := by
  intro d
  induction d with
  | zero => intro i hi h1 h0; exact br_t (nI_le (by omega) (by omega)) (h1 rfl)
  | succ d ih =>
    intro i hi h1 h0
    refine br_f (nI_ge (by omega) (by omega)) ?_
    rw [nI_add, nI_clamp (by omega), nI_clamp (by omega), show s * 96 + x + i = s * 96 + (x + i) from by omega, hT (x + i) (by omega)]
    refine ⟨vp_in_nI (by omega) (by omega), vp_in_nI (by omega) (by omega), ?_⟩
    rw [ll_oc_s] at h1 h0
    by_cases z : T (x + i) = a_closeMark i
    · rw [if_pos z] at h1 h0
      exact br_t z (nm_r (nI_1 _) (ih (i + 1) (by omega) h1 h0))
    · rw [if_neg z] at h0
      exact br_f z (h0 rfl)
theorem xl_fd_closeMark {post : Int32 → Prop} {l n : Nat} (hs : s < 4) (hT : ∀ i, i < 96 → a_text (s * 96 + i) = T i) (hl : l ≤ 3) (hn : n ≤ 96) : ∀ d x, x + d = n + 1 → post (ll_oI (s * 96) (ll_fd T a_closeMark l n d x)) → wX_findMark__closeMark_3 post (nI l) f_openMarkLength f_closeMarkLength f_openCount f_compileFrom (nI (s * 96 + n)) f_valueCount f_outCap f_outCount f_frameCount f_valueTextLength f_renderAt f_renderTo f_returnAt f_finished f_overflowed a_text a_cellKind a_cellName a_tagEnd a_sectionEnd a_textLength a_slotStatus a_slotError a_openMark a_closeMark a_openTags a_valueKind a_amount a_parts a_fieldValues a_out a_frameValue a_frameList a_frameNext a_frameBody a_valueText (d + 1) (nI (s * 96 + x)) := by
  intro d
  induction d with
  | zero =>
    intro x hx h
    refine br_t ?_ h
    rw [nI_add]
    exact nI_lt (by omega) (by omega)
  | succ d ih =>
    intro x hx h
    rw [ll_fd_u] at h
    by_cases z : x + l ≤ n
    · rw [if_pos z] at h
      refine br_f (by rw [nI_add]; exact nI_nlt (by omega) (by omega)) ⟨_, xl_oc_closeMark hs hT hl (by omega) l 0 (by omega) (fun y => ?_) (fun y => ?_)⟩
      · rw [if_pos y] at h
        exact br_f (by decide) h
      · rw [if_neg (by rw [y]; decide)] at h
        exact br_t rfl (nm_r (nI_1 _) (ih (x + 1) (by omega) h))
    · rw [if_neg z] at h
      refine br_t ?_ h
      rw [nI_add]
      exact nI_lt (by omega) (by omega)
theorem xl_find_closeMark {post : Int32 → Prop} {l n x : Nat} (hs : s < 4) (hT : ∀ i, i < 96 → a_text (s * 96 + i) = T i) (hl : l ≤ 3) (hn : n ≤ 96) (hx : x ≤ n) (h : post (ll_oI (s * 96) (ll_fd T a_closeMark l n (n + 1 - x) x))) : wpX_findMark__closeMark post (f_openMarkLength, f_closeMarkLength, f_openCount, f_compileFrom, nI (s * 96 + n), f_valueCount, f_outCap, f_outCount, f_frameCount, f_valueTextLength, f_renderAt, f_renderTo, f_returnAt, f_finished, f_overflowed, a_text, a_cellKind, a_cellName, a_tagEnd, a_sectionEnd, a_textLength, a_slotStatus, a_slotError, a_openMark, a_closeMark, a_openTags, a_valueKind, a_amount, a_parts, a_fieldValues, a_out, a_frameValue, a_frameList, a_frameNext, a_frameBody, a_valueText) (nI l) (nI (s * 96 + x)) := ⟨_, xl_fd_closeMark hs hT hl hn (n + 1 - x) x (by omega) h⟩
theorem xl_cm_closeMark {post : SX → Prop} {l x : Nat} (hs : s < 4) (hT : ∀ i, i < 96 → a_text (s * 96 + i) = T i) (hl : l ≤ 3) (hx : x + l ≤ 96) : ∀ d i, i + d = l → post (f_openMarkLength, f_closeMarkLength, f_openCount, f_compileFrom, f_compileTo, f_valueCount, f_outCap, f_outCount, f_frameCount, f_valueTextLength, f_renderAt, f_renderTo, f_returnAt, f_finished, f_overflowed, a_text, a_cellKind, a_cellName, a_tagEnd, a_sectionEnd, a_textLength, a_slotStatus, a_slotError, a_openMark, cy_f a_closeMark (fun j => T (x + j)) l, a_openTags, a_valueKind, a_amount, a_parts, a_fieldValues, a_out, a_frameValue, a_frameList, a_frameNext, a_frameBody, a_valueText) → wX_copyMark__closeMark_3 post (nI l) (nI (s * 96 + x)) f_openMarkLength f_closeMarkLength f_openCount f_compileFrom f_compileTo f_valueCount f_outCap f_outCount f_frameCount f_valueTextLength f_renderAt f_renderTo f_returnAt f_finished f_overflowed (d + 1) (nI i) a_text a_cellKind a_cellName a_tagEnd a_sectionEnd a_textLength a_slotStatus a_slotError a_openMark (cy_f a_closeMark (fun j => T (x + j)) i) a_openTags a_valueKind a_amount a_parts a_fieldValues a_out a_frameValue a_frameList a_frameNext a_frameBody a_valueText := by
  intro d
  induction d with
  | zero =>
    intro i hi h
    have e : i = l := by omega
    subst e
    exact br_t (nI_le (by omega) (by omega)) h
  | succ d ih =>
    intro i hi h
    refine br_f (nI_ge (by omega) (by omega)) ?_
    rw [nI_add, nI_clamp (by omega), nI_clamp (by omega), show s * 96 + x + i = s * 96 + (x + i) from by omega, hT (x + i) (by omega)]
    exact ⟨vp_in_nI (by omega) (by omega), vp_in_nI (by omega) (by omega), nm_r (cy_s (g := fun j => T (x + j))) (nm_r (nI_1 _) (ih (i + 1) (by omega) h))⟩
theorem xl_copy_closeMark {post : SX → Prop} {l x : Nat} (hs : s < 4) (hT : ∀ i, i < 96 → a_text (s * 96 + i) = T i) (hl : l ≤ 3) (hx : x + l ≤ 96) (h : post (f_openMarkLength, f_closeMarkLength, f_openCount, f_compileFrom, f_compileTo, f_valueCount, f_outCap, f_outCount, f_frameCount, f_valueTextLength, f_renderAt, f_renderTo, f_returnAt, f_finished, f_overflowed, a_text, a_cellKind, a_cellName, a_tagEnd, a_sectionEnd, a_textLength, a_slotStatus, a_slotError, a_openMark, cy_f a_closeMark (fun j => T (x + j)) l, a_openTags, a_valueKind, a_amount, a_parts, a_fieldValues, a_out, a_frameValue, a_frameList, a_frameNext, a_frameBody, a_valueText)) : wpX_copyMark__closeMark post (f_openMarkLength, f_closeMarkLength, f_openCount, f_compileFrom, f_compileTo, f_valueCount, f_outCap, f_outCount, f_frameCount, f_valueTextLength, f_renderAt, f_renderTo, f_returnAt, f_finished, f_overflowed, a_text, a_cellKind, a_cellName, a_tagEnd, a_sectionEnd, a_textLength, a_slotStatus, a_slotError, a_openMark, a_closeMark, a_openTags, a_valueKind, a_amount, a_parts, a_fieldValues, a_out, a_frameValue, a_frameList, a_frameNext, a_frameBody, a_valueText) (nI l) (nI (s * 96 + x)) := by
  have := xl_cm_closeMark (post := post) hs hT hl hx l 0 (by omega) h
  rw [cy_0] at this
  exact ⟨_, this⟩
end TXT
end LLX
