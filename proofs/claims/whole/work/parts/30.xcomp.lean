section LLXC
variable {f_openMarkLength f_closeMarkLength f_openCount f_compileFrom f_compileTo f_valueCount f_outCap f_outCount f_frameCount f_valueTextLength f_renderAt f_renderTo f_returnAt f_finished f_overflowed : Int32} {a_text a_cellKind a_cellName a_tagEnd a_sectionEnd a_textLength a_slotStatus a_slotError a_openMark a_closeMark a_openTags a_valueKind a_amount a_parts a_fieldValues a_out a_frameValue a_frameList a_frameNext a_frameBody a_valueText : Nat → Int32}
theorem xl_ml {post : Int32 → Prop} {l : Nat} {x : Int32} (hx : x = nI l) (hl : l ≤ 96) (h1 : 1 ≤ l → l ≤ 3 → post 1) (h0 : ¬ (1 ≤ l ∧ l ≤ 3) → post 0) : wpX_isMarkLength post (f_openMarkLength, f_closeMarkLength, f_openCount, f_compileFrom, f_compileTo, f_valueCount, f_outCap, f_outCount, f_frameCount, f_valueTextLength, f_renderAt, f_renderTo, f_returnAt, f_finished, f_overflowed, a_text, a_cellKind, a_cellName, a_tagEnd, a_sectionEnd, a_textLength, a_slotStatus, a_slotError, a_openMark, a_closeMark, a_openTags, a_valueKind, a_amount, a_parts, a_fieldValues, a_out, a_frameValue, a_frameList, a_frameNext, a_frameBody, a_valueText) x := by
  subst hx
  exact pk_lt l 1 (fun z => h0 (by omega)) (fun z => pk_lt 3 l (fun w => h0 (by omega)) (fun w => h1 z w))
section TXT
variable {s n q a b : Nat} {T : Nat → Int32}
theorem xl_skip' {post : Int32 → Prop} {i e : Nat} {x y : Int32} (hs : s < 4) (hT : ∀ i, i < 96 → a_text (s * 96 + i) = T i) (he : e ≤ 96) (hi : i ≤ e) (hx : x = nI (s * 96 + i)) (hy : y = nI (s * 96 + e)) (h : post (nI (s * 96 + ll_sp T (e - i) i))) : wpX_skipSpaces post (f_openMarkLength, f_closeMarkLength, f_openCount, f_compileFrom, f_compileTo, f_valueCount, f_outCap, f_outCount, f_frameCount, f_valueTextLength, f_renderAt, f_renderTo, f_returnAt, f_finished, f_overflowed, a_text, a_cellKind, a_cellName, a_tagEnd, a_sectionEnd, a_textLength, a_slotStatus, a_slotError, a_openMark, a_closeMark, a_openTags, a_valueKind, a_amount, a_parts, a_fieldValues, a_out, a_frameValue, a_frameList, a_frameNext, a_frameBody, a_valueText) x y := by
  subst hx hy
  exact xl_skip hs hT he hi h
theorem xl_skipb' {post : Int32 → Prop} {lo j : Nat} {x y : Int32} (hs : s < 4) (hT : ∀ i, i < 96 → a_text (s * 96 + i) = T i) (hj : j ≤ 96) (hi : lo ≤ j) (hx : x = nI (s * 96 + lo)) (hy : y = nI (s * 96 + j)) (h : post (nI (s * 96 + ll_sb T (j - lo) j))) : wpX_skipSpacesBack post (f_openMarkLength, f_closeMarkLength, f_openCount, f_compileFrom, f_compileTo, f_valueCount, f_outCap, f_outCount, f_frameCount, f_valueTextLength, f_renderAt, f_renderTo, f_returnAt, f_finished, f_overflowed, a_text, a_cellKind, a_cellName, a_tagEnd, a_sectionEnd, a_textLength, a_slotStatus, a_slotError, a_openMark, a_closeMark, a_openTags, a_valueKind, a_amount, a_parts, a_fieldValues, a_out, a_frameValue, a_frameList, a_frameNext, a_frameBody, a_valueText) x y := by
  subst hx hy
  exact xl_skipb hs hT hj hi h
theorem xl_sw80 {post : Int32 → SX → Prop} {z0 : Int32} (hs : s < 4) (hT : ∀ i, i < 96 → a_text (s * 96 + i) = T i) (hb : b ≤ 96) (hab : a + 3 ≤ b) (w : T (b - 1) = 61)
    (hz : (z0 = 0 ∧ ¬ ll_sm T (ll_dh T a b - ll_db T a b) (ll_db T a b) = ll_dh T a b) ∨ (z0 = 1 ∧ ll_sm T (ll_dh T a b - ll_db T a b) (ll_db T a b) = ll_dh T a b))
    (hF : ¬ ll_dok T a b → post 0 (f_openMarkLength, f_closeMarkLength, f_openCount, f_compileFrom, f_compileTo, f_valueCount, f_outCap, f_outCount, f_frameCount, f_valueTextLength, f_renderAt, f_renderTo, f_returnAt, f_finished, f_overflowed, a_text, a_cellKind, a_cellName, a_tagEnd, a_sectionEnd, a_textLength, a_slotStatus, a_slotError, a_openMark, a_closeMark, a_openTags, a_valueKind, a_amount, a_parts, a_fieldValues, a_out, a_frameValue, a_frameList, a_frameNext, a_frameBody, a_valueText))
    (hS : ll_dok T a b → post 1 (nI (ll_de T a b - ll_da T a b), nI (ll_dh T a b - ll_db T a b), f_openCount, f_compileFrom, f_compileTo, f_valueCount, f_outCap, f_outCount, f_frameCount, f_valueTextLength, f_renderAt, f_renderTo, f_returnAt, f_finished, f_overflowed, a_text, a_cellKind, a_cellName, a_tagEnd, a_sectionEnd, a_textLength, a_slotStatus, a_slotError, cy_f a_openMark (fun j => T (ll_da T a b + j)) (ll_de T a b - ll_da T a b), cy_f a_closeMark (fun j => T (ll_db T a b + j)) (ll_dh T a b - ll_db T a b), a_openTags, a_valueKind, a_amount, a_parts, a_fieldValues, a_out, a_frameValue, a_frameList, a_frameNext, a_frameBody, a_valueText)) :
    wX_switchMarks_80 post (nI (s * 96 + ll_da T a b)) (nI (s * 96 + ll_dh T a b)) (nI (s * 96 + ll_de T a b)) (nI (s * 96 + ll_db T a b)) z0 f_openMarkLength f_closeMarkLength f_openCount f_compileFrom f_compileTo f_valueCount f_outCap f_outCount f_frameCount f_valueTextLength f_renderAt f_renderTo f_returnAt f_finished f_overflowed a_text a_cellKind a_cellName a_tagEnd a_sectionEnd a_textLength a_slotStatus a_slotError a_openMark a_closeMark a_openTags a_valueKind a_amount a_parts a_fieldValues a_out a_frameValue a_frameList a_frameNext a_frameBody a_valueText := by
  have hd := ll_d_b (T := T) (a := a) (b := b) hab
  unfold wX_switchMarks_80
  rcases hz with ⟨z, y⟩ | ⟨z, y⟩
  · exact br_t z (hF (fun x => y x.2.2.1))
  · refine br_f (by rw [z]; decide) (xl_ml (l := ll_de T a b - ll_da T a b) (la_dif (by omega)) (by omega) (fun p1 p2 => br_f (by decide) (xl_ml (l := ll_dh T a b - ll_db T a b) (la_dif (by omega)) (by omega) (fun p3 p4 => br_f (by decide) (nm_r (la_dif (by omega)) (nm_r (la_dif (by omega)) ?_))) (fun p => br_t rfl (hF (fun y => p ⟨by have := y.2.2.2.2; omega, by have := y.2.2.2.2; omega⟩))))) (fun p => br_t rfl (hF (fun y => p ⟨by have := y.2.2.2.1; omega, by have := y.2.2.2.1; omega⟩))))
    refine xl_copy_openMark (x := ll_da T a b) hs hT (by omega) (by omega) (xl_copy_closeMark (x := ll_db T a b) hs hT (by omega) (by omega) ?_)
    exact hS ⟨hab, w, y, ⟨by omega, by omega⟩, by omega, by omega⟩
theorem xl_sw {post : Int32 → SX → Prop} (hs : s < 4) (hT : ∀ i, i < 96 → a_text (s * 96 + i) = T i) (hb : b ≤ 96) (hab : a ≤ b)
    (hF : ¬ ll_dok T a b → post 0 (f_openMarkLength, f_closeMarkLength, f_openCount, f_compileFrom, f_compileTo, f_valueCount, f_outCap, f_outCount, f_frameCount, f_valueTextLength, f_renderAt, f_renderTo, f_returnAt, f_finished, f_overflowed, a_text, a_cellKind, a_cellName, a_tagEnd, a_sectionEnd, a_textLength, a_slotStatus, a_slotError, a_openMark, a_closeMark, a_openTags, a_valueKind, a_amount, a_parts, a_fieldValues, a_out, a_frameValue, a_frameList, a_frameNext, a_frameBody, a_valueText))
    (hS : ll_dok T a b → post 1 (nI (ll_de T a b - ll_da T a b), nI (ll_dh T a b - ll_db T a b), f_openCount, f_compileFrom, f_compileTo, f_valueCount, f_outCap, f_outCount, f_frameCount, f_valueTextLength, f_renderAt, f_renderTo, f_returnAt, f_finished, f_overflowed, a_text, a_cellKind, a_cellName, a_tagEnd, a_sectionEnd, a_textLength, a_slotStatus, a_slotError, cy_f a_openMark (fun j => T (ll_da T a b + j)) (ll_de T a b - ll_da T a b), cy_f a_closeMark (fun j => T (ll_db T a b + j)) (ll_dh T a b - ll_db T a b), a_openTags, a_valueKind, a_amount, a_parts, a_fieldValues, a_out, a_frameValue, a_frameList, a_frameNext, a_frameBody, a_valueText)) :
    wpX_switchMarks post (f_openMarkLength, f_closeMarkLength, f_openCount, f_compileFrom, f_compileTo, f_valueCount, f_outCap, f_outCount, f_frameCount, f_valueTextLength, f_renderAt, f_renderTo, f_returnAt, f_finished, f_overflowed, a_text, a_cellKind, a_cellName, a_tagEnd, a_sectionEnd, a_textLength, a_slotStatus, a_slotError, a_openMark, a_closeMark, a_openTags, a_valueKind, a_amount, a_parts, a_fieldValues, a_out, a_frameValue, a_frameList, a_frameNext, a_frameBody, a_valueText) (nI (s * 96 + a)) (nI (s * 96 + b)) := by
  unfold wpX_switchMarks
  refine pk_lt (b - a) 3 (fun z => hF (fun y => by have := y.1; omega)) (fun z => ?_) (la_dif hab)
  have e1 : nI (s * 96 + b) - 1 = nI (s * 96 + (b - 1)) := by rw [la_s (by omega)]; exact congrArg nI (by omega)
  have e2 : a_text (nI (s * 96 + b) - 1).toNatClampNeg = T (b - 1) := by rw [e1, nI_clamp (by omega), hT (b - 1) (by omega)]
  refine ⟨by rw [e1]; exact vp_in_nI (by omega) (by omega), ?_⟩
  by_cases w : T (b - 1) = 61
  · have hd := ll_d_b (T := T) (a := a) (b := b) (by omega)
    have hm := ll_sm_b (T := T) (ll_dh T a b - ll_db T a b) (ll_db T a b)
    refine br_t (e2.trans w) ?_
    refine xl_skip' (i := a + 1) (e := b - 1) hs hT (by omega) (by omega) (nI_1 _) e1 ?_
    refine xl_skipb' (lo := ll_da T a b) (j := b - 1) hs hT (by omega) (by omega) rfl e1 ?_
    refine xl_skipm (i := ll_da T a b) (e := ll_dh T a b) hs hT (by omega) (by omega) ?_
    refine xl_skip (i := ll_de T a b) (e := ll_dh T a b) hs hT (by omega) (by omega) ?_
    refine xl_skipm (i := ll_db T a b) (e := ll_dh T a b) hs hT (by omega) (by omega) ?_
    refine br_c (fun y => xl_sw80 hs hT hb (by omega) w (Or.inr ⟨rfl, ?_⟩) hF hS) (fun y => xl_sw80 hs hT hb (by omega) w (Or.inl ⟨rfl, fun x => ?_⟩) hF hS)
    · have y' : nI (s * 96 + ll_sm T (ll_dh T a b - ll_db T a b) (ll_db T a b)) = nI (s * 96 + ll_dh T a b) := y
      have := la_im y' (by omega) (by omega)
      omega
    · apply y
      exact congrArg (fun z => nI (s * 96 + z)) x
  · exact br_f (fun y => w (e2.symm.trans y)) (hF (fun y => w y.2.1))
theorem xl_rc43 {post : Int32 → SX → Prop} {lo : Nat} {k : Nat} (hs : s < 4) (hT : ∀ i, i < 96 → a_text (s * 96 + i) = T i) (hb : b ≤ 96) (hlo : lo ≤ b) (hq : q < 96) (hk : k ≤ 9)
    (h1 : (k = 9 → 49 ≤ ll_on T lo b ∧ ll_on T lo b ≤ 51) → (k ≠ 9 → ll_nm (ll_on T lo b)) → post 1 (f_openMarkLength, f_closeMarkLength, f_openCount, f_compileFrom, f_compileTo, f_valueCount, f_outCap, f_outCount, f_frameCount, f_valueTextLength, f_renderAt, f_renderTo, f_returnAt, f_finished, f_overflowed, a_text, a_cellKind, upd a_cellName (s * 96 + q) (ll_on T lo b), a_tagEnd, a_sectionEnd, a_textLength, a_slotStatus, a_slotError, a_openMark, a_closeMark, a_openTags, a_valueKind, a_amount, a_parts, a_fieldValues, a_out, a_frameValue, a_frameList, a_frameNext, a_frameBody, a_valueText))
    (h0 : ¬ ((k = 9 → 49 ≤ ll_on T lo b ∧ ll_on T lo b ≤ 51) ∧ (k ≠ 9 → ll_nm (ll_on T lo b))) → post 0 (f_openMarkLength, f_closeMarkLength, f_openCount, f_compileFrom, f_compileTo, f_valueCount, f_outCap, f_outCount, f_frameCount, f_valueTextLength, f_renderAt, f_renderTo, f_returnAt, f_finished, f_overflowed, a_text, a_cellKind, upd a_cellName (s * 96 + q) (ll_on T lo b), a_tagEnd, a_sectionEnd, a_textLength, a_slotStatus, a_slotError, a_openMark, a_closeMark, a_openTags, a_valueKind, a_amount, a_parts, a_fieldValues, a_out, a_frameValue, a_frameList, a_frameNext, a_frameBody, a_valueText)) :
    wX_readContent_43 post (nI (s * 96 + q)) (nI (s * 96 + b)) (nI k) (nI (s * 96 + lo)) f_openMarkLength f_closeMarkLength f_openCount f_compileFrom f_compileTo f_valueCount f_outCap f_outCount f_frameCount f_valueTextLength f_renderAt f_renderTo f_returnAt f_finished f_overflowed a_text a_cellKind a_cellName a_tagEnd a_sectionEnd a_textLength a_slotStatus a_slotError a_openMark a_closeMark a_openTags a_valueKind a_amount a_parts a_fieldValues a_out a_frameValue a_frameList a_frameNext a_frameBody a_valueText := by
  unfold wX_readContent_43
  refine xl_only hs hT hb hlo ⟨vp_in_nI (by omega) (by omega), nm_r (by rw [nI_clamp (by omega)]) ?_⟩
  refine pk_eq k 9 (fun z => ?_) (fun z => ?_)
  · refine br_c (fun y => h0 (fun x => absurd (x.1 z).1 (Int32.not_le.mpr y))) (fun y => br_c (fun x => h0 (fun w => absurd (w.1 z).2 (Int32.not_le.mpr x))) (fun x => h1 (fun _ => ⟨Int32.not_lt.mp y, Int32.not_lt.mp x⟩) (fun w => absurd z w)))
  · refine br_c (fun y => h1 (fun w => absurd w z) (fun _ => Or.inl y)) (fun y => xl_let (fun c1 c2 => br_f (by decide) (h1 (fun w => absurd w z) (fun _ => Or.inr ⟨c1, c2⟩))) (fun c0 => br_t rfl (h0 (fun w => ?_))))
    rcases w.2 z with w | w
    · exact y w
    · exact c0 w
theorem xl_rc {post : Int32 → SX → Prop} (hs : s < 4) (hT : ∀ i, i < 96 → a_text (s * 96 + i) = T i) (hb : b ≤ 96) (hab : a ≤ b) (hq : q < 96) (hK : a_cellKind (s * 96 + q) = nI (ll_kd T a b))
    (h4 : ll_kd T a b = 4 → post 1 (f_openMarkLength, f_closeMarkLength, f_openCount, f_compileFrom, f_compileTo, f_valueCount, f_outCap, f_outCount, f_frameCount, f_valueTextLength, f_renderAt, f_renderTo, f_returnAt, f_finished, f_overflowed, a_text, a_cellKind, a_cellName, a_tagEnd, a_sectionEnd, a_textLength, a_slotStatus, a_slotError, a_openMark, a_closeMark, a_openTags, a_valueKind, a_amount, a_parts, a_fieldValues, a_out, a_frameValue, a_frameList, a_frameNext, a_frameBody, a_valueText))
    (h5T : ll_kd T a b = 5 → ll_dok T a b → post 1 (nI (ll_de T a b - ll_da T a b), nI (ll_dh T a b - ll_db T a b), f_openCount, f_compileFrom, f_compileTo, f_valueCount, f_outCap, f_outCount, f_frameCount, f_valueTextLength, f_renderAt, f_renderTo, f_returnAt, f_finished, f_overflowed, a_text, a_cellKind, a_cellName, a_tagEnd, a_sectionEnd, a_textLength, a_slotStatus, a_slotError, cy_f a_openMark (fun j => T (ll_da T a b + j)) (ll_de T a b - ll_da T a b), cy_f a_closeMark (fun j => T (ll_db T a b + j)) (ll_dh T a b - ll_db T a b), a_openTags, a_valueKind, a_amount, a_parts, a_fieldValues, a_out, a_frameValue, a_frameList, a_frameNext, a_frameBody, a_valueText))
    (h5F : ll_kd T a b = 5 → ¬ ll_dok T a b → post 0 (f_openMarkLength, f_closeMarkLength, f_openCount, f_compileFrom, f_compileTo, f_valueCount, f_outCap, f_outCount, f_frameCount, f_valueTextLength, f_renderAt, f_renderTo, f_returnAt, f_finished, f_overflowed, a_text, a_cellKind, a_cellName, a_tagEnd, a_sectionEnd, a_textLength, a_slotStatus, a_slotError, a_openMark, a_closeMark, a_openTags, a_valueKind, a_amount, a_parts, a_fieldValues, a_out, a_frameValue, a_frameList, a_frameNext, a_frameBody, a_valueText))
    (hnT : ll_kd T a b ≠ 4 → ll_kd T a b ≠ 5 → ll_ok T a b → post 1 (f_openMarkLength, f_closeMarkLength, f_openCount, f_compileFrom, f_compileTo, f_valueCount, f_outCap, f_outCount, f_frameCount, f_valueTextLength, f_renderAt, f_renderTo, f_returnAt, f_finished, f_overflowed, a_text, a_cellKind, upd a_cellName (s * 96 + q) (ll_na T a b), a_tagEnd, a_sectionEnd, a_textLength, a_slotStatus, a_slotError, a_openMark, a_closeMark, a_openTags, a_valueKind, a_amount, a_parts, a_fieldValues, a_out, a_frameValue, a_frameList, a_frameNext, a_frameBody, a_valueText))
    (hnF : ll_kd T a b ≠ 4 → ll_kd T a b ≠ 5 → ¬ ll_ok T a b → post 0 (f_openMarkLength, f_closeMarkLength, f_openCount, f_compileFrom, f_compileTo, f_valueCount, f_outCap, f_outCount, f_frameCount, f_valueTextLength, f_renderAt, f_renderTo, f_returnAt, f_finished, f_overflowed, a_text, a_cellKind, upd a_cellName (s * 96 + q) (ll_na T a b), a_tagEnd, a_sectionEnd, a_textLength, a_slotStatus, a_slotError, a_openMark, a_closeMark, a_openTags, a_valueKind, a_amount, a_parts, a_fieldValues, a_out, a_frameValue, a_frameList, a_frameNext, a_frameBody, a_valueText)) :
    wpX_readContent post (f_openMarkLength, f_closeMarkLength, f_openCount, f_compileFrom, f_compileTo, f_valueCount, f_outCap, f_outCount, f_frameCount, f_valueTextLength, f_renderAt, f_renderTo, f_returnAt, f_finished, f_overflowed, a_text, a_cellKind, a_cellName, a_tagEnd, a_sectionEnd, a_textLength, a_slotStatus, a_slotError, a_openMark, a_closeMark, a_openTags, a_valueKind, a_amount, a_parts, a_fieldValues, a_out, a_frameValue, a_frameList, a_frameNext, a_frameBody, a_valueText) (nI (s * 96 + q)) (nI (s * 96 + a)) (nI (s * 96 + b)) := by
  have kb := ll_kd_b T a b
  unfold wpX_readContent
  refine ⟨vp_in_nI (by omega) (by omega), nm_r (e' := nI (ll_kd T a b)) (by rw [nI_clamp (by omega)]; exact hK) ?_⟩
  refine pk_eq (ll_kd T a b) 4 h4 (fun n4 => pk_eq (ll_kd T a b) 5 (fun k5 => ?_) (fun n5 => ?_))
  · exact xl_sw hs hT hb hab (fun y => ⟨rfl, h5F k5 y⟩) (fun y => ⟨rfl, h5T k5 y⟩)
  · have okE : ll_ok T a b ↔ ((ll_kd T a b = 9 → 49 ≤ ll_na T a b ∧ ll_na T a b ≤ 51) ∧ (ll_kd T a b ≠ 9 → ll_nm (ll_na T a b))) := by
      unfold ll_ok
      rw [if_neg n4, if_neg n5]
      by_cases z : ll_kd T a b = 9
      · rw [if_pos z]
        exact ⟨fun y => ⟨fun _ => y, fun w => absurd z w⟩, fun y => y.1 z⟩
      · rw [if_neg z]
        exact ⟨fun y => ⟨fun w => absurd w z, fun _ => y⟩, fun y => y.2 z⟩
    refine pk_eq (ll_kd T a b) 2 (fun k2 => ?_) (fun n2 => ?_)
    · have e : ll_na T a b = ll_on T a b := by unfold ll_na; rw [if_pos k2]
      rw [e] at okE hnT hnF
      exact xl_rc43 hs hT hb hab hq (by omega) (fun x y => hnT n4 n5 (okE.mpr ⟨x, y⟩)) (fun x => hnF n4 n5 (fun y => x (okE.mp y)))
    · have e : ll_na T a b = ll_on T (a + 1) b := by unfold ll_na; rw [if_neg n2]
      have hlt : a + 1 ≤ b := by
        by_cases w : a < b
        · omega
        · exact absurd (by unfold ll_kd; rw [if_neg w]) n2
      rw [e] at okE hnT hnF
      rw [nI_1]
      exact xl_rc43 hs hT hb hlt hq (by omega) (fun x y => hnT n4 n5 (okE.mpr ⟨x, y⟩)) (fun x => hnF n4 n5 (fun y => x (okE.mp y)))
/-- the last end of a removal -/
def rm_e (T : Nat → Int32) (n e : Nat) : Nat := if ll_sp T (n - e) e < n then ll_sp T (n - e) e + 1 else n
theorem xl_rm142 {post : SX → Prop} {x e hi : Nat} (hs : s < 4) (hn : n ≤ 96) (hxn : x ≤ n) (he : e ≤ hi) (hx : hi = (if x < n then x + 1 else n)) (h : post (f_openMarkLength, f_closeMarkLength, f_openCount, f_compileFrom, nI (s * 96 + n), f_valueCount, f_outCap, f_outCount, f_frameCount, f_valueTextLength, f_renderAt, f_renderTo, f_returnAt, f_finished, f_overflowed, a_text, fl_f a_cellKind (s * 96 + e) (s * 96 + hi) 1, a_cellName, a_tagEnd, a_sectionEnd, a_textLength, a_slotStatus, a_slotError, a_openMark, a_closeMark, a_openTags, a_valueKind, a_amount, a_parts, a_fieldValues, a_out, a_frameValue, a_frameList, a_frameNext, a_frameBody, a_valueText)) : ∀ d i, i + d = hi → e ≤ i → wX_removeLineOf_142 post (nI (s * 96 + x)) f_openMarkLength f_closeMarkLength f_openCount f_compileFrom (nI (s * 96 + n)) f_valueCount f_outCap f_outCount f_frameCount f_valueTextLength f_renderAt f_renderTo f_returnAt f_finished f_overflowed (d + 1) (nI (s * 96 + i)) a_text (fl_f a_cellKind (s * 96 + e) (s * 96 + i) 1) a_cellName a_tagEnd a_sectionEnd a_textLength a_slotStatus a_slotError a_openMark a_closeMark a_openTags a_valueKind a_amount a_parts a_fieldValues a_out a_frameValue a_frameList a_frameNext a_frameBody a_valueText := by
  have hx2 : (x < n ∧ hi = x + 1) ∨ (n ≤ x ∧ hi = n) := by
    by_cases w : x < n
    · rw [if_pos w] at hx; omega
    · rw [if_neg w] at hx; omega
  intro d
  induction d with
  | zero =>
    intro i hi' hei
    have e2 : i = hi := by omega
    subst e2
    rcases hx2 with ⟨a, b⟩ | ⟨a, b⟩
    · exact br_t (nI_lt (by omega) (by omega)) h
    · by_cases w : x < i
      · exact br_t (nI_lt (by omega) (by omega)) h
      · exact br_f (nI_nlt (by omega) (by omega)) (br_t (nI_le (by omega) (by omega)) h)
  | succ d ih =>
    intro i hi' hei
    refine br_f (nI_nlt (by omega) (by omega)) (br_f (nI_ge (by omega) (by omega)) ⟨vp_in_nI (by omega) (by omega), nm_r ?_ (nm_r (nI_1 _) (ih (i + 1) (by omega) (by omega)))⟩)
    rw [nI_clamp (by omega)]
    exact fl_s (by omega)
theorem xl_rm114 {post : SX → Prop} {x lo e hi : Nat} (hs : s < 4) (hn : n ≤ 96) (hxn : x ≤ n) (hq : q < 96) (hlo : lo ≤ q) (he : e ≤ hi) (hx : hi = (if x < n then x + 1 else n)) (hE : a_tagEnd (s * 96 + q) = nI (s * 96 + e)) (h : post (f_openMarkLength, f_closeMarkLength, f_openCount, f_compileFrom, nI (s * 96 + n), f_valueCount, f_outCap, f_outCount, f_frameCount, f_valueTextLength, f_renderAt, f_renderTo, f_returnAt, f_finished, f_overflowed, a_text, fl_f (fl_f a_cellKind (s * 96 + lo) (s * 96 + q) 1) (s * 96 + e) (s * 96 + hi) 1, a_cellName, a_tagEnd, a_sectionEnd, a_textLength, a_slotStatus, a_slotError, a_openMark, a_closeMark, a_openTags, a_valueKind, a_amount, a_parts, a_fieldValues, a_out, a_frameValue, a_frameList, a_frameNext, a_frameBody, a_valueText)) : ∀ d i, i + d = q → lo ≤ i → wX_removeLineOf_114 post (nI (s * 96 + q)) (nI (s * 96 + x)) f_openMarkLength f_closeMarkLength f_openCount f_compileFrom (nI (s * 96 + n)) f_valueCount f_outCap f_outCount f_frameCount f_valueTextLength f_renderAt f_renderTo f_returnAt f_finished f_overflowed (d + 1) (nI (s * 96 + i)) a_text (fl_f a_cellKind (s * 96 + lo) (s * 96 + i) 1) a_cellName a_tagEnd a_sectionEnd a_textLength a_slotStatus a_slotError a_openMark a_closeMark a_openTags a_valueKind a_amount a_parts a_fieldValues a_out a_frameValue a_frameList a_frameNext a_frameBody a_valueText := by
  intro d
  induction d with
  | zero =>
    intro i hi' hei
    have e2 : i = q := by omega
    subst e2
    have r := xl_rm142 (f_openMarkLength := f_openMarkLength) (f_closeMarkLength := f_closeMarkLength) (f_openCount := f_openCount) (f_compileFrom := f_compileFrom) (f_valueCount := f_valueCount) (f_outCap := f_outCap) (f_outCount := f_outCount) (f_frameCount := f_frameCount) (f_valueTextLength := f_valueTextLength) (f_renderAt := f_renderAt) (f_renderTo := f_renderTo) (f_returnAt := f_returnAt) (f_finished := f_finished) (f_overflowed := f_overflowed) (a_text := a_text) (a_cellKind := fl_f a_cellKind (s * 96 + lo) (s * 96 + i) 1) (a_cellName := a_cellName) (a_tagEnd := a_tagEnd) (a_sectionEnd := a_sectionEnd) (a_textLength := a_textLength) (a_slotStatus := a_slotStatus) (a_slotError := a_slotError) (a_openMark := a_openMark) (a_closeMark := a_closeMark) (a_openTags := a_openTags) (a_valueKind := a_valueKind) (a_amount := a_amount) (a_parts := a_parts) (a_fieldValues := a_fieldValues) (a_out := a_out) (a_frameValue := a_frameValue) (a_frameList := a_frameList) (a_frameNext := a_frameNext) (a_frameBody := a_frameBody) (a_valueText := a_valueText) (post := post) (n := n) (x := x) (e := e) (hi := hi) hs hn hxn he hx h (hi - e) e (by omega) (Nat.le_refl _)
    rw [fl_0 (Nat.le_refl _)] at r
    exact br_t (nI_le (by omega) (by omega)) ⟨vp_in_nI (by omega) (by omega), nm_r (by rw [nI_clamp (by omega)]; exact hE) ⟨_, r⟩⟩
  | succ d ih =>
    intro i hi' hei
    refine br_f (nI_ge (by omega) (by omega)) ⟨vp_in_nI (by omega) (by omega), nm_r ?_ (nm_r (nI_1 _) (ih (i + 1) (by omega) (by omega)))⟩
    rw [nI_clamp (by omega)]
    exact fl_s (by omega)
def rm_l (T : Nat → Int32) (q : Nat) : Prop := ll_sb T q q = 0 ∨ T (ll_sb T q q - 1) = 10
def rm_r (T : Nat → Int32) (n e : Nat) : Prop := ll_sp T (n - e) e = n ∨ T (ll_sp T (n - e) e) = 10
theorem xl_98 {post : SX → Prop} {e : Nat} {x5 z0 : Int32} (hs : s < 4) (hn : n ≤ 96) (hq : q < e) (he : e ≤ n) (hE : a_tagEnd (s * 96 + q) = nI (s * 96 + e))
    (h0 : x5 = 0 ∨ z0 = 0 → post (f_openMarkLength, f_closeMarkLength, f_openCount, f_compileFrom, nI (s * 96 + n), f_valueCount, f_outCap, f_outCount, f_frameCount, f_valueTextLength, f_renderAt, f_renderTo, f_returnAt, f_finished, f_overflowed, a_text, a_cellKind, a_cellName, a_tagEnd, a_sectionEnd, a_textLength, a_slotStatus, a_slotError, a_openMark, a_closeMark, a_openTags, a_valueKind, a_amount, a_parts, a_fieldValues, a_out, a_frameValue, a_frameList, a_frameNext, a_frameBody, a_valueText))
    (h1 : ¬ x5 = 0 → ¬ z0 = 0 → post (f_openMarkLength, f_closeMarkLength, f_openCount, f_compileFrom, nI (s * 96 + n), f_valueCount, f_outCap, f_outCount, f_frameCount, f_valueTextLength, f_renderAt, f_renderTo, f_returnAt, f_finished, f_overflowed, a_text, fl_f (fl_f a_cellKind (s * 96 + ll_sb T q q) (s * 96 + q) 1) (s * 96 + e) (s * 96 + rm_e T n e) 1, a_cellName, a_tagEnd, a_sectionEnd, a_textLength, a_slotStatus, a_slotError, a_openMark, a_closeMark, a_openTags, a_valueKind, a_amount, a_parts, a_fieldValues, a_out, a_frameValue, a_frameList, a_frameNext, a_frameBody, a_valueText)) :
    wX_removeLineOf_98 post (nI (s * 96 + q)) (nI (s * 96 + ll_sb T q q)) (nI (s * 96 + ll_sp T (n - e) e)) x5 z0 f_openMarkLength f_closeMarkLength f_openCount f_compileFrom (nI (s * 96 + n)) f_valueCount f_outCap f_outCount f_frameCount f_valueTextLength f_renderAt f_renderTo f_returnAt f_finished f_overflowed a_text a_cellKind a_cellName a_tagEnd a_sectionEnd a_textLength a_slotStatus a_slotError a_openMark a_closeMark a_openTags a_valueKind a_amount a_parts a_fieldValues a_out a_frameValue a_frameList a_frameNext a_frameBody a_valueText := by
  have b1 := ll_sb_b (T := T) q q (Nat.le_refl _)
  have b2 := ll_sp_b (T := T) (n - e) e
  refine br_c (fun y => h0 (Or.inl y)) (fun y => br_c (fun z => h0 (Or.inr z)) (fun z => ?_))
  have r := xl_rm114 (f_openMarkLength := f_openMarkLength) (f_closeMarkLength := f_closeMarkLength) (f_openCount := f_openCount) (f_compileFrom := f_compileFrom) (f_valueCount := f_valueCount) (f_outCap := f_outCap) (f_outCount := f_outCount) (f_frameCount := f_frameCount) (f_valueTextLength := f_valueTextLength) (f_renderAt := f_renderAt) (f_renderTo := f_renderTo) (f_returnAt := f_returnAt) (f_finished := f_finished) (f_overflowed := f_overflowed) (a_text := a_text) (a_cellKind := a_cellKind) (a_cellName := a_cellName) (a_tagEnd := a_tagEnd) (a_sectionEnd := a_sectionEnd) (a_textLength := a_textLength) (a_slotStatus := a_slotStatus) (a_slotError := a_slotError) (a_openMark := a_openMark) (a_closeMark := a_closeMark) (a_openTags := a_openTags) (a_valueKind := a_valueKind) (a_amount := a_amount) (a_parts := a_parts) (a_fieldValues := a_fieldValues) (a_out := a_out) (a_frameValue := a_frameValue) (a_frameList := a_frameList) (a_frameNext := a_frameNext) (a_frameBody := a_frameBody) (a_valueText := a_valueText) (post := post) (n := n) (q := q) (x := ll_sp T (n - e) e) (lo := ll_sb T q q) (e := e) (hi := rm_e T n e) hs hn (by omega) (by omega) b1.2 (by unfold rm_e; split <;> omega) rfl hE (h1 y z) (q - ll_sb T q q) (ll_sb T q q) (by omega) (Nat.le_refl _)
  rw [fl_0 (Nat.le_refl _)] at r
  exact ⟨_, r⟩
theorem xl_70 {post : SX → Prop} {e : Nat} {z0 : Int32} (hs : s < 4) (hT : ∀ i, i < 96 → a_text (s * 96 + i) = T i) (hn : n ≤ 96) (hq : q < e) (he : e ≤ n) (hE : a_tagEnd (s * 96 + q) = nI (s * 96 + e))
    (h0 : z0 = 0 ∨ ¬ rm_r T n e → post (f_openMarkLength, f_closeMarkLength, f_openCount, f_compileFrom, nI (s * 96 + n), f_valueCount, f_outCap, f_outCount, f_frameCount, f_valueTextLength, f_renderAt, f_renderTo, f_returnAt, f_finished, f_overflowed, a_text, a_cellKind, a_cellName, a_tagEnd, a_sectionEnd, a_textLength, a_slotStatus, a_slotError, a_openMark, a_closeMark, a_openTags, a_valueKind, a_amount, a_parts, a_fieldValues, a_out, a_frameValue, a_frameList, a_frameNext, a_frameBody, a_valueText))
    (h1 : ¬ z0 = 0 → rm_r T n e → post (f_openMarkLength, f_closeMarkLength, f_openCount, f_compileFrom, nI (s * 96 + n), f_valueCount, f_outCap, f_outCount, f_frameCount, f_valueTextLength, f_renderAt, f_renderTo, f_returnAt, f_finished, f_overflowed, a_text, fl_f (fl_f a_cellKind (s * 96 + ll_sb T q q) (s * 96 + q) 1) (s * 96 + e) (s * 96 + rm_e T n e) 1, a_cellName, a_tagEnd, a_sectionEnd, a_textLength, a_slotStatus, a_slotError, a_openMark, a_closeMark, a_openTags, a_valueKind, a_amount, a_parts, a_fieldValues, a_out, a_frameValue, a_frameList, a_frameNext, a_frameBody, a_valueText)) :
    wX_removeLineOf_70 post (nI (s * 96 + q)) (nI (s * 96 + ll_sb T q q)) (nI (s * 96 + ll_sp T (n - e) e)) z0 f_openMarkLength f_closeMarkLength f_openCount f_compileFrom (nI (s * 96 + n)) f_valueCount f_outCap f_outCount f_frameCount f_valueTextLength f_renderAt f_renderTo f_returnAt f_finished f_overflowed a_text a_cellKind a_cellName a_tagEnd a_sectionEnd a_textLength a_slotStatus a_slotError a_openMark a_closeMark a_openTags a_valueKind a_amount a_parts a_fieldValues a_out a_frameValue a_frameList a_frameNext a_frameBody a_valueText := by
  have b2 := ll_sp_b (T := T) (n - e) e
  have yes : rm_r T n e → wX_removeLineOf_93 post (nI (s * 96 + q)) (nI (s * 96 + ll_sb T q q)) (nI (s * 96 + ll_sp T (n - e) e)) z0 f_openMarkLength f_closeMarkLength f_openCount f_compileFrom (nI (s * 96 + n)) f_valueCount f_outCap f_outCount f_frameCount f_valueTextLength f_renderAt f_renderTo f_returnAt f_finished f_overflowed a_text a_cellKind a_cellName a_tagEnd a_sectionEnd a_textLength a_slotStatus a_slotError a_openMark a_closeMark a_openTags a_valueKind a_amount a_parts a_fieldValues a_out a_frameValue a_frameList a_frameNext a_frameBody a_valueText := fun w => xl_98 hs hn hq he hE (fun y => by
    rcases y with y | y
    · exact h0 (Or.inl y)
    · exact absurd y (by decide)) (fun y _ => h1 y w)
  refine pk_eq (s * 96 + ll_sp T (n - e) e) (s * 96 + n) (fun y => yes (Or.inl (by omega))) (fun y => ⟨vp_in_nI (by omega) (by omega), ?_⟩)
  have e2 : a_text (nI (s * 96 + ll_sp T (n - e) e)).toNatClampNeg = T (ll_sp T (n - e) e) := by rw [nI_clamp (by omega), hT _ (by omega)]
  refine br_c (fun w => yes (Or.inr (e2.symm.trans w))) (fun w => xl_98 hs hn hq he hE (fun _ => h0 (Or.inr (fun z => ?_))) (fun _ z => absurd rfl z))
  rcases z with z | z
  · omega
  · exact w (e2.trans z)
theorem xl_rm {post : SX → Prop} {e k : Nat} (hs : s < 4) (hT : ∀ i, i < 96 → a_text (s * 96 + i) = T i) (hn : n ≤ 96) (hq : q < e) (he : e ≤ n) (hK : a_cellKind (s * 96 + q) = nI k) (hk : k ≤ 9) (hE : a_tagEnd (s * 96 + q) = nI (s * 96 + e))
    (h0 : k = 2 ∨ k = 3 ∨ ¬ rm_l T q ∨ ¬ rm_r T n e → post (f_openMarkLength, f_closeMarkLength, f_openCount, nI (s * 96), nI (s * 96 + n), f_valueCount, f_outCap, f_outCount, f_frameCount, f_valueTextLength, f_renderAt, f_renderTo, f_returnAt, f_finished, f_overflowed, a_text, a_cellKind, a_cellName, a_tagEnd, a_sectionEnd, a_textLength, a_slotStatus, a_slotError, a_openMark, a_closeMark, a_openTags, a_valueKind, a_amount, a_parts, a_fieldValues, a_out, a_frameValue, a_frameList, a_frameNext, a_frameBody, a_valueText))
    (h1 : k ≠ 2 → k ≠ 3 → rm_l T q → rm_r T n e → post (f_openMarkLength, f_closeMarkLength, f_openCount, nI (s * 96), nI (s * 96 + n), f_valueCount, f_outCap, f_outCount, f_frameCount, f_valueTextLength, f_renderAt, f_renderTo, f_returnAt, f_finished, f_overflowed, a_text, fl_f (fl_f a_cellKind (s * 96 + ll_sb T q q) (s * 96 + q) 1) (s * 96 + e) (s * 96 + rm_e T n e) 1, a_cellName, a_tagEnd, a_sectionEnd, a_textLength, a_slotStatus, a_slotError, a_openMark, a_closeMark, a_openTags, a_valueKind, a_amount, a_parts, a_fieldValues, a_out, a_frameValue, a_frameList, a_frameNext, a_frameBody, a_valueText)) :
    wpX_removeLineOf post (f_openMarkLength, f_closeMarkLength, f_openCount, nI (s * 96), nI (s * 96 + n), f_valueCount, f_outCap, f_outCount, f_frameCount, f_valueTextLength, f_renderAt, f_renderTo, f_returnAt, f_finished, f_overflowed, a_text, a_cellKind, a_cellName, a_tagEnd, a_sectionEnd, a_textLength, a_slotStatus, a_slotError, a_openMark, a_closeMark, a_openTags, a_valueKind, a_amount, a_parts, a_fieldValues, a_out, a_frameValue, a_frameList, a_frameNext, a_frameBody, a_valueText) (nI (s * 96 + q)) := by
  have b1 := ll_sb_b (T := T) q q (Nat.le_refl _)
  unfold wpX_removeLineOf
  refine ⟨vp_in_nI (by omega) (by omega), nm_r (e' := nI k) (by rw [nI_clamp (by omega)]; exact hK) ?_⟩
  refine pk_eq k 2 (fun y => h0 (Or.inl y)) (fun n2 => pk_eq k 3 (fun y => h0 (Or.inr (Or.inl y))) (fun n3 => ?_))
  refine xl_skipb' (lo := 0) (j := q) hs hT (by omega) (by omega) rfl rfl ⟨vp_in_nI (by omega) (by omega), ?_⟩
  refine xl_skip' (i := e) (e := n) hs hT hn he (by rw [nI_clamp (by omega)]; exact hE) rfl ?_
  have yes : rm_l T q → wX_removeLineOf_65 post (nI (s * 96 + q)) (nI (s * 96 + ll_sb T q q)) (nI (s * 96 + ll_sp T (n - e) e)) f_openMarkLength f_closeMarkLength f_openCount (nI (s * 96)) (nI (s * 96 + n)) f_valueCount f_outCap f_outCount f_frameCount f_valueTextLength f_renderAt f_renderTo f_returnAt f_finished f_overflowed a_text a_cellKind a_cellName a_tagEnd a_sectionEnd a_textLength a_slotStatus a_slotError a_openMark a_closeMark a_openTags a_valueKind a_amount a_parts a_fieldValues a_out a_frameValue a_frameList a_frameNext a_frameBody a_valueText := fun w => xl_70 hs hT hn hq he hE (fun y => by
    rcases y with y | y
    · exact absurd y (by decide)
    · exact h0 (Or.inr (Or.inr (Or.inr y)))) (fun _ y => h1 n2 n3 w y)
  refine pk_eq (s * 96 + ll_sb T q q) (s * 96) (fun y => yes (Or.inl (by omega))) (fun y => ?_)
  have e1 : nI (s * 96 + ll_sb T (q - 0) q) - 1 = nI (s * 96 + (ll_sb T q q - 1)) := by
    show nI (s * 96 + ll_sb T q q) - 1 = _
    rw [la_s (by omega)]; exact congrArg nI (by omega)
  have e2 : a_text (nI (s * 96 + ll_sb T (q - 0) q) - 1).toNatClampNeg = T (ll_sb T q q - 1) := by rw [e1, nI_clamp (by omega), hT _ (by omega)]
  refine ⟨by rw [e1]; exact vp_in_nI (by omega) (by omega), br_c (fun w => yes (Or.inr (e2.symm.trans w))) (fun w => xl_70 hs hT hn hq he hE (fun _ => h0 (Or.inr (Or.inr (Or.inl (fun z => ?_))))) (fun z => absurd rfl z))⟩
  rcases z with z | z
  · omega
  · exact w (e2.trans z)
end TXT
end LLXC
