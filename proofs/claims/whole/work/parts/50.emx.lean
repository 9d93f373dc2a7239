section LLEX
variable {f_openMarkLength f_closeMarkLength f_openCount f_compileFrom f_compileTo f_valueCount f_outCap f_outCount f_frameCount f_valueTextLength f_renderAt f_renderTo f_returnAt f_finished f_overflowed : Int32} {a_text a_cellKind a_cellName a_tagEnd a_sectionEnd a_textLength a_slotStatus a_slotError a_openMark a_closeMark a_openTags a_valueKind a_amount a_parts a_fieldValues a_out a_frameValue a_frameList a_frameNext a_frameBody a_valueText : Nat → Int32} {cap : Nat} {t : (Nat → Int32) × Nat × Int32}
theorem xe_1 {post : SX → Prop} {c : Int32} (hc : cap ≤ 256) (g : em_g cap t) (h : post (f_openMarkLength, f_closeMarkLength, f_openCount, f_compileFrom, f_compileTo, f_valueCount, nI cap, nI (em_1 cap t c).2.1, f_frameCount, f_valueTextLength, f_renderAt, f_renderTo, f_returnAt, f_finished, (em_1 cap t c).2.2, a_text, a_cellKind, a_cellName, a_tagEnd, a_sectionEnd, a_textLength, a_slotStatus, a_slotError, a_openMark, a_closeMark, a_openTags, a_valueKind, a_amount, a_parts, a_fieldValues, (em_1 cap t c).1, a_frameValue, a_frameList, a_frameNext, a_frameBody, a_valueText)) : wpX_emit post (f_openMarkLength, f_closeMarkLength, f_openCount, f_compileFrom, f_compileTo, f_valueCount, nI cap, nI (t).2.1, f_frameCount, f_valueTextLength, f_renderAt, f_renderTo, f_returnAt, f_finished, (t).2.2, a_text, a_cellKind, a_cellName, a_tagEnd, a_sectionEnd, a_textLength, a_slotStatus, a_slotError, a_openMark, a_closeMark, a_openTags, a_valueKind, a_amount, a_parts, a_fieldValues, (t).1, a_frameValue, a_frameList, a_frameNext, a_frameBody, a_valueText) c := by
  have hk := g.1
  unfold em_1 at h
  refine pk_lt t.2.1 cap (fun z => ⟨vp_in_nI (by omega) (by omega), nm_r (by rw [nI_clamp (by omega)]) (nm_r (nI_1 _) ?_)⟩) (fun z => ?_)
  · rw [if_neg (by omega)] at h; exact h
  · rw [if_pos z] at h; exact h
theorem xe_ent {post : SX → Prop} {p0 p1 p2 p3 : Int32} (hc : cap ≤ 256) (g : em_g cap t) (h : post (f_openMarkLength, f_closeMarkLength, f_openCount, f_compileFrom, f_compileTo, f_valueCount, nI cap, nI (em_l cap t ([38, p0, p1] ++ ((if p2 = 0 then [] else [p2]) ++ ((if p3 = 0 then [] else [p3]) ++ [59])))).2.1, f_frameCount, f_valueTextLength, f_renderAt, f_renderTo, f_returnAt, f_finished, (em_l cap t ([38, p0, p1] ++ ((if p2 = 0 then [] else [p2]) ++ ((if p3 = 0 then [] else [p3]) ++ [59])))).2.2, a_text, a_cellKind, a_cellName, a_tagEnd, a_sectionEnd, a_textLength, a_slotStatus, a_slotError, a_openMark, a_closeMark, a_openTags, a_valueKind, a_amount, a_parts, a_fieldValues, (em_l cap t ([38, p0, p1] ++ ((if p2 = 0 then [] else [p2]) ++ ((if p3 = 0 then [] else [p3]) ++ [59])))).1, a_frameValue, a_frameList, a_frameNext, a_frameBody, a_valueText)) : wpX_emitEntity post (f_openMarkLength, f_closeMarkLength, f_openCount, f_compileFrom, f_compileTo, f_valueCount, nI cap, nI (t).2.1, f_frameCount, f_valueTextLength, f_renderAt, f_renderTo, f_returnAt, f_finished, (t).2.2, a_text, a_cellKind, a_cellName, a_tagEnd, a_sectionEnd, a_textLength, a_slotStatus, a_slotError, a_openMark, a_closeMark, a_openTags, a_valueKind, a_amount, a_parts, a_fieldValues, (t).1, a_frameValue, a_frameList, a_frameNext, a_frameBody, a_valueText) p0 p1 p2 p3 := by
  have g1 := em_g1 g 38
  have g2 := em_g1 g1 p0
  have g3 := em_g1 g2 p1
  have k25 : ∀ t' : (Nat → Int32) × Nat × Int32, em_g cap t' → post (f_openMarkLength, f_closeMarkLength, f_openCount, f_compileFrom, f_compileTo, f_valueCount, nI cap, nI (em_l cap t' ((if p3 = 0 then [] else [p3]) ++ [59])).2.1, f_frameCount, f_valueTextLength, f_renderAt, f_renderTo, f_returnAt, f_finished, (em_l cap t' ((if p3 = 0 then [] else [p3]) ++ [59])).2.2, a_text, a_cellKind, a_cellName, a_tagEnd, a_sectionEnd, a_textLength, a_slotStatus, a_slotError, a_openMark, a_closeMark, a_openTags, a_valueKind, a_amount, a_parts, a_fieldValues, (em_l cap t' ((if p3 = 0 then [] else [p3]) ++ [59])).1, a_frameValue, a_frameList, a_frameNext, a_frameBody, a_valueText) → wX_emitEntity_25 post p3 f_openMarkLength f_closeMarkLength f_openCount f_compileFrom f_compileTo f_valueCount (nI cap) (nI (t').2.1) f_frameCount f_valueTextLength f_renderAt f_renderTo f_returnAt f_finished ((t').2.2) a_text a_cellKind a_cellName a_tagEnd a_sectionEnd a_textLength a_slotStatus a_slotError a_openMark a_closeMark a_openTags a_valueKind a_amount a_parts a_fieldValues ((t').1) a_frameValue a_frameList a_frameNext a_frameBody a_valueText := by
    intro t' g' h'
    by_cases z : p3 = 0
    · rw [if_pos z] at h'
      exact br_t z (xe_1 hc g' h')
    · rw [if_neg z] at h'
      exact br_f z (xe_1 hc g' (xe_1 hc (em_g1 g' p3) h'))
  unfold wpX_emitEntity
  refine xe_1 hc g (xe_1 hc g1 (xe_1 hc g2 ?_))
  by_cases z : p2 = 0
  · rw [if_pos z] at h
    exact br_t z (k25 _ g3 h)
  · rw [if_neg z] at h
    exact br_f z (xe_1 hc g3 (k25 _ (em_g1 g3 p2) h))
theorem xe_esc {post : SX → Prop} {c : Int32} (hc : cap ≤ 256) (g : em_g cap t) (h : post (f_openMarkLength, f_closeMarkLength, f_openCount, f_compileFrom, f_compileTo, f_valueCount, nI cap, nI (em_l cap t (em_e c)).2.1, f_frameCount, f_valueTextLength, f_renderAt, f_renderTo, f_returnAt, f_finished, (em_l cap t (em_e c)).2.2, a_text, a_cellKind, a_cellName, a_tagEnd, a_sectionEnd, a_textLength, a_slotStatus, a_slotError, a_openMark, a_closeMark, a_openTags, a_valueKind, a_amount, a_parts, a_fieldValues, (em_l cap t (em_e c)).1, a_frameValue, a_frameList, a_frameNext, a_frameBody, a_valueText)) : wpX_emitEscaped post (f_openMarkLength, f_closeMarkLength, f_openCount, f_compileFrom, f_compileTo, f_valueCount, nI cap, nI (t).2.1, f_frameCount, f_valueTextLength, f_renderAt, f_renderTo, f_returnAt, f_finished, (t).2.2, a_text, a_cellKind, a_cellName, a_tagEnd, a_sectionEnd, a_textLength, a_slotStatus, a_slotError, a_openMark, a_closeMark, a_openTags, a_valueKind, a_amount, a_parts, a_fieldValues, (t).1, a_frameValue, a_frameList, a_frameNext, a_frameBody, a_valueText) c := by
  unfold wpX_emitEscaped
  unfold em_e at h
  by_cases a1 : c = 38
  · rw [if_pos a1] at h
    subst a1
    exact br_f (by decide) (br_t rfl (xe_ent hc g h))
  · rw [if_neg a1] at h
    by_cases a2 : c = 60
    · rw [if_pos a2] at h
      subst a2
      exact br_f (by decide) (br_f (by decide) (br_f (by decide) (br_t rfl (xe_ent hc g h))))
    · rw [if_neg a2] at h
      by_cases a3 : c = 62
      · rw [if_pos a3] at h
        subst a3
        exact br_f (by decide) (br_f (by decide) (br_f (by decide) (br_f (by decide) (br_t rfl (xe_ent hc g h)))))
      · rw [if_neg a3] at h
        by_cases a4 : c = 34
        · rw [if_pos a4] at h
          subst a4
          exact br_t rfl (xe_ent hc g h)
        · rw [if_neg a4] at h
          by_cases a5 : c = 39
          · rw [if_pos a5] at h
            subst a5
            exact br_f (by decide) (br_f (by decide) (br_t rfl (xe_ent hc g h)))
          · rw [if_neg a5] at h
            exact br_f a4 (br_f a1 (br_f a5 (br_f a2 (br_f a3 (xe_1 hc g h)))))
theorem xe_var {post : SX → Prop} {vl : Nat} {x3 : Int32} {esc : Bool} (hc : cap ≤ 256) (hv : vl ≤ 11) (hx : (x3 = 0 ∧ esc = true) ∨ (x3 = 1 ∧ esc = false)) : ∀ d i (t : (Nat → Int32) × Nat × Int32), em_g cap t → i + d = vl → post (f_openMarkLength, f_closeMarkLength, f_openCount, f_compileFrom, f_compileTo, f_valueCount, nI cap, nI (em_l cap t (em_u esc a_valueText d i)).2.1, f_frameCount, nI vl, f_renderAt, f_renderTo, f_returnAt, f_finished, (em_l cap t (em_u esc a_valueText d i)).2.2, a_text, a_cellKind, a_cellName, a_tagEnd, a_sectionEnd, a_textLength, a_slotStatus, a_slotError, a_openMark, a_closeMark, a_openTags, a_valueKind, a_amount, a_parts, a_fieldValues, (em_l cap t (em_u esc a_valueText d i)).1, a_frameValue, a_frameList, a_frameNext, a_frameBody, a_valueText) → wX_emitVariable_35 post x3 (d + 1) (nI i) f_openMarkLength f_closeMarkLength f_openCount f_compileFrom f_compileTo f_valueCount (nI cap) (nI (t).2.1) f_frameCount (nI vl) f_renderAt f_renderTo f_returnAt f_finished ((t).2.2) a_text a_cellKind a_cellName a_tagEnd a_sectionEnd a_textLength a_slotStatus a_slotError a_openMark a_closeMark a_openTags a_valueKind a_amount a_parts a_fieldValues ((t).1) a_frameValue a_frameList a_frameNext a_frameBody a_valueText := by
  intro d
  induction d with
  | zero => intro i t g hi h; exact br_t (nI_le (by omega) (by omega)) h
  | succ d ih =>
    intro i t g hi h
    rw [em_us, em_a] at h
    have e : (nI i).toNatClampNeg = i := nI_clamp (by omega)
    refine br_f (nI_ge (by omega) (by omega)) ?_
    rcases hx with ⟨a, b⟩ | ⟨a, b⟩
    · subst b
      refine br_t a ⟨vp_in_nI (by omega) (by omega), ?_⟩
      rw [e]
      exact xe_esc hc g (nm_r (nI_1 _) (ih (i + 1) _ (em_gl _ g) (by omega) h))
    · subst b
      refine br_f (by rw [a]; decide) ⟨vp_in_nI (by omega) (by omega), ?_⟩
      rw [e]
      exact xe_1 hc g (nm_r (nI_1 _) (ih (i + 1) _ (em_g1 g _) (by omega) h))
theorem xt_ch {post : SX → Prop} {l : Nat} {c : Int32} (hl : l < 11) (h : post (f_openMarkLength, f_closeMarkLength, f_openCount, f_compileFrom, f_compileTo, f_valueCount, f_outCap, f_outCount, f_frameCount, nI (l + 1), f_renderAt, f_renderTo, f_returnAt, f_finished, f_overflowed, a_text, a_cellKind, a_cellName, a_tagEnd, a_sectionEnd, a_textLength, a_slotStatus, a_slotError, a_openMark, a_closeMark, a_openTags, a_valueKind, a_amount, a_parts, a_fieldValues, a_out, a_frameValue, a_frameList, a_frameNext, a_frameBody, upd a_valueText l c)) : wpX_takeChar post (f_openMarkLength, f_closeMarkLength, f_openCount, f_compileFrom, f_compileTo, f_valueCount, f_outCap, f_outCount, f_frameCount, nI l, f_renderAt, f_renderTo, f_returnAt, f_finished, f_overflowed, a_text, a_cellKind, a_cellName, a_tagEnd, a_sectionEnd, a_textLength, a_slotStatus, a_slotError, a_openMark, a_closeMark, a_openTags, a_valueKind, a_amount, a_parts, a_fieldValues, a_out, a_frameValue, a_frameList, a_frameNext, a_frameBody, a_valueText) c :=
  br_f (nI_ge (b := 11) hl (by decide)) ⟨vp_in_nI hl (by omega), nm_r (by rw [nI_clamp (by omega)]) (nm_r (nI_1 _) h)⟩
theorem xt_dc {post : Int32 → Prop} {m : Int32} : ∀ d c, c + d = 10 → post (nI (em_q m d c)) → wX_digitCount_7 post f_openMarkLength f_closeMarkLength f_openCount f_compileFrom f_compileTo f_valueCount f_outCap f_outCount f_frameCount f_valueTextLength f_renderAt f_renderTo f_returnAt f_finished f_overflowed a_text a_cellKind a_cellName a_tagEnd a_sectionEnd a_textLength a_slotStatus a_slotError a_openMark a_closeMark a_openTags a_valueKind a_amount a_parts a_fieldValues a_out a_frameValue a_frameList a_frameNext a_frameBody a_valueText (d + 1) (nI c) (ll_it m c) := by
  intro d
  induction d with
  | zero =>
    intro c hc h
    have e : c = 10 := by omega
    subst e
    exact br_c (fun _ => h) (fun _ => br_t (nI_le (a := 10) (b := 10) (by omega) (by decide)) h)
  | succ d ih =>
    intro c hc h
    rw [em_qs] at h
    by_cases z : ll_it m c = 0
    · rw [if_pos z] at h
      exact br_t z h
    · rw [if_neg z] at h
      exact br_f z (br_f (nI_ge (b := 10) (by omega) (by decide)) (nm_r (nI_1 _) ⟨by decide, nm_r (e' := ll_it m (c + 1)) rfl (ih (c + 1) (by omega) h)⟩))
theorem xt_44 {m x4 : Int32} {sg dc : Nat} (hs : sg ≤ 1) (hd : dc ≤ 10) : ∀ d (vt : Nat → Int32), d ≤ dc → (∀ i, d ≤ i → i < dc → vt (sg + i) = ll_dg m (dc - 1 - i)) → (sg = 1 → vt 0 = 45) → ∃ vt' : Nat → Int32, (∀ i, i < dc → vt' (sg + i) = ll_dg m (dc - 1 - i)) ∧ (sg = 1 → vt' 0 = 45) ∧ ∀ post : SX → Prop, post (f_openMarkLength, f_closeMarkLength, f_openCount, f_compileFrom, f_compileTo, f_valueCount, f_outCap, f_outCount, f_frameCount, x4, f_renderAt, f_renderTo, f_returnAt, f_finished, f_overflowed, a_text, a_cellKind, a_cellName, a_tagEnd, a_sectionEnd, a_textLength, a_slotStatus, a_slotError, a_openMark, a_closeMark, a_openTags, a_valueKind, a_amount, a_parts, a_fieldValues, a_out, a_frameValue, a_frameList, a_frameNext, a_frameBody, vt') → wX_takeNumber_44 post (nI sg) x4 f_openMarkLength f_closeMarkLength f_openCount f_compileFrom f_compileTo f_valueCount f_outCap f_outCount f_frameCount f_valueTextLength f_renderAt f_renderTo f_returnAt f_finished f_overflowed (d + 1) (ll_it m (dc - d)) (nI (sg + d) - 1) a_text a_cellKind a_cellName a_tagEnd a_sectionEnd a_textLength a_slotStatus a_slotError a_openMark a_closeMark a_openTags a_valueKind a_amount a_parts a_fieldValues a_out a_frameValue a_frameList a_frameNext a_frameBody vt := by
  intro d
  induction d with
  | zero =>
    intro vt _ h1 h2
    refine ⟨vt, fun i hi => h1 i (by omega) hi, h2, fun post h => br_t ?_ h⟩
    have d2 : ∀ sg, sg ≤ 1 → nI (sg + 0) - 1 < nI sg := by decide
    exact d2 sg hs
  | succ d ih =>
    intro vt hdc h1 h2
    have q1 : ∀ i, d ≤ i → i < dc → upd vt (sg + d) (ll_dg m (dc - 1 - d)) (sg + i) = ll_dg m (dc - 1 - i) := fun i i1 i2 => by
      by_cases w : i = d
      · rw [w, pk_us]
      · rw [pk_un (by omega)]; exact h1 i (by omega) i2
    have q2 : sg = 1 → upd vt (sg + d) (ll_dg m (dc - 1 - d)) 0 = 45 := fun z => by
      rw [pk_un (by omega)]; exact h2 z
    obtain ⟨vt', a, b, c⟩ := ih (upd vt (sg + d) (ll_dg m (dc - 1 - d))) (by omega) q1 q2
    refine ⟨vt', a, b, fun post h => ?_⟩
    have e : nI (sg + (d + 1)) - 1 = nI (sg + d) := nI_pred (sg + d)
    rw [e]
    refine br_f (nI_nlt (by omega) (by omega)) ⟨by decide, vp_in_nI (by omega) (by omega), nm_r (e' := upd vt (sg + d) (ll_dg m (dc - 1 - d))) ?_ ⟨by decide, nm_r (e' := ll_it m (dc - d)) ?_ (nm_r (Int32.sub_eq_add_neg _ _).symm (c post h))⟩⟩
    · rw [nI_clamp (by omega), show dc - (d + 1) = dc - 1 - d from by omega]
      rfl
    · rw [show dc - d = (dc - (d + 1)) + 1 from by omega]
      rfl
end LLEX
