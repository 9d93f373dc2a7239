section LLTOP
/-- the name of the last begun section, as Y keeps it -/
theorem cp_top {s n p ol cl m L0 p0 : Nat} {ps tp : Nat → Nat} {st : Nat → List Nat} {T K N E G oM cM oT R ty tA tB tN tM oc cc oN oK : Nat → Int32} (h : cp_I s n p ol cl m ps tp st T K N E G oM cM oT R ty tA tB tN tM oc cc oN oK) (hs : s < 4) (hp : p ≤ 96) (hp0 : p0 < 96) (hL : (st m).length = L0 + 1) (hO : oT L0 = nI (s * 96 + p0)) : oN L0 = N (s * 96 + p0) := by
  have h4 := h.2.2.2.1
  have hb := tk_sb h.2.2.1 m m (Nat.le_refl _) (Nat.le_refl _)
  cases hst : st m with
  | nil => rw [hst] at hL; exact absurd hL (by simp)
  | cons a l =>
    rw [hst] at h4 hL hb
    obtain ⟨o1, o2, o3, _⟩ := h4
    have e : l.length = L0 := by simpa using hL
    have ha := hb a (List.mem_cons.mpr (Or.inl rfl))
    have hpa := tk_lt h.1 (t := a) (t' := m) ha (Nat.le_refl _)
    rw [h.1.2.1] at hpa
    rw [e] at o1 o3
    have := la_im (o1.symm.trans hO) (by omega) (by omega)
    rw [o3, this]
end LLTOP
section LLMN
variable {f_openMarkLength f_closeMarkLength f_openCount f_compileFrom f_compileTo f_valueCount f_outCap f_outCount f_frameCount f_valueTextLength f_renderAt f_renderTo f_returnAt f_finished f_overflowed : Int32} {a_text a_cellKind a_cellName a_tagEnd a_sectionEnd a_textLength a_slotStatus a_slotError a_openMark a_closeMark a_openTags a_valueKind a_amount a_parts a_fieldValues a_out a_frameValue a_frameList a_frameNext a_frameBody a_valueText : Nat → Int32}
variable {s n : Nat} {T : Nat → Int32}
theorem cl_main (hs : s < 4) (hn : n ≤ 96) (hT : ∀ i, i < 96 → a_text (s * 96 + i) = T i) (hR : ∀ i, i < 96 → T i ≤ 126) : ∀ (F p ol cl L tg : Nat) (K N E G oM cM oT : Nat → Int32), n < p + F → p ≤ n → 1 ≤ ol → ol ≤ 3 → 1 ≤ cl → cl ≤ 3 → (∀ i, i < ol → 32 < oM i) → tg ≤ p → L ≤ 2 → (∀ i, i < L → ∃ p0, p0 < p ∧ oT i = nI (s * 96 + p0)) → cl_C s n T f_openMarkLength f_closeMarkLength f_openCount f_compileFrom f_compileTo f_valueCount f_outCap f_outCount f_frameCount f_valueTextLength f_renderAt f_renderTo f_returnAt f_finished f_overflowed a_text a_cellKind a_cellName a_tagEnd a_sectionEnd a_textLength a_slotStatus a_slotError a_openMark a_closeMark a_openTags a_valueKind a_amount a_parts a_fieldValues a_out a_frameValue a_frameList a_frameNext a_frameBody a_valueText F p ol cl L tg K N E G oM cM oT := by
  intro F
  induction F with
  | zero => intro p ol cl L tg K N E G oM cM oT h1 h2; omega
  | succ F ih =>
    intro p ol cl L tg K N E G oM cM oT hF hp ho1 ho3 hc1 hc3 hoM htg hL2 hoT
    cases hf : ll_fd T oM ol n (n + 1 - p) p with
    | none =>
      by_cases hL0 : L = 0
      · refine ⟨0, -1, nI ol, nI cl, nI L, K, N, E, G, oM, cM, oT, fun j hj => ⟨rfl, rfl, rfl, rfl⟩, fun _ => rfl, fun post h => ?_, ?_⟩
        · have h88 : wX_compile_88 post (nI s) 0 (nI (s * 96 + p)) (nI ol) (nI cl) (nI L) (nI (s * 96)) (nI (s * 96 + n)) f_valueCount f_outCap f_outCount f_frameCount f_valueTextLength f_renderAt f_renderTo f_returnAt f_finished f_overflowed a_text K N E G a_textLength a_slotStatus a_slotError oM cM oT a_valueKind a_amount a_parts a_fieldValues a_out a_frameValue a_frameList a_frameNext a_frameBody a_valueText := br_t rfl (br_t (by rw [hL0]; decide) (cx_107 hs (fun z => absurd rfl z) (fun _ => rfl) h))
          exact br_c (fun _ => h88) (fun _ => xl_findE_openMark (x := p) hs hT ho3 hn hp hf rfl (br_t rfl h88))
        · intro g_ol g_cl g_newOl g_newCl g_tagName g_parseErr g_openCount g_nVals g_outLen g_outCap g_fn g_cn b_text b_len b_stat b_errPos b_removed b_tType b_tA b_tB b_tName b_tMatch b_tCount b_oc b_cc b_newO b_newC b_openName b_openTok b_vKind b_vNum b_vCnt b_vStr b_vItem b_vKey b_vVal b_out b_fv b_cKind b_cSlot b_cTok b_cVal b_cIdx b_dig m ps tp st sp y1 y2 y3 y4 y5 y6
          obtain ⟨g_ol', g_cl', g_newOl', g_newCl', g_tagName', g_parseErr', g_openCount', b_removed', b_tType', b_tA', b_tB', b_tName', b_tMatch', b_tCount', b_oc', b_cc', b_newO', b_newC', b_openName', b_openTok', w1, w2, w3, w4⟩ := yz_endT hs y1 hR y2 hn hp ho1 ho3 hc1 hc3 y6 y3 y4 y5 hL0 hf
          exact ⟨g_ol', g_cl', g_newOl', g_newCl', g_tagName', g_parseErr', g_openCount', b_removed', b_tType', b_tA', b_tB', b_tName', b_tMatch', b_tCount', b_oc', b_cc', b_newO', b_newC', b_openName', b_openTok', w1, fun z => absurd rfl z, fun _ => w3, fun post h => w4 post F h⟩
      · refine ⟨-5, nI n, nI ol, nI cl, nI L, K, N, E, G, oM, cM, oT, fun j hj => ⟨rfl, rfl, rfl, rfl⟩, fun z => absurd z (by decide), fun post h => ?_, ?_⟩
        · have h88 : wX_compile_88 post (nI s) 0 (nI (s * 96 + p)) (nI ol) (nI cl) (nI L) (nI (s * 96)) (nI (s * 96 + n)) f_valueCount f_outCap f_outCount f_frameCount f_valueTextLength f_renderAt f_renderTo f_returnAt f_finished f_overflowed a_text K N E G a_textLength a_slotStatus a_slotError oM cM oT a_valueKind a_amount a_parts a_fieldValues a_out a_frameValue a_frameList a_frameNext a_frameBody a_valueText := br_t rfl (br_f (nI_nle (by omega) (by omega)) (cx_107 hs (fun _ => by rw [pk_sub (by omega)]; exact congrArg nI (by omega)) (fun z => absurd z (by decide)) h))
          exact br_c (fun _ => h88) (fun _ => xl_findE_openMark (x := p) hs hT ho3 hn hp hf rfl (br_t rfl h88))
        · intro g_ol g_cl g_newOl g_newCl g_tagName g_parseErr g_openCount g_nVals g_outLen g_outCap g_fn g_cn b_text b_len b_stat b_errPos b_removed b_tType b_tA b_tB b_tName b_tMatch b_tCount b_oc b_cc b_newO b_newC b_openName b_openTok b_vKind b_vNum b_vCnt b_vStr b_vItem b_vKey b_vVal b_out b_fv b_cKind b_cSlot b_cTok b_cVal b_cIdx b_dig m ps tp st sp y1 y2 y3 y4 y5 y6
          obtain ⟨g_ol', g_cl', g_newOl', g_newCl', g_tagName', g_parseErr', g_openCount', b_removed', b_tType', b_tA', b_tB', b_tName', b_tMatch', b_tCount', b_oc', b_cc', b_newO', b_newC', b_openName', b_openTok', w1, w2, w3⟩ := yz_endF hs y1 hR y2 hn hp ho1 ho3 hc1 hc3 y6 y3 y4 y5 (by omega) hf
          exact ⟨g_ol', g_cl', g_newOl', g_newCl', g_tagName', g_parseErr', g_openCount', b_removed', b_tType', b_tA', b_tB', b_tName', b_tMatch', b_tCount', b_oc', b_cc', b_newO', b_newC', b_openName', b_openTok', w1, fun _ => w2, fun z => absurd z (by decide), fun post h => w3 post F h⟩
    | some q =>
      obtain ⟨q1, q2, q3⟩ := ll_fd_s _ _ _ hf
      have hT32 : 32 < T q := by
        have h0 := hoM 0 (by omega)
        obtain ⟨o, ho⟩ : ∃ o, ol = o + 1 := ⟨ol - 1, by omega⟩
        rw [ho] at q3
        rw [ll_oc_hd q3]
        exact h0
      cases hf2 : ll_fd T cM cl n (n + 1 - (q + ol)) (q + ol) with
      | none =>
        refine ⟨-3, nI q, nI ol, nI cl, nI L, K, N, E, G, oM, cM, oT, fun j hj => ⟨rfl, rfl, rfl, rfl⟩, fun z => absurd z (by decide), fun post h => ?_, ?_⟩
        · exact br_f (nI_ge (b := 96) (by omega) (by decide)) (xl_findE_openMark (x := p) hs hT ho3 hn hp hf rfl (br_f (la_n1 (by omega)) (xr_A hs hT hn q2 hc3 hf2 (br_f (by decide) (cx_err hs (by decide) h)))))
        · intro g_ol g_cl g_newOl g_newCl g_tagName g_parseErr g_openCount g_nVals g_outLen g_outCap g_fn g_cn b_text b_len b_stat b_errPos b_removed b_tType b_tA b_tB b_tName b_tMatch b_tCount b_oc b_cc b_newO b_newC b_openName b_openTok b_vKind b_vNum b_vCnt b_vStr b_vItem b_vKey b_vVal b_out b_fv b_cKind b_cSlot b_cTok b_cVal b_cIdx b_dig m ps tp st sp y1 y2 y3 y4 y5 y6
          obtain ⟨g_ol', g_cl', g_newOl', g_newCl', g_tagName', g_parseErr', g_openCount', b_removed', b_tType', b_tA', b_tB', b_tName', b_tMatch', b_tCount', b_oc', b_cc', b_newO', b_newC', b_openName', b_openTok', w1, w2, w3⟩ := yz_A hs y1 hR y2 hn hp ho1 ho3 hc1 hc3 y6 y3 y4 y5 hf hf2
          exact ⟨g_ol', g_cl', g_newOl', g_newCl', g_tagName', g_parseErr', g_openCount', b_removed', b_tType', b_tA', b_tB', b_tName', b_tMatch', b_tCount', b_oc', b_cc', b_newO', b_newC', b_openName', b_openTok', w1, fun _ => w2, fun z => absurd z (by decide), fun post h => w3 post F h⟩
      | some r =>
        obtain ⟨r1, r2, r3⟩ := ll_fd_s _ _ _ hf2
        have kb := ll_kd_b T (q + ol) r
        by_cases hok : ll_ok T (q + ol) r
        · obtain ⟨K', N', oM', cM', ol', cl', hP, hgo⟩ := xr_C (f_openCount := nI L) (f_valueCount := f_valueCount) (f_outCap := f_outCap) (f_outCount := f_outCount) (f_frameCount := f_frameCount) (f_valueTextLength := f_valueTextLength) (f_renderAt := f_renderAt) (f_renderTo := f_renderTo) (f_returnAt := f_returnAt) (f_finished := f_finished) (f_overflowed := f_overflowed) (a_text := a_text) (a_cellKind := K) (a_cellName := N) (a_tagEnd := E) (a_sectionEnd := G) (a_textLength := a_textLength) (a_slotStatus := a_slotStatus) (a_slotError := a_slotError) (a_openMark := oM) (a_closeMark := cM) (a_openTags := oT) (a_valueKind := a_valueKind) (a_amount := a_amount) (a_parts := a_parts) (a_fieldValues := a_fieldValues) (a_out := a_out) (a_frameValue := a_frameValue) (a_frameList := a_frameList) (a_frameNext := a_frameNext) (a_frameBody := a_frameBody) (a_valueText := a_valueText) hs hT hn r1 r2 hc3 hf2 (by omega) hok hT32
          have hfrm : ∀ j, j < s * 96 ∨ s * 96 + 96 ≤ j → K' j = K j ∧ N' j = N j ∧ (upd E (s * 96 + q) (nI (s * 96 + (r + cl)))) j = E j := fun j hj => ⟨hP.2.2.1 j hj, hP.2.2.2.1 j (by omega), pk_un (by omega)⟩
          have hoT2 : ∀ i, i < L → ∃ p0, p0 < r + cl ∧ oT i = nI (s * 96 + p0) := fun i hi => by
            obtain ⟨p0, a, b⟩ := hoT i hi
            exact ⟨p0, by omega, b⟩
          by_cases k5 : ll_kd T (q + ol) r = 5
          · obtain ⟨z1, z2, z3, z4⟩ := hP.2.2.2.2.2.2 k5
            have hd : ll_dok T (q + ol) r := by
              unfold ll_ok at hok
              rw [if_neg (by omega), if_pos k5] at hok
              exact hok
            have hd4 := hd.2.2.2.1
            have hd5 := hd.2.2.2.2
            have hgd : ∀ i, i < ol' → 32 < oM' i := fun i hi => by
              rw [z3 i hi]
              exact (ll_sm_a (ll_dh T (q + ol) r - ll_da T (q + ol) r) (ll_da T (q + ol) r) (ll_da T (q + ol) r + i) (by omega) (show ll_da T (q + ol) r + i < ll_de T (q + ol) r from by omega)).1
            refine cl_go (p1 := r + cl) (ol1 := ol') (cl1 := cl') (L1 := L) (K1 := K') (N1 := N') (E1 := (upd E (s * 96 + q) (nI (s * 96 + (r + cl))))) (G1 := G) (oM1 := oM') (cM1 := cM') (oT1 := oT) (by omega) (fun j hj => ⟨(hfrm j hj).1, (hfrm j hj).2.1, (hfrm j hj).2.2, rfl⟩) (fun post h => ?_) ?_ (ih (r + cl) ol' cl' L (tg + 1) K' N' (upd E (s * 96 + q) (nI (s * 96 + (r + cl)))) G oM' cM' oT (by omega) (by omega) (by omega) (by omega) (by omega) (by omega) hgd (by omega) hL2 hoT2)
            · exact br_f (nI_ge (b := 96) (by omega) (by decide)) (xl_findE_openMark (x := p) hs hT ho3 hn hp hf rfl (br_f (la_n1 (by omega)) (hgo 0 (nI (L)) oT G (fun post' h' => xn_oth hs (by omega) hP.1 kb.2 (by omega) (by omega) (by omega) (fun _ => h') (fun y => by omega)) _ (br_t rfl ⟨vp_in_nI (by omega) (by omega), nm_r (e' := nI (s * 96 + (r + cl))) (by rw [show ll_oI (s * 96) (some q) = nI (s * 96 + q) from rfl, nI_clamp (by omega)]; exact pk_us) (nm_r (nI_1 _) h)⟩))))
            · intro g_ol g_cl g_newOl g_newCl g_tagName g_parseErr g_openCount g_nVals g_outLen g_outCap g_fn g_cn b_text b_len b_stat b_errPos b_removed b_tType b_tA b_tB b_tName b_tMatch b_tCount b_oc b_cc b_newO b_newC b_openName b_openTok b_vKind b_vNum b_vCnt b_vStr b_vItem b_vKey b_vVal b_out b_fv b_cKind b_cSlot b_cTok b_cVal b_cIdx b_dig m ps tp st sp y1 y2 y3 y4 y5 y6
              exact yz_set hs y1 hR y2 hn hp ho1 ho3 hc1 hc3 y6 y3 y4 y5 hf hf2 hok hT32 hP k5
          · obtain ⟨e1, e2, e3, e4⟩ := hP.2.2.2.2.2.1 k5
            have e1' := e1.symm
            have e2' := e2.symm
            have e3' := e3.symm
            have e4' := e4.symm
            clear e1 e2 e3 e4
            subst e1' e2' e3' e4'
            by_cases k6 : ll_kd T (q + ol) r = 6 ∨ ll_kd T (q + ol) r = 7
            · by_cases hLl : L < 2
              · have hoT3 : ∀ i, i < L + 1 → ∃ p0, p0 < r + cl ∧ upd oT L (nI (s * 96 + q)) i = nI (s * 96 + p0) := fun i hi => by
                  by_cases w : i = L
                  · exact ⟨q, by omega, by rw [w]; exact pk_us⟩
                  · obtain ⟨p0, a, b⟩ := hoT2 i (by omega)
                    exact ⟨p0, a, (pk_un w).trans b⟩
                refine cl_go (p1 := r + cl) (ol1 := ol) (cl1 := cl) (L1 := (L + 1)) (K1 := K') (N1 := N') (E1 := (upd E (s * 96 + q) (nI (s * 96 + (r + cl))))) (G1 := G) (oM1 := oM) (cM1 := cM) (oT1 := (upd oT L (nI (s * 96 + q)))) (by omega) (fun j hj => ⟨(hfrm j hj).1, (hfrm j hj).2.1, (hfrm j hj).2.2, rfl⟩) (fun post h => ?_) ?_ (ih (r + cl) ol cl (L + 1) (tg + 1) K' N' (upd E (s * 96 + q) (nI (s * 96 + (r + cl)))) G oM cM (upd oT L (nI (s * 96 + q))) (by omega) (by omega) ho1 ho3 hc1 hc3 hoM (by omega) (by omega) hoT3)
                · exact br_f (nI_ge (b := 96) (by omega) (by decide)) (xl_findE_openMark (x := p) hs hT ho3 hn hp hf rfl (br_f (la_n1 (by omega)) (hgo 0 (nI ((L + 1))) (upd oT L (nI (s * 96 + q))) G (fun post' h' => xn_beg hs (by omega) hL2 hP.1 k6 (fun _ => h') (fun y => by omega)) _ (br_t rfl ⟨vp_in_nI (by omega) (by omega), nm_r (e' := nI (s * 96 + (r + cl))) (by rw [show ll_oI (s * 96) (some q) = nI (s * 96 + q) from rfl, nI_clamp (by omega)]; exact pk_us) (nm_r (nI_1 _) h)⟩))))
                · intro g_ol g_cl g_newOl g_newCl g_tagName g_parseErr g_openCount g_nVals g_outLen g_outCap g_fn g_cn b_text b_len b_stat b_errPos b_removed b_tType b_tA b_tB b_tName b_tMatch b_tCount b_oc b_cc b_newO b_newC b_openName b_openTok b_vKind b_vNum b_vCnt b_vStr b_vItem b_vKey b_vVal b_out b_fv b_cKind b_cSlot b_cTok b_cVal b_cIdx b_dig m ps tp st sp y1 y2 y3 y4 y5 y6
                  exact yz_beg hs y1 hR y2 hn hp ho1 ho3 hc1 hc3 y6 y3 y4 y5 hf hf2 hok hT32 hP k6 hLl
              · refine ⟨-5, nI q, nI ol, nI cl, nI L, K', N', (upd E (s * 96 + q) (nI (s * 96 + (r + cl)))), G, oM, cM, oT, fun j hj => ⟨(hfrm j hj).1, (hfrm j hj).2.1, (hfrm j hj).2.2, rfl⟩, fun z => absurd z (by decide), fun post h => ?_, ?_⟩
                · exact br_f (nI_ge (b := 96) (by omega) (by decide)) (xl_findE_openMark (x := p) hs hT ho3 hn hp hf rfl (br_f (la_n1 (by omega)) (hgo (-5) (nI L) oT G (fun post' h' => xn_beg hs (by omega) hL2 hP.1 k6 (fun y => by omega) (fun _ => h')) _ (br_f (by decide) (cx_err hs (by decide) h)))))
                · intro g_ol g_cl g_newOl g_newCl g_tagName g_parseErr g_openCount g_nVals g_outLen g_outCap g_fn g_cn b_text b_len b_stat b_errPos b_removed b_tType b_tA b_tB b_tName b_tMatch b_tCount b_oc b_cc b_newO b_newC b_openName b_openTok b_vKind b_vNum b_vCnt b_vStr b_vItem b_vKey b_vVal b_out b_fv b_cKind b_cSlot b_cTok b_cVal b_cIdx b_dig m ps tp st sp y1 y2 y3 y4 y5 y6
                  obtain ⟨g_ol', g_cl', g_newOl', g_newCl', g_tagName', g_parseErr', g_openCount', b_removed', b_tType', b_tA', b_tB', b_tName', b_tMatch', b_tCount', b_oc', b_cc', b_newO', b_newC', b_openName', b_openTok', w1, w2, w3⟩ := yz_begF hs y1 hR y2 hn hp ho1 ho3 hc1 hc3 y6 y3 y4 y5 hf hf2 hok rfl k6 (by omega)
                  exact ⟨g_ol', g_cl', g_newOl', g_newCl', g_tagName', g_parseErr', g_openCount', b_removed', b_tType', b_tA', b_tB', b_tName', b_tMatch', b_tCount', b_oc', b_cc', b_newO', b_newC', b_openName', b_openTok', w1, fun _ => w2, fun z => absurd z (by decide), fun post h => w3 post F h⟩
            · by_cases k8 : ll_kd T (q + ol) r = 8
              · have hK8 : K' (s * 96 + q) = nI 8 := by rw [hP.1, k8]
                by_cases hL0 : L = 0
                · subst hL0
                  refine ⟨-5, nI q, nI ol, nI cl, nI 0, K', N', (upd E (s * 96 + q) (nI (s * 96 + (r + cl)))), G, oM, cM, oT, fun j hj => ⟨(hfrm j hj).1, (hfrm j hj).2.1, (hfrm j hj).2.2, rfl⟩, fun z => absurd z (by decide), fun post h => ?_, ?_⟩
                  · exact br_f (nI_ge (b := 96) (by omega) (by decide)) (xl_findE_openMark (x := p) hs hT ho3 hn hp hf rfl (br_f (la_n1 (by omega)) (hgo (-5) (nI 0) oT G (fun post' h' => xn_end0 hs (by omega) hK8 h') _ (br_f (by decide) (cx_err hs (by decide) h)))))
                  · intro g_ol g_cl g_newOl g_newCl g_tagName g_parseErr g_openCount g_nVals g_outLen g_outCap g_fn g_cn b_text b_len b_stat b_errPos b_removed b_tType b_tA b_tB b_tName b_tMatch b_tCount b_oc b_cc b_newO b_newC b_openName b_openTok b_vKind b_vNum b_vCnt b_vStr b_vItem b_vKey b_vVal b_out b_fv b_cKind b_cSlot b_cTok b_cVal b_cIdx b_dig m ps tp st sp y1 y2 y3 y4 y5 y6
                    obtain ⟨g_ol', g_cl', g_newOl', g_newCl', g_tagName', g_parseErr', g_openCount', b_removed', b_tType', b_tA', b_tB', b_tName', b_tMatch', b_tCount', b_oc', b_cc', b_newO', b_newC', b_openName', b_openTok', w1, w2, w3⟩ := yz_endF0 hs y1 hR y2 hn hp ho1 ho3 hc1 hc3 y6 y3 y4 y5 hf hf2 hok rfl k8 rfl
                    exact ⟨g_ol', g_cl', g_newOl', g_newCl', g_tagName', g_parseErr', g_openCount', b_removed', b_tType', b_tA', b_tB', b_tName', b_tMatch', b_tCount', b_oc', b_cc', b_newO', b_newC', b_openName', b_openTok', w1, fun _ => w2, fun z => absurd z (by decide), fun post h => w3 post F h⟩
                · obtain ⟨p0, hp0, hO⟩ := hoT (L - 1) (by omega)
                  obtain ⟨L0, hLL⟩ : ∃ L0, L = L0 + 1 := ⟨L - 1, by omega⟩
                  have hNp : N' (s * 96 + p0) = N (s * 96 + p0) := hP.2.2.2.1 _ (by omega)
                  have hNq : N' (s * 96 + q) = ll_na T (q + ol) r := hP.2.2.2.2.1 (by omega) (by omega)
                  subst hLL
                  have hO' : oT L0 = nI (s * 96 + p0) := hO
                  by_cases hnm : N' (s * 96 + p0) = N' (s * 96 + q)
                  · refine cl_go (p1 := r + cl) (ol1 := ol) (cl1 := cl) (L1 := L0) (K1 := K') (N1 := N') (E1 := (upd E (s * 96 + q) (nI (s * 96 + (r + cl))))) (G1 := (upd G (s * 96 + p0) (nI (s * 96 + (r + cl))))) (oM1 := oM) (cM1 := cM) (oT1 := oT) (by omega) (fun j hj => ⟨(hfrm j hj).1, (hfrm j hj).2.1, (hfrm j hj).2.2, pk_un (by omega)⟩) (fun post h => ?_) ?_ (ih (r + cl) ol cl L0 (tg + 1) K' N' (upd E (s * 96 + q) (nI (s * 96 + (r + cl)))) (upd G (s * 96 + p0) (nI (s * 96 + (r + cl)))) oM cM oT (by omega) (by omega) ho1 ho3 hc1 hc3 hoM (by omega) (by omega) (fun i hi => hoT2 i (by omega)))
                    · exact br_f (nI_ge (b := 96) (by omega) (by decide)) (xl_findE_openMark (x := p) hs hT ho3 hn hp hf rfl (br_f (la_n1 (by omega)) (hgo 0 (nI (L0)) oT (upd G (s * 96 + p0) (nI (s * 96 + (r + cl)))) (fun post' h' => xn_end hs (by omega) (by omega) (by omega) hK8 pk_us hO' (fun _ => h') (fun y => absurd hnm y)) _ (br_t rfl ⟨vp_in_nI (by omega) (by omega), nm_r (e' := nI (s * 96 + (r + cl))) (by rw [show ll_oI (s * 96) (some q) = nI (s * 96 + q) from rfl, nI_clamp (by omega)]; exact pk_us) (nm_r (nI_1 _) h)⟩))))
                    · intro g_ol g_cl g_newOl g_newCl g_tagName g_parseErr g_openCount g_nVals g_outLen g_outCap g_fn g_cn b_text b_len b_stat b_errPos b_removed b_tType b_tA b_tB b_tName b_tMatch b_tCount b_oc b_cc b_newO b_newC b_openName b_openTok b_vKind b_vNum b_vCnt b_vStr b_vItem b_vKey b_vVal b_out b_fv b_cKind b_cSlot b_cTok b_cVal b_cIdx b_dig m ps tp st sp y1 y2 y3 y4 y5 y6
                      exact yz_cls hs y1 hR y2 hn hp ho1 ho3 hc1 hc3 y6 y3 y4 y5 hf hf2 hok hT32 hP k8 (by omega) (by omega) hO (hNp.symm.trans (hnm.trans hNq))
                  · refine ⟨-5, nI q, nI ol, nI cl, nI (L0 + 1), K', N', (upd E (s * 96 + q) (nI (s * 96 + (r + cl)))), G, oM, cM, oT, fun j hj => ⟨(hfrm j hj).1, (hfrm j hj).2.1, (hfrm j hj).2.2, rfl⟩, fun z => absurd z (by decide), fun post h => ?_, ?_⟩
                    · exact br_f (nI_ge (b := 96) (by omega) (by decide)) (xl_findE_openMark (x := p) hs hT ho3 hn hp hf rfl (br_f (la_n1 (by omega)) (hgo (-5) (nI (L0 + 1)) oT G (fun post' h' => xn_end hs (by omega) (by omega) (by omega) hK8 pk_us hO' (fun y => absurd y hnm) (fun _ => h')) _ (br_f (by decide) (cx_err hs (by decide) h)))))
                    · intro g_ol g_cl g_newOl g_newCl g_tagName g_parseErr g_openCount g_nVals g_outLen g_outCap g_fn g_cn b_text b_len b_stat b_errPos b_removed b_tType b_tA b_tB b_tName b_tMatch b_tCount b_oc b_cc b_newO b_newC b_openName b_openTok b_vKind b_vNum b_vCnt b_vStr b_vItem b_vKey b_vVal b_out b_fv b_cKind b_cSlot b_cTok b_cVal b_cIdx b_dig m ps tp st sp y1 y2 y3 y4 y5 y6
                      obtain ⟨g_ol', g_cl', g_newOl', g_newCl', g_tagName', g_parseErr', g_openCount', b_removed', b_tType', b_tA', b_tB', b_tName', b_tMatch', b_tCount', b_oc', b_cc', b_newO', b_newC', b_openName', b_openTok', w1, w2, w3⟩ := yz_endF1 hs y1 hR y2 hn hp ho1 ho3 hc1 hc3 y6 y3 y4 y5 hf hf2 hok rfl k8 (by omega) (fun w => hnm (hNp.trans ((cp_top y4 hs (by omega) (by omega) y5 hO').symm.trans (w.trans hNq.symm))))
                      exact ⟨g_ol', g_cl', g_newOl', g_newCl', g_tagName', g_parseErr', g_openCount', b_removed', b_tType', b_tA', b_tB', b_tName', b_tMatch', b_tCount', b_oc', b_cc', b_newO', b_newC', b_openName', b_openTok', w1, fun _ => w2, fun z => absurd z (by decide), fun post h => w3 post F h⟩
              · by_cases k9 : ll_kd T (q + ol) r = 9 ∧ s ≠ 0
                · refine ⟨-6, nI q, nI ol, nI cl, nI L, K', N', (upd E (s * 96 + q) (nI (s * 96 + (r + cl)))), G, oM, cM, oT, fun j hj => ⟨(hfrm j hj).1, (hfrm j hj).2.1, (hfrm j hj).2.2, rfl⟩, fun z => absurd z (by decide), fun post h => ?_, ?_⟩
                  · exact br_f (nI_ge (b := 96) (by omega) (by decide)) (xl_findE_openMark (x := p) hs hT ho3 hn hp hf rfl (br_f (la_n1 (by omega)) (hgo (-6) (nI L) oT G (fun post' h' => xn_oth hs (by omega) hP.1 kb.2 (by omega) (by omega) k8 (fun y => absurd (y k9.1) k9.2) (fun _ _ => h')) _ (br_f (by decide) (cx_err hs (by decide) h)))))
                  · intro g_ol g_cl g_newOl g_newCl g_tagName g_parseErr g_openCount g_nVals g_outLen g_outCap g_fn g_cn b_text b_len b_stat b_errPos b_removed b_tType b_tA b_tB b_tName b_tMatch b_tCount b_oc b_cc b_newO b_newC b_openName b_openTok b_vKind b_vNum b_vCnt b_vStr b_vItem b_vKey b_vVal b_out b_fv b_cKind b_cSlot b_cTok b_cVal b_cIdx b_dig m ps tp st sp y1 y2 y3 y4 y5 y6
                    obtain ⟨g_ol', g_cl', g_newOl', g_newCl', g_tagName', g_parseErr', g_openCount', b_removed', b_tType', b_tA', b_tB', b_tName', b_tMatch', b_tCount', b_oc', b_cc', b_newO', b_newC', b_openName', b_openTok', w1, w2, w3⟩ := yz_incF hs y1 hR y2 hn hp ho1 ho3 hc1 hc3 y6 y3 y4 y5 hf hf2 hok rfl k9.1 k9.2
                    exact ⟨g_ol', g_cl', g_newOl', g_newCl', g_tagName', g_parseErr', g_openCount', b_removed', b_tType', b_tA', b_tB', b_tName', b_tMatch', b_tCount', b_oc', b_cc', b_newO', b_newC', b_openName', b_openTok', w1, fun _ => w2, fun z => absurd z (by decide), fun post h => w3 post F h⟩
                · have k9' : ll_kd T (q + ol) r = 9 → s = 0 := fun y => by
                    apply Classical.byContradiction
                    intro w
                    exact k9 ⟨y, w⟩
                  refine cl_go (p1 := r + cl) (ol1 := ol) (cl1 := cl) (L1 := L) (K1 := K') (N1 := N') (E1 := (upd E (s * 96 + q) (nI (s * 96 + (r + cl))))) (G1 := G) (oM1 := oM) (cM1 := cM) (oT1 := oT) (by omega) (fun j hj => ⟨(hfrm j hj).1, (hfrm j hj).2.1, (hfrm j hj).2.2, rfl⟩) (fun post h => ?_) ?_ (ih (r + cl) ol cl L (tg + 1) K' N' (upd E (s * 96 + q) (nI (s * 96 + (r + cl)))) G oM cM oT (by omega) (by omega) ho1 ho3 hc1 hc3 hoM (by omega) hL2 hoT2)
                  · exact br_f (nI_ge (b := 96) (by omega) (by decide)) (xl_findE_openMark (x := p) hs hT ho3 hn hp hf rfl (br_f (la_n1 (by omega)) (hgo 0 (nI (L)) oT G (fun post' h' => xn_oth hs (by omega) hP.1 kb.2 (by omega) (by omega) k8 (fun _ => h') (fun y z => absurd (k9' y) z)) _ (br_t rfl ⟨vp_in_nI (by omega) (by omega), nm_r (e' := nI (s * 96 + (r + cl))) (by rw [show ll_oI (s * 96) (some q) = nI (s * 96 + q) from rfl, nI_clamp (by omega)]; exact pk_us) (nm_r (nI_1 _) h)⟩))))
                  · intro g_ol g_cl g_newOl g_newCl g_tagName g_parseErr g_openCount g_nVals g_outLen g_outCap g_fn g_cn b_text b_len b_stat b_errPos b_removed b_tType b_tA b_tB b_tName b_tMatch b_tCount b_oc b_cc b_newO b_newC b_openName b_openTok b_vKind b_vNum b_vCnt b_vStr b_vItem b_vKey b_vVal b_out b_fv b_cKind b_cSlot b_cTok b_cVal b_cIdx b_dig m ps tp st sp y1 y2 y3 y4 y5 y6
                    exact yz_oth hs y1 hR y2 hn hp ho1 ho3 hc1 hc3 y6 y3 y4 y5 hf hf2 hok hT32 hP k5 (by omega) (by omega) k8 k9'
        · obtain ⟨N', hN', hgo⟩ := xr_B (f_openCount := nI L) (f_valueCount := f_valueCount) (f_outCap := f_outCap) (f_outCount := f_outCount) (f_frameCount := f_frameCount) (f_valueTextLength := f_valueTextLength) (f_renderAt := f_renderAt) (f_renderTo := f_renderTo) (f_returnAt := f_returnAt) (f_finished := f_finished) (f_overflowed := f_overflowed) (a_text := a_text) (a_cellKind := K) (a_cellName := N) (a_tagEnd := E) (a_sectionEnd := G) (a_textLength := a_textLength) (a_slotStatus := a_slotStatus) (a_slotError := a_slotError) (a_openMark := oM) (a_closeMark := cM) (a_openTags := oT) (a_valueKind := a_valueKind) (a_amount := a_amount) (a_parts := a_parts) (a_fieldValues := a_fieldValues) (a_out := a_out) (a_frameValue := a_frameValue) (a_frameList := a_frameList) (a_frameNext := a_frameNext) (a_frameBody := a_frameBody) (a_valueText := a_valueText) hs hT hn r1 r2 hc3 hf2 (by omega) hok
          refine ⟨-4, nI q, nI ol, nI cl, nI L, (upd K (s * 96 + q) (nI (ll_kd T (q + ol) r))), N', (upd E (s * 96 + q) (nI (s * 96 + (r + cl)))), G, oM, cM, oT, fun j hj => ⟨pk_un (by omega), hN' j (by omega), pk_un (by omega), rfl⟩, fun z => absurd z (by decide), fun post h => ?_, ?_⟩
          · exact br_f (nI_ge (b := 96) (by omega) (by decide)) (xl_findE_openMark (x := p) hs hT ho3 hn hp hf rfl (br_f (la_n1 (by omega)) (hgo _ (br_f (by decide) (cx_err hs (by decide) h)))))
          · intro g_ol g_cl g_newOl g_newCl g_tagName g_parseErr g_openCount g_nVals g_outLen g_outCap g_fn g_cn b_text b_len b_stat b_errPos b_removed b_tType b_tA b_tB b_tName b_tMatch b_tCount b_oc b_cc b_newO b_newC b_openName b_openTok b_vKind b_vNum b_vCnt b_vStr b_vItem b_vKey b_vVal b_out b_fv b_cKind b_cSlot b_cTok b_cVal b_cIdx b_dig m ps tp st sp y1 y2 y3 y4 y5 y6
            obtain ⟨g_ol', g_cl', g_newOl', g_newCl', g_tagName', g_parseErr', g_openCount', b_removed', b_tType', b_tA', b_tB', b_tName', b_tMatch', b_tCount', b_oc', b_cc', b_newO', b_newC', b_openName', b_openTok', w1, w2, w3⟩ := yz_B hs y1 hR y2 hn hp ho1 ho3 hc1 hc3 y6 y3 y4 y5 hf hf2 hok
            exact ⟨g_ol', g_cl', g_newOl', g_newCl', g_tagName', g_parseErr', g_openCount', b_removed', b_tType', b_tA', b_tB', b_tName', b_tMatch', b_tCount', b_oc', b_cc', b_newO', b_newC', b_openName', b_openTok', w1, fun _ => w2, fun z => absurd z (by decide), fun post h => w3 post F h⟩
end LLMN
