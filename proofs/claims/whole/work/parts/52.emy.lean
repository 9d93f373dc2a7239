section LLEY
variable {g_ol g_cl g_newOl g_newCl g_tagName g_parseErr g_openCount g_nVals g_outLen g_outCap g_fn g_cn : Int32} {b_text b_len b_stat b_errPos b_removed b_tType b_tA b_tB b_tName b_tMatch b_tCount b_oc b_cc b_newO b_newC b_openName b_openTok b_vKind b_vNum b_vCnt b_vStr b_vItem b_vKey b_vVal b_out b_fv b_cKind b_cSlot b_cTok b_cVal b_cIdx b_dig : Nat → Int32} {cap : Nat}
theorem ye_1 {t : (Nat → Int32) × Nat × Int32} {post : Int32 → SY → Prop} {c : Int32} (hc : cap ≤ 256) (g : em_g cap t) (hz : t.2.2 = 0) (h1 : (em_1 cap t c).2.2 = 0 → post 1 (g_ol, g_cl, g_newOl, g_newCl, g_tagName, g_parseErr, g_openCount, g_nVals, nI (em_1 cap t c).2.1, nI cap, g_fn, g_cn, b_text, b_len, b_stat, b_errPos, b_removed, b_tType, b_tA, b_tB, b_tName, b_tMatch, b_tCount, b_oc, b_cc, b_newO, b_newC, b_openName, b_openTok, b_vKind, b_vNum, b_vCnt, b_vStr, b_vItem, b_vKey, b_vVal, (em_1 cap t c).1, b_fv, b_cKind, b_cSlot, b_cTok, b_cVal, b_cIdx, b_dig)) (h0 : ¬ (em_1 cap t c).2.2 = 0 → post 0 (g_ol, g_cl, g_newOl, g_newCl, g_tagName, g_parseErr, g_openCount, g_nVals, nI (em_1 cap t c).2.1, nI cap, g_fn, g_cn, b_text, b_len, b_stat, b_errPos, b_removed, b_tType, b_tA, b_tB, b_tName, b_tMatch, b_tCount, b_oc, b_cc, b_newO, b_newC, b_openName, b_openTok, b_vKind, b_vNum, b_vCnt, b_vStr, b_vItem, b_vKey, b_vVal, (em_1 cap t c).1, b_fv, b_cKind, b_cSlot, b_cTok, b_cVal, b_cIdx, b_dig)) : wpY_emit post (g_ol, g_cl, g_newOl, g_newCl, g_tagName, g_parseErr, g_openCount, g_nVals, nI (t).2.1, nI cap, g_fn, g_cn, b_text, b_len, b_stat, b_errPos, b_removed, b_tType, b_tA, b_tB, b_tName, b_tMatch, b_tCount, b_oc, b_cc, b_newO, b_newC, b_openName, b_openTok, b_vKind, b_vNum, b_vCnt, b_vStr, b_vItem, b_vKey, b_vVal, (t).1, b_fv, b_cKind, b_cSlot, b_cTok, b_cVal, b_cIdx, b_dig) c := by
  have hk := g.1
  unfold em_1 at h1 h0
  refine pk_lt t.2.1 cap (fun z => ⟨vp_in_nI (by omega) (by omega), nm_r (by rw [nI_clamp (by omega)]) (nm_r (nI_1 _) ?_)⟩) (fun z => ?_)
  · rw [if_neg (by omega)] at h1; exact h1 hz
  · rw [if_pos z] at h0; exact h0 (show ¬ (1 : Int32) = 0 from by decide)
theorem ye_h {t : (Nat → Int32) × Nat × Int32} {post : Int32 → SY → Prop} {c : Int32} {l : List Int32} (g : em_g cap t) (h0 : ¬ (em_l cap t (c :: l)).2.2 = 0 → post 0 (g_ol, g_cl, g_newOl, g_newCl, g_tagName, g_parseErr, g_openCount, g_nVals, nI (em_l cap t (c :: l)).2.1, nI cap, g_fn, g_cn, b_text, b_len, b_stat, b_errPos, b_removed, b_tType, b_tA, b_tB, b_tName, b_tMatch, b_tCount, b_oc, b_cc, b_newO, b_newC, b_openName, b_openTok, b_vKind, b_vNum, b_vCnt, b_vStr, b_vItem, b_vKey, b_vVal, (em_l cap t (c :: l)).1, b_fv, b_cKind, b_cSlot, b_cTok, b_cVal, b_cIdx, b_dig)) (z : ¬ (em_1 cap t c).2.2 = 0) : post 0 (g_ol, g_cl, g_newOl, g_newCl, g_tagName, g_parseErr, g_openCount, g_nVals, nI (em_1 cap t c).2.1, nI cap, g_fn, g_cn, b_text, b_len, b_stat, b_errPos, b_removed, b_tType, b_tA, b_tB, b_tName, b_tMatch, b_tCount, b_oc, b_cc, b_newO, b_newC, b_openName, b_openTok, b_vKind, b_vNum, b_vCnt, b_vStr, b_vItem, b_vKey, b_vVal, (em_1 cap t c).1, b_fv, b_cKind, b_cSlot, b_cTok, b_cVal, b_cIdx, b_dig) := by
  have e : em_l cap t (c :: l) = em_1 cap t c := em_st (em_g1 g c) z l
  rw [e] at h0
  exact h0 z
theorem ye_esc {t : (Nat → Int32) × Nat × Int32} {post : Int32 → SY → Prop} {c : Int32} (hc : cap ≤ 256) (g : em_g cap t) (hz : t.2.2 = 0) (H1 : (em_l cap t (em_e c)).2.2 = 0 → post 1 (g_ol, g_cl, g_newOl, g_newCl, g_tagName, g_parseErr, g_openCount, g_nVals, nI (em_l cap t (em_e c)).2.1, nI cap, g_fn, g_cn, b_text, b_len, b_stat, b_errPos, b_removed, b_tType, b_tA, b_tB, b_tName, b_tMatch, b_tCount, b_oc, b_cc, b_newO, b_newC, b_openName, b_openTok, b_vKind, b_vNum, b_vCnt, b_vStr, b_vItem, b_vKey, b_vVal, (em_l cap t (em_e c)).1, b_fv, b_cKind, b_cSlot, b_cTok, b_cVal, b_cIdx, b_dig)) (H0 : ¬ (em_l cap t (em_e c)).2.2 = 0 → post 0 (g_ol, g_cl, g_newOl, g_newCl, g_tagName, g_parseErr, g_openCount, g_nVals, nI (em_l cap t (em_e c)).2.1, nI cap, g_fn, g_cn, b_text, b_len, b_stat, b_errPos, b_removed, b_tType, b_tA, b_tB, b_tName, b_tMatch, b_tCount, b_oc, b_cc, b_newO, b_newC, b_openName, b_openTok, b_vKind, b_vNum, b_vCnt, b_vStr, b_vItem, b_vKey, b_vVal, (em_l cap t (em_e c)).1, b_fv, b_cKind, b_cSlot, b_cTok, b_cVal, b_cIdx, b_dig)) : wpY_emitEsc post (g_ol, g_cl, g_newOl, g_newCl, g_tagName, g_parseErr, g_openCount, g_nVals, nI (t).2.1, nI cap, g_fn, g_cn, b_text, b_len, b_stat, b_errPos, b_removed, b_tType, b_tA, b_tB, b_tName, b_tMatch, b_tCount, b_oc, b_cc, b_newO, b_newC, b_openName, b_openTok, b_vKind, b_vNum, b_vCnt, b_vStr, b_vItem, b_vKey, b_vVal, (t).1, b_fv, b_cKind, b_cSlot, b_cTok, b_cVal, b_cIdx, b_dig) c := by
  unfold wpY_emitEsc
  unfold em_e at H1 H0
  by_cases a0 : c = 38
  · rw [if_pos a0] at H1 H0
    subst a0
    exact br_t rfl (ye_1 hc g hz (fun z0 => br_f (by decide) (ye_1 hc (em_g1 g 38) z0 (fun z1 => br_f (by decide) (ye_1 hc (em_g1 (em_g1 g 38) 97) z1 (fun z2 => br_f (by decide) (ye_1 hc (em_g1 (em_g1 (em_g1 g 38) 97) 109) z2 (fun z3 => br_f (by decide) (ye_1 hc (em_g1 (em_g1 (em_g1 (em_g1 g 38) 97) 109) 112) z3 (fun z => br_f (by decide) (H1 z)) (fun z => br_t rfl (H0 z)))) (fun z => br_t rfl (ye_h (post := post) (l := [59]) (em_g1 (em_g1 (em_g1 g 38) 97) 109) H0 z)))) (fun z => br_t rfl (ye_h (post := post) (l := [112, 59]) (em_g1 (em_g1 g 38) 97) H0 z)))) (fun z => br_t rfl (ye_h (post := post) (l := [109, 112, 59]) (em_g1 g 38) H0 z)))) (fun z => br_t rfl (ye_h (post := post) (l := [97, 109, 112, 59]) g H0 z)))
  · rw [if_neg a0] at H1 H0
    by_cases a1 : c = 60
    · rw [if_pos a1] at H1 H0
      subst a1
      exact br_f (by decide) (br_t rfl (ye_1 hc g hz (fun z0 => br_f (by decide) (ye_1 hc (em_g1 g 38) z0 (fun z1 => br_f (by decide) (ye_1 hc (em_g1 (em_g1 g 38) 108) z1 (fun z2 => br_f (by decide) (ye_1 hc (em_g1 (em_g1 (em_g1 g 38) 108) 116) z2 (fun z => br_f (by decide) (H1 z)) (fun z => br_t rfl (H0 z)))) (fun z => br_t rfl (ye_h (post := post) (l := [59]) (em_g1 (em_g1 g 38) 108) H0 z)))) (fun z => br_t rfl (ye_h (post := post) (l := [116, 59]) (em_g1 g 38) H0 z)))) (fun z => br_t rfl (ye_h (post := post) (l := [108, 116, 59]) g H0 z))))
    · rw [if_neg a1] at H1 H0
      by_cases a2 : c = 62
      · rw [if_pos a2] at H1 H0
        subst a2
        exact br_f (by decide) (br_f (by decide) (br_t rfl (ye_1 hc g hz (fun z0 => br_f (by decide) (ye_1 hc (em_g1 g 38) z0 (fun z1 => br_f (by decide) (ye_1 hc (em_g1 (em_g1 g 38) 103) z1 (fun z2 => br_f (by decide) (ye_1 hc (em_g1 (em_g1 (em_g1 g 38) 103) 116) z2 (fun z => br_f (by decide) (H1 z)) (fun z => br_t rfl (H0 z)))) (fun z => br_t rfl (ye_h (post := post) (l := [59]) (em_g1 (em_g1 g 38) 103) H0 z)))) (fun z => br_t rfl (ye_h (post := post) (l := [116, 59]) (em_g1 g 38) H0 z)))) (fun z => br_t rfl (ye_h (post := post) (l := [103, 116, 59]) g H0 z)))))
      · rw [if_neg a2] at H1 H0
        by_cases a3 : c = 34
        · rw [if_pos a3] at H1 H0
          subst a3
          exact br_f (by decide) (br_f (by decide) (br_f (by decide) (br_t rfl (ye_1 hc g hz (fun z0 => br_f (by decide) (ye_1 hc (em_g1 g 38) z0 (fun z1 => br_f (by decide) (ye_1 hc (em_g1 (em_g1 g 38) 113) z1 (fun z2 => br_f (by decide) (ye_1 hc (em_g1 (em_g1 (em_g1 g 38) 113) 117) z2 (fun z3 => br_f (by decide) (ye_1 hc (em_g1 (em_g1 (em_g1 (em_g1 g 38) 113) 117) 111) z3 (fun z4 => br_f (by decide) (ye_1 hc (em_g1 (em_g1 (em_g1 (em_g1 (em_g1 g 38) 113) 117) 111) 116) z4 (fun z => br_f (by decide) (H1 z)) (fun z => br_t rfl (H0 z)))) (fun z => br_t rfl (ye_h (post := post) (l := [59]) (em_g1 (em_g1 (em_g1 (em_g1 g 38) 113) 117) 111) H0 z)))) (fun z => br_t rfl (ye_h (post := post) (l := [116, 59]) (em_g1 (em_g1 (em_g1 g 38) 113) 117) H0 z)))) (fun z => br_t rfl (ye_h (post := post) (l := [111, 116, 59]) (em_g1 (em_g1 g 38) 113) H0 z)))) (fun z => br_t rfl (ye_h (post := post) (l := [117, 111, 116, 59]) (em_g1 g 38) H0 z)))) (fun z => br_t rfl (ye_h (post := post) (l := [113, 117, 111, 116, 59]) g H0 z))))))
        · rw [if_neg a3] at H1 H0
          by_cases a4 : c = 39
          · rw [if_pos a4] at H1 H0
            subst a4
            exact br_f (by decide) (br_f (by decide) (br_f (by decide) (br_f (by decide) (br_t rfl (ye_1 hc g hz (fun z0 => br_f (by decide) (ye_1 hc (em_g1 g 38) z0 (fun z1 => br_f (by decide) (ye_1 hc (em_g1 (em_g1 g 38) 35) z1 (fun z2 => br_f (by decide) (ye_1 hc (em_g1 (em_g1 (em_g1 g 38) 35) 51) z2 (fun z3 => br_f (by decide) (ye_1 hc (em_g1 (em_g1 (em_g1 (em_g1 g 38) 35) 51) 57) z3 (fun z => br_f (by decide) (H1 z)) (fun z => br_t rfl (H0 z)))) (fun z => br_t rfl (ye_h (post := post) (l := [59]) (em_g1 (em_g1 (em_g1 g 38) 35) 51) H0 z)))) (fun z => br_t rfl (ye_h (post := post) (l := [57, 59]) (em_g1 (em_g1 g 38) 35) H0 z)))) (fun z => br_t rfl (ye_h (post := post) (l := [51, 57, 59]) (em_g1 g 38) H0 z)))) (fun z => br_t rfl (ye_h (post := post) (l := [35, 51, 57, 59]) g H0 z)))))))
          · rw [if_neg a4] at H1 H0
            exact br_f a0 (br_f a1 (br_f a2 (br_f a3 (br_f a4 (ye_1 hc g hz (fun z => ⟨rfl, H1 z⟩) (fun z => ⟨rfl, H0 z⟩))))))
theorem ye_str {post : Int32 → SY → Prop} {j m : Nat} {x2 : Int32} {esc : Bool} {gg : Nat → Int32} (hc : cap ≤ 256) (hj : j < 32) (hm : m ≤ 8) (hC : b_vCnt j = nI m) (hg : ∀ i, i < m → b_vStr (j * 8 + i) = gg i) (hx : (x2 = 0 ∧ esc = false) ∨ (x2 = 1 ∧ esc = true)) : ∀ d i (t : (Nat → Int32) × Nat × Int32), em_g cap t → t.2.2 = 0 → i + d = m → ((em_l cap t (em_u esc gg d i)).2.2 = 0 → post 1 (g_ol, g_cl, g_newOl, g_newCl, g_tagName, g_parseErr, g_openCount, g_nVals, nI (em_l cap t (em_u esc gg d i)).2.1, nI cap, g_fn, g_cn, b_text, b_len, b_stat, b_errPos, b_removed, b_tType, b_tA, b_tB, b_tName, b_tMatch, b_tCount, b_oc, b_cc, b_newO, b_newC, b_openName, b_openTok, b_vKind, b_vNum, b_vCnt, b_vStr, b_vItem, b_vKey, b_vVal, (em_l cap t (em_u esc gg d i)).1, b_fv, b_cKind, b_cSlot, b_cTok, b_cVal, b_cIdx, b_dig)) → (¬ (em_l cap t (em_u esc gg d i)).2.2 = 0 → post 0 (g_ol, g_cl, g_newOl, g_newCl, g_tagName, g_parseErr, g_openCount, g_nVals, nI (em_l cap t (em_u esc gg d i)).2.1, nI cap, g_fn, g_cn, b_text, b_len, b_stat, b_errPos, b_removed, b_tType, b_tA, b_tB, b_tName, b_tMatch, b_tCount, b_oc, b_cc, b_newO, b_newC, b_openName, b_openTok, b_vKind, b_vNum, b_vCnt, b_vStr, b_vItem, b_vKey, b_vVal, (em_l cap t (em_u esc gg d i)).1, b_fv, b_cKind, b_cSlot, b_cTok, b_cVal, b_cIdx, b_dig)) → wY_emitValue_117 post (nI (j + 1)) x2 (d + 1) (nI i) g_ol g_cl g_newOl g_newCl g_tagName g_parseErr g_openCount g_nVals (nI (t).2.1) (nI cap) g_fn g_cn b_text b_len b_stat b_errPos b_removed b_tType b_tA b_tB b_tName b_tMatch b_tCount b_oc b_cc b_newO b_newC b_openName b_openTok b_vKind b_vNum b_vCnt b_vStr b_vItem b_vKey b_vVal ((t).1) b_fv b_cKind b_cSlot b_cTok b_cVal b_cIdx b_dig := by
  intro d
  induction d with
  | zero =>
    intro i t g hz hi H1 H0
    refine ⟨by rw [nI_pred]; exact vp_in_nI (by omega) (by omega), br_t ?_ (H1 hz)⟩
    rw [nI_pred, nI_clamp (by omega), hC]
    exact nI_le (by omega) (by omega)
  | succ d ih =>
    intro i t g hz hi H1 H0
    rw [em_us, em_a] at H1 H0
    have e1 : b_vCnt (nI (j + 1) - 1).toNatClampNeg = nI m := by rw [nI_pred, nI_clamp (by omega), hC]
    have e2 : (nI (j + 1) - 1) * 8 + nI i = nI (j * 8 + i) := by rw [nI_pred, la_m8, nI_add]
    have go : ∀ t' : (Nat → Int32) × Nat × Int32, t' = em_l cap t (em_h esc (gg i)) → (t'.2.2 = 0 → wY_emitValue_165 post (wY_emitValue_117 post (nI (j + 1)) x2 (d + 1)) (nI (j + 1)) x2 (nI i) 1 g_ol g_cl g_newOl g_newCl g_tagName g_parseErr g_openCount g_nVals (nI (t').2.1) (nI cap) g_fn g_cn b_text b_len b_stat b_errPos b_removed b_tType b_tA b_tB b_tName b_tMatch b_tCount b_oc b_cc b_newO b_newC b_openName b_openTok b_vKind b_vNum b_vCnt b_vStr b_vItem b_vKey b_vVal ((t').1) b_fv b_cKind b_cSlot b_cTok b_cVal b_cIdx b_dig) ∧ (¬ t'.2.2 = 0 → wY_emitValue_165 post (wY_emitValue_117 post (nI (j + 1)) x2 (d + 1)) (nI (j + 1)) x2 (nI i) 0 g_ol g_cl g_newOl g_newCl g_tagName g_parseErr g_openCount g_nVals (nI (t').2.1) (nI cap) g_fn g_cn b_text b_len b_stat b_errPos b_removed b_tType b_tA b_tB b_tName b_tMatch b_tCount b_oc b_cc b_newO b_newC b_openName b_openTok b_vKind b_vNum b_vCnt b_vStr b_vItem b_vKey b_vVal ((t').1) b_fv b_cKind b_cSlot b_cTok b_cVal b_cIdx b_dig) := by
      intro t' ht'
      have g' : em_g cap t' := by rw [ht']; exact em_gl _ g
      rw [← ht'] at H1 H0
      refine ⟨fun z => br_f (by decide) (nm_r (nI_1 _) (ih (i + 1) t' g' z (by omega) H1 H0)), fun z => br_t rfl ?_⟩
      rw [em_st g' z] at H0
      exact H0 z
    refine ⟨by rw [nI_pred]; exact vp_in_nI (by omega) (by omega), br_f (by rw [e1]; exact nI_ge (by omega) (by omega)) ⟨by rw [e2]; exact vp_in_nI (by omega) (by omega), nm_r (e' := gg i) (by rw [e2, nI_clamp (by omega)]; exact hg i (by omega)) ?_⟩⟩
    rcases hx with ⟨a, b⟩ | ⟨a, b⟩
    · subst b
      exact br_t a (ye_1 hc g hz (go (em_1 cap t (gg i)) rfl).1 (go (em_1 cap t (gg i)) rfl).2)
    · subst b
      exact br_f (by rw [a]; decide) (ye_esc hc g hz (go (em_l cap t (em_e (gg i))) rfl).1 (go (em_l cap t (em_e (gg i))) rfl).2)
theorem ye_dig {post : Int32 → SY → Prop} {m : Int32} {Q : Nat} (hc : cap ≤ 256) (hQ : Q ≤ 10) (hd : ∀ i, i < Q → b_dig i = -(ll_it m i - ll_it m i / 10 * 10)) : ∀ d (t : (Nat → Int32) × Nat × Int32), d ≤ Q → em_g cap t → t.2.2 = 0 → ((em_l cap t (em_d (ll_dg m) d)).2.2 = 0 → post 1 (g_ol, g_cl, g_newOl, g_newCl, g_tagName, g_parseErr, g_openCount, g_nVals, nI (em_l cap t (em_d (ll_dg m) d)).2.1, nI cap, g_fn, g_cn, b_text, b_len, b_stat, b_errPos, b_removed, b_tType, b_tA, b_tB, b_tName, b_tMatch, b_tCount, b_oc, b_cc, b_newO, b_newC, b_openName, b_openTok, b_vKind, b_vNum, b_vCnt, b_vStr, b_vItem, b_vKey, b_vVal, (em_l cap t (em_d (ll_dg m) d)).1, b_fv, b_cKind, b_cSlot, b_cTok, b_cVal, b_cIdx, b_dig)) → (¬ (em_l cap t (em_d (ll_dg m) d)).2.2 = 0 → post 0 (g_ol, g_cl, g_newOl, g_newCl, g_tagName, g_parseErr, g_openCount, g_nVals, nI (em_l cap t (em_d (ll_dg m) d)).2.1, nI cap, g_fn, g_cn, b_text, b_len, b_stat, b_errPos, b_removed, b_tType, b_tA, b_tB, b_tName, b_tMatch, b_tCount, b_oc, b_cc, b_newO, b_newC, b_openName, b_openTok, b_vKind, b_vNum, b_vCnt, b_vStr, b_vItem, b_vKey, b_vVal, (em_l cap t (em_d (ll_dg m) d)).1, b_fv, b_cKind, b_cSlot, b_cTok, b_cVal, b_cIdx, b_dig)) → wY_emitValue_274 post (d + 1) (nI d - 1) g_ol g_cl g_newOl g_newCl g_tagName g_parseErr g_openCount g_nVals (nI (t).2.1) (nI cap) g_fn g_cn b_text b_len b_stat b_errPos b_removed b_tType b_tA b_tB b_tName b_tMatch b_tCount b_oc b_cc b_newO b_newC b_openName b_openTok b_vKind b_vNum b_vCnt b_vStr b_vItem b_vKey b_vVal ((t).1) b_fv b_cKind b_cSlot b_cTok b_cVal b_cIdx b_dig := by
  intro d
  induction d with
  | zero => intro t _ g hz H1 H0; exact br_t (by decide) (H1 hz)
  | succ d ih =>
    intro t hdQ g hz H1 H0
    rw [em_ds] at H1 H0
    rw [nI_pred]
    have e : 48 + b_dig (nI d).toNatClampNeg = ll_dg m d := by
      rw [nI_clamp (by omega), hd d (by omega)]
      unfold ll_dg
      rw [Int32.sub_eq_add_neg 48]
    refine br_f (nI_pos (by omega)) ⟨vp_in_nI (by omega) (by omega), ?_⟩
    rw [e]
    refine ye_1 hc g hz (fun z => br_f (by decide) (nm_r (Int32.sub_eq_add_neg _ _).symm (ih _ (by omega) (em_g1 g _) z H1 H0))) (fun z => br_t rfl (ye_h (post := post) g H0 z))
theorem ye_224 {m : Int32} : ∀ d c (dig : Nat → Int32), c + d = 9 → (∀ i, i < c → dig i = -(ll_it m i - ll_it m i / 10 * 10)) → ∃ dig' : Nat → Int32, (∀ i, i < em_q m d (c + 1) → dig' i = -(ll_it m i - ll_it m i / 10 * 10)) ∧ ∀ post : Int32 → SY → Prop, (∃ n274, wY_emitValue_274 post n274 (nI (em_q m d (c + 1)) - 1) g_ol g_cl g_newOl g_newCl g_tagName g_parseErr g_openCount g_nVals g_outLen g_outCap g_fn g_cn b_text b_len b_stat b_errPos b_removed b_tType b_tA b_tB b_tName b_tMatch b_tCount b_oc b_cc b_newO b_newC b_openName b_openTok b_vKind b_vNum b_vCnt b_vStr b_vItem b_vKey b_vVal b_out b_fv b_cKind b_cSlot b_cTok b_cVal b_cIdx dig') → wY_emitValue_224 post g_ol g_cl g_newOl g_newCl g_tagName g_parseErr g_openCount g_nVals g_outLen g_outCap g_fn g_cn (d + 1) (ll_it m c) (nI c) (nI c) b_text b_len b_stat b_errPos b_removed b_tType b_tA b_tB b_tName b_tMatch b_tCount b_oc b_cc b_newO b_newC b_openName b_openTok b_vKind b_vNum b_vCnt b_vStr b_vItem b_vKey b_vVal b_out b_fv b_cKind b_cSlot b_cTok b_cVal b_cIdx dig := by
  intro d
  induction d with
  | zero =>
    intro c dig hcd h
    have e : c = 9 := by omega
    subst e
    refine ⟨upd dig 9 (-(ll_it m 9 - ll_it m 9 / 10 * 10)), fun i hi => ?_, fun post hp => ?_⟩
    · have hi' : i < 10 := hi
      by_cases w : i = 9
      · rw [w, pk_us]
      · rw [pk_un w]; exact h i (by omega)
    · exact br_f (by decide) ⟨by decide, vp_in_nI (n := 9) (by omega) (by omega), nm_e (nm_e ⟨by decide, nm_r (e' := ll_it m 10) rfl (br_t (ll_it_10 m) (nm_e hp))⟩)⟩
  | succ d ih =>
    intro c dig hcd h
    have q1 : ∀ i, i < c + 1 → upd dig c (-(ll_it m c - ll_it m c / 10 * 10)) i = -(ll_it m i - ll_it m i / 10 * 10) := fun i hi => by
      by_cases w : i = c
      · rw [w, pk_us]
      · rw [pk_un w]; exact h i (by omega)
    by_cases z : ll_it m (c + 1) = 0
    · have eq : em_q m (d + 1) (c + 1) = c + 1 := by rw [em_qs, if_pos z]
      rw [eq]
      refine ⟨_, q1, fun post hp => ?_⟩
      exact br_f (nI_ge (b := 11) (by omega) (by decide)) ⟨by decide, vp_in_nI (by omega) (by omega), nm_r (by rw [nI_clamp (by omega)]) (nm_r (nI_1 _) ⟨by decide, nm_r (e' := ll_it m (c + 1)) rfl (br_t z (nm_e hp))⟩)⟩
    · have eq : em_q m (d + 1) (c + 1) = em_q m d (c + 2) := by rw [em_qs, if_neg z]
      rw [eq]
      obtain ⟨dig', a, b⟩ := ih (c + 1) _ (by omega) q1
      refine ⟨dig', a, fun post hp => ?_⟩
      exact br_f (nI_ge (b := 11) (by omega) (by decide)) ⟨by decide, vp_in_nI (by omega) (by omega), nm_r (by rw [nI_clamp (by omega)]) (nm_r (nI_1 _) ⟨by decide, nm_r (e' := ll_it m (c + 1)) rfl (br_f z (nm_r (nI_1 _) (b post hp)))⟩)⟩
theorem ye_val {nv : Nat} {kd ct : Nat → Nat} {xk am pt fd : Nat → Int32} {esc : Bool} {x2 : Int32} {t : (Nat → Int32) × Nat × Int32} (hV : vl_R nv kd ct xk am pt fd b_vKind b_vNum b_vCnt b_vStr b_vItem b_vKey b_vVal) {j : Nat} (hj : j < nv) (hc : cap ≤ 256) (g : em_g cap t) (hz : t.2.2 = 0) (hx : (x2 = 0 ∧ esc = false) ∨ (x2 = 1 ∧ esc = true)) :
    ∃ dig' : Nat → Int32, ∀ post : Int32 → SY → Prop, ((em_l cap t (tx_l esc kd ct am pt (j + 1))).2.2 = 0 → post 1 (g_ol, g_cl, g_newOl, g_newCl, g_tagName, g_parseErr, g_openCount, nI nv, nI (em_l cap t (tx_l esc kd ct am pt (j + 1))).2.1, nI cap, g_fn, g_cn, b_text, b_len, b_stat, b_errPos, b_removed, b_tType, b_tA, b_tB, b_tName, b_tMatch, b_tCount, b_oc, b_cc, b_newO, b_newC, b_openName, b_openTok, b_vKind, b_vNum, b_vCnt, b_vStr, b_vItem, b_vKey, b_vVal, (em_l cap t (tx_l esc kd ct am pt (j + 1))).1, b_fv, b_cKind, b_cSlot, b_cTok, b_cVal, b_cIdx, dig')) → (¬ (em_l cap t (tx_l esc kd ct am pt (j + 1))).2.2 = 0 → post 0 (g_ol, g_cl, g_newOl, g_newCl, g_tagName, g_parseErr, g_openCount, nI nv, nI (em_l cap t (tx_l esc kd ct am pt (j + 1))).2.1, nI cap, g_fn, g_cn, b_text, b_len, b_stat, b_errPos, b_removed, b_tType, b_tA, b_tB, b_tName, b_tMatch, b_tCount, b_oc, b_cc, b_newO, b_newC, b_openName, b_openTok, b_vKind, b_vNum, b_vCnt, b_vStr, b_vItem, b_vKey, b_vVal, (em_l cap t (tx_l esc kd ct am pt (j + 1))).1, b_fv, b_cKind, b_cSlot, b_cTok, b_cVal, b_cIdx, dig')) → wpY_emitValue post (g_ol, g_cl, g_newOl, g_newCl, g_tagName, g_parseErr, g_openCount, nI nv, nI (t).2.1, nI cap, g_fn, g_cn, b_text, b_len, b_stat, b_errPos, b_removed, b_tType, b_tA, b_tB, b_tName, b_tMatch, b_tCount, b_oc, b_cc, b_newO, b_newC, b_openName, b_openTok, b_vKind, b_vNum, b_vCnt, b_vStr, b_vItem, b_vKey, b_vVal, (t).1, b_fv, b_cKind, b_cSlot, b_cTok, b_cVal, b_cIdx, b_dig) (nI (j + 1)) x2 := by
  obtain ⟨g1, g2, g3, g4, g5, g6, g7, g8, g9, g10, g11, g12, g13⟩ := hV.2 j hj
  have hnv := hV.1
  have m : ∀ w, w ≤ 6 → kd (j + 1) ≠ w → ¬ nI (kd (j + 1)) = nI w := fun w w1 w2 x => w2 (la_im x (by omega) (by omega))
  unfold tx_l
  by_cases k1 : kd (j + 1) = 1
  · rw [if_pos k1]
    rw [k1] at g5
    refine ⟨b_dig, fun post H1 H0 => ?_⟩
    unfold wpY_emitValue
    exact yl_kin hnv hj g5 (br_f (by decide) (br_t rfl (ye_1 hc g hz (fun z0 => br_f (by decide) (ye_1 hc (em_g1 g 102) z0 (fun z1 => br_f (by decide) (ye_1 hc (em_g1 (em_g1 g 102) 97) z1 (fun z2 => br_f (by decide) (ye_1 hc (em_g1 (em_g1 (em_g1 g 102) 97) 108) z2 (fun z3 => br_f (by decide) (ye_1 hc (em_g1 (em_g1 (em_g1 (em_g1 g 102) 97) 108) 115) z3 (fun z => br_f (by decide) (H1 z)) (fun z => br_t rfl (H0 z)))) (fun z => br_t rfl (ye_h (post := post) (l := [101]) (em_g1 (em_g1 (em_g1 g 102) 97) 108) H0 z)))) (fun z => br_t rfl (ye_h (post := post) (l := [115, 101]) (em_g1 (em_g1 g 102) 97) H0 z)))) (fun z => br_t rfl (ye_h (post := post) (l := [108, 115, 101]) (em_g1 g 102) H0 z)))) (fun z => br_t rfl (ye_h (post := post) (l := [97, 108, 115, 101]) g H0 z)))))
  · rw [if_neg k1]
    by_cases k2 : kd (j + 1) = 2
    · rw [if_pos k2]
      rw [k2] at g5
      refine ⟨b_dig, fun post H1 H0 => ?_⟩
      unfold wpY_emitValue
      exact yl_kin hnv hj g5 (br_t rfl (ye_1 hc g hz (fun z0 => br_f (by decide) (ye_1 hc (em_g1 g 116) z0 (fun z1 => br_f (by decide) (ye_1 hc (em_g1 (em_g1 g 116) 114) z1 (fun z2 => br_f (by decide) (ye_1 hc (em_g1 (em_g1 (em_g1 g 116) 114) 117) z2 (fun z => br_f (by decide) (H1 z)) (fun z => br_t rfl (H0 z)))) (fun z => br_t rfl (ye_h (post := post) (l := [101]) (em_g1 (em_g1 g 116) 114) H0 z)))) (fun z => br_t rfl (ye_h (post := post) (l := [117, 101]) (em_g1 g 116) H0 z)))) (fun z => br_t rfl (ye_h (post := post) (l := [114, 117, 101]) g H0 z))))
    · rw [if_neg k2]
      by_cases k3 : kd (j + 1) = 3
      · rw [if_pos k3]
        rw [k3] at g5
        have e7 := g7 k3
        have qb := em_qb (tx_m (am (j + 1))) 9 1
        have e8 : b_vNum (nI (j + 1) - 1).toNatClampNeg = am (j + 1) := by rw [nI_pred, nI_clamp (by omega)]; exact e7.symm
        have i8 : vp_in (nI (j + 1) - 1) 32 := by rw [nI_pred]; exact vp_in_nI (by omega) (by omega)
        unfold tx_n
        by_cases s0 : 0 ≤ am (j + 1)
        · rw [if_pos s0]
          have em : tx_m (am (j + 1)) = -am (j + 1) := if_pos s0
          obtain ⟨dig', a, b⟩ := ye_224 (g_ol := g_ol) (g_cl := g_cl) (g_newOl := g_newOl) (g_newCl := g_newCl) (g_tagName := g_tagName) (g_parseErr := g_parseErr) (g_openCount := g_openCount) (g_nVals := nI nv) (g_outLen := nI t.2.1) (g_outCap := nI cap) (g_fn := g_fn) (g_cn := g_cn) (b_text := b_text) (b_len := b_len) (b_stat := b_stat) (b_errPos := b_errPos) (b_removed := b_removed) (b_tType := b_tType) (b_tA := b_tA) (b_tB := b_tB) (b_tName := b_tName) (b_tMatch := b_tMatch) (b_tCount := b_tCount) (b_oc := b_oc) (b_cc := b_cc) (b_newO := b_newO) (b_newC := b_newC) (b_openName := b_openName) (b_openTok := b_openTok) (b_vKind := b_vKind) (b_vNum := b_vNum) (b_vCnt := b_vCnt) (b_vStr := b_vStr) (b_vItem := b_vItem) (b_vKey := b_vKey) (b_vVal := b_vVal) (b_out := t.1) (b_fv := b_fv) (b_cKind := b_cKind) (b_cSlot := b_cSlot) (b_cTok := b_cTok) (b_cVal := b_cVal) (b_cIdx := b_cIdx) (m := tx_m (am (j + 1))) 9 0 b_dig rfl (fun i hi => absurd hi (by omega))
          refine ⟨dig', fun post H1 H0 => ?_⟩
          unfold wpY_emitValue
          have r := b post ⟨_, ye_dig (Q := em_q (tx_m (am (j + 1))) 9 1) hc (by omega) a (em_q (tx_m (am (j + 1))) 9 1) t (Nat.le_refl _) g hz H1 H0⟩
          exact yl_kin hnv hj g5 (br_f (by decide) (br_f (by decide) (br_f (by decide) (br_t rfl ⟨i8, nm_r e8 (br_t s0 (nm_r em.symm ⟨_, r⟩))⟩))))
        · rw [if_neg s0]
          have em : tx_m (am (j + 1)) = am (j + 1) := if_neg s0
          by_cases ov : (em_1 cap t 45).2.2 = 0
          · obtain ⟨dig', a, b⟩ := ye_224 (g_ol := g_ol) (g_cl := g_cl) (g_newOl := g_newOl) (g_newCl := g_newCl) (g_tagName := g_tagName) (g_parseErr := g_parseErr) (g_openCount := g_openCount) (g_nVals := nI nv) (g_outLen := nI (em_1 cap t 45).2.1) (g_outCap := nI cap) (g_fn := g_fn) (g_cn := g_cn) (b_text := b_text) (b_len := b_len) (b_stat := b_stat) (b_errPos := b_errPos) (b_removed := b_removed) (b_tType := b_tType) (b_tA := b_tA) (b_tB := b_tB) (b_tName := b_tName) (b_tMatch := b_tMatch) (b_tCount := b_tCount) (b_oc := b_oc) (b_cc := b_cc) (b_newO := b_newO) (b_newC := b_newC) (b_openName := b_openName) (b_openTok := b_openTok) (b_vKind := b_vKind) (b_vNum := b_vNum) (b_vCnt := b_vCnt) (b_vStr := b_vStr) (b_vItem := b_vItem) (b_vKey := b_vKey) (b_vVal := b_vVal) (b_out := (em_1 cap t 45).1) (b_fv := b_fv) (b_cKind := b_cKind) (b_cSlot := b_cSlot) (b_cTok := b_cTok) (b_cVal := b_cVal) (b_cIdx := b_cIdx) (m := tx_m (am (j + 1))) 9 0 b_dig rfl (fun i hi => absurd hi (by omega))
            refine ⟨dig', fun post H1 H0 => ?_⟩
            unfold wpY_emitValue
            have r := b post ⟨_, ye_dig (Q := em_q (tx_m (am (j + 1))) 9 1) hc (by omega) a (em_q (tx_m (am (j + 1))) 9 1) (em_1 cap t 45) (Nat.le_refl _) (em_g1 g 45) ov H1 H0⟩
            rw [em] at r
            exact yl_kin hnv hj g5 (br_f (by decide) (br_f (by decide) (br_f (by decide) (br_t rfl ⟨i8, nm_r e8 (br_f s0 (ye_1 hc g hz (fun _ => br_f (by decide) ⟨_, r⟩) (fun z => absurd ov z)))⟩))))
          · refine ⟨b_dig, fun post H1 H0 => ?_⟩
            unfold wpY_emitValue
            exact yl_kin hnv hj g5 (br_f (by decide) (br_f (by decide) (br_f (by decide) (br_t rfl ⟨i8, nm_r e8 (br_f s0 (ye_1 hc g hz (fun z => absurd z ov) (fun z => br_t rfl (ye_h (post := post) g H0 z))))⟩))))
      · rw [if_neg k3]
        by_cases k4 : kd (j + 1) = 4
        · rw [if_pos k4]
          rw [k4] at g5
          refine ⟨b_dig, fun post H1 H0 => ?_⟩
          unfold wpY_emitValue
          exact yl_kin hnv hj g5 (br_f (by decide) (br_f (by decide) (br_t rfl ⟨_, ye_str hc (by omega) g3 g6 (fun i hi => (g11 k4 i hi).symm) hx (ct (j + 1)) 0 t g hz (by omega) H1 H0⟩)))
        · rw [if_neg k4]
          refine ⟨b_dig, fun post H1 H0 => ?_⟩
          unfold wpY_emitValue
          exact yl_kin hnv hj g5 (br_f (m 2 (by omega) k2) (br_f (m 1 (by omega) k1) (br_f (m 4 (by omega) k4) (br_f (m 3 (by omega) k3) (H1 hz)))))
theorem ye_non {nv : Nat} {post : Int32 → SY → Prop} {x2 : Int32} (h : post 1 (g_ol, g_cl, g_newOl, g_newCl, g_tagName, g_parseErr, g_openCount, nI nv, g_outLen, g_outCap, g_fn, g_cn, b_text, b_len, b_stat, b_errPos, b_removed, b_tType, b_tA, b_tB, b_tName, b_tMatch, b_tCount, b_oc, b_cc, b_newO, b_newC, b_openName, b_openTok, b_vKind, b_vNum, b_vCnt, b_vStr, b_vItem, b_vKey, b_vVal, b_out, b_fv, b_cKind, b_cSlot, b_cTok, b_cVal, b_cIdx, b_dig)) : wpY_emitValue post (g_ol, g_cl, g_newOl, g_newCl, g_tagName, g_parseErr, g_openCount, nI nv, g_outLen, g_outCap, g_fn, g_cn, b_text, b_len, b_stat, b_errPos, b_removed, b_tType, b_tA, b_tB, b_tName, b_tMatch, b_tCount, b_oc, b_cc, b_newO, b_newC, b_openName, b_openTok, b_vKind, b_vNum, b_vCnt, b_vStr, b_vItem, b_vKey, b_vVal, b_out, b_fv, b_cKind, b_cSlot, b_cTok, b_cVal, b_cIdx, b_dig) 0 x2 := by
  unfold wpY_emitValue
  exact yl_kout (Or.inl (by decide)) (br_f (by decide) (br_f (by decide) (br_f (by decide) (br_f (by decide) h))))
end LLEY
