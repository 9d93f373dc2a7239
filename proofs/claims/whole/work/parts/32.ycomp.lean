section LLYC
theorem la_33 {x : Int32} : x < 33 ↔ x ≤ 32 := by
  rw [Int32.lt_iff_toInt_lt, Int32.le_iff_toInt_le, show (33 : Int32).toInt = 33 from by decide, show (32 : Int32).toInt = 32 from by decide]
  omega
theorem dd_sep {T : Nat → Int32} {a b : Nat} (hd : ll_dok T a b) : T (ll_de T a b) = 32 ∧ ll_de T a b < ll_db T a b := by
  obtain ⟨h1, h2, h3, h4, h5⟩ := hd
  have hb := ll_d_b (T := T) (a := a) (b := b) h1
  have e0 : ll_db T a b = ll_sp T (ll_dh T a b - ll_de T a b) (ll_de T a b) := rfl
  obtain ⟨d, hdd⟩ : ∃ d, ll_dh T a b - ll_de T a b = d + 1 := ⟨ll_dh T a b - ll_de T a b - 1, by omega⟩
  rw [hdd, ll_sp_u] at e0
  by_cases z : T (ll_de T a b) = 32
  · rw [if_pos z] at e0
    have := ll_sp_b (T := T) d (ll_de T a b + 1)
    exact ⟨z, by omega⟩
  · rw [if_neg z] at e0
    have ng : ¬ ll_gd (T (ll_de T a b)) := ll_sm_n (ll_dh T a b - ll_da T a b) (ll_da T a b) (by
      have : ll_sm T (ll_dh T a b - ll_da T a b) (ll_da T a b) = ll_de T a b := rfl
      omega)
    have g : ll_gd (T (ll_db T a b)) := ll_sm_a (ll_dh T a b - ll_db T a b) (ll_db T a b) (ll_db T a b) (Nat.le_refl _) (by omega)
    rw [e0] at g
    exact absurd g ng
section YY
variable {g_ol g_cl g_newOl g_newCl g_tagName g_parseErr g_openCount g_nVals g_outLen g_outCap g_fn g_cn : Int32} {b_text b_len b_stat b_errPos b_removed b_tType b_tA b_tB b_tName b_tMatch b_tCount b_oc b_cc b_newO b_newC b_openName b_openTok b_vKind b_vNum b_vCnt b_vStr b_vItem b_vKey b_vVal b_out b_fv b_cKind b_cSlot b_cTok b_cVal b_cIdx b_dig : Nat → Int32}
section TXT
variable {s n : Nat} {T : Nat → Int32}
theorem yd_A {post : Int32 → SY → Prop} {D H e : Nat} (hs : s < 4) (hT : ∀ i, i < 96 → b_text (s * 96 + i) = T i) (hR : ∀ i, i < 96 → T i ≤ 126) (hH : H ≤ 96) (he : e ≤ H) (hg : ∀ j, D ≤ j → j < e → ll_gd (T j)) (h3 : e ≤ D + 3) (hx : e = H ∨ T e = 32) (hc : wY_setDelim_188 post (nI (s * 96)) (nI H) (nI e) (nI (e - D)) g_ol g_cl g_newOl g_newCl g_tagName g_parseErr g_openCount g_nVals g_outLen g_outCap g_fn g_cn b_text b_len b_stat b_errPos b_removed b_tType b_tA b_tB b_tName b_tMatch b_tCount b_oc b_cc (cy_f b_newO (fun j => T (D + j)) (e - D)) b_newC b_openName b_openTok b_vKind b_vNum b_vCnt b_vStr b_vItem b_vKey b_vVal b_out b_fv b_cKind b_cSlot b_cTok b_cVal b_cIdx b_dig) : ∀ d la, D + la + d = e → wY_setDelim_112 post (nI (s * 96)) (nI H) g_ol g_cl g_newOl g_newCl g_tagName g_parseErr g_openCount g_nVals g_outLen g_outCap g_fn g_cn (d + 1) (nI (D + la)) (nI la) b_text b_len b_stat b_errPos b_removed b_tType b_tA b_tB b_tName b_tMatch b_tCount b_oc b_cc (cy_f b_newO (fun j => T (D + j)) la) b_newC b_openName b_openTok b_vKind b_vNum b_vCnt b_vStr b_vItem b_vKey b_vVal b_out b_fv b_cKind b_cSlot b_cTok b_cVal b_cIdx b_dig := by
  intro d
  induction d with
  | zero =>
    intro la hl
    have e1 : la = e - D := by omega
    have e2 : D + la = e := by omega
    rw [e2, e1]
    by_cases z : e = H
    · exact br_t (nI_le (by omega) (by omega)) hc
    · rcases hx with x | x
      · exact absurd x z
      · refine br_f (nI_ge (by omega) (by omega)) ⟨by rw [nI_add]; exact vp_in_nI (by omega) (by omega), nm_r (e' := T e) (by rw [nI_add, nI_clamp (by omega)]; exact hT e (by omega)) (br_t x hc)⟩
  | succ d ih =>
    intro la hl
    obtain ⟨g1, g2⟩ := hg (D + la) (by omega) (by omega)
    refine br_f (nI_ge (by omega) (by omega)) ⟨by rw [nI_add]; exact vp_in_nI (by omega) (by omega), nm_r (e' := T (D + la)) (by rw [nI_add, nI_clamp (by omega)]; exact hT _ (by omega)) (br_f (fun y => absurd (y ▸ g1) (by decide)) (br_f (fun y => absurd g1 (Int32.not_lt.mpr (la_33.mp y))) (br_f (Int32.not_lt.mpr (hR _ (by omega))) (br_f g2 (br_t (nI_lt (b := 3) (by omega) (by decide)) ⟨vp_in_nI (by omega) (by omega), nm_r (by rw [nI_clamp (by omega)]; exact cy_s (g := fun j => T (D + j))) (nm_r (nI_1 _) (nm_r (nI_1 _) (ih (la + 1) (by omega))))⟩)))))⟩
theorem yd_AF {D H e : Nat} (hs : s < 4) (hT : ∀ i, i < 96 → b_text (s * 96 + i) = T i) (hR : ∀ i, i < 96 → T i ≤ 126) (hH : H ≤ 96) (he : e ≤ H) (hg : ∀ j, D ≤ j → j < e → ll_gd (T j)) (hb : e < H → ¬ ll_gd (T e)) (hx : D + 3 < e ∨ (e < H ∧ T e ≠ 32)) : ∀ d la, D + la + d = e → la ≤ 3 → ∃ o' : Nat → Int32, ∀ post : Int32 → SY → Prop, post (-1) (g_ol, g_cl, g_newOl, g_newCl, g_tagName, g_parseErr, g_openCount, g_nVals, g_outLen, g_outCap, g_fn, g_cn, b_text, b_len, b_stat, b_errPos, b_removed, b_tType, b_tA, b_tB, b_tName, b_tMatch, b_tCount, b_oc, b_cc, o', b_newC, b_openName, b_openTok, b_vKind, b_vNum, b_vCnt, b_vStr, b_vItem, b_vKey, b_vVal, b_out, b_fv, b_cKind, b_cSlot, b_cTok, b_cVal, b_cIdx, b_dig) → wY_setDelim_112 post (nI (s * 96)) (nI H) g_ol g_cl g_newOl g_newCl g_tagName g_parseErr g_openCount g_nVals g_outLen g_outCap g_fn g_cn (d + 1) (nI (D + la)) (nI la) b_text b_len b_stat b_errPos b_removed b_tType b_tA b_tB b_tName b_tMatch b_tCount b_oc b_cc (cy_f b_newO (fun j => T (D + j)) la) b_newC b_openName b_openTok b_vKind b_vNum b_vCnt b_vStr b_vItem b_vKey b_vVal b_out b_fv b_cKind b_cSlot b_cTok b_cVal b_cIdx b_dig := by
  intro d
  induction d with
  | zero =>
    intro la hl h3
    have e2 : D + la = e := by omega
    have hlt : e < H := by omega
    have hne : T e ≠ 32 := by
      rcases hx with x | x
      · omega
      · exact x.2
    refine ⟨cy_f b_newO (fun j => T (D + j)) la, fun post h => ?_⟩
    rw [e2]
    refine br_f (nI_ge (by omega) (by omega)) ⟨by rw [nI_add]; exact vp_in_nI (by omega) (by omega), nm_r (e' := T e) (by rw [nI_add, nI_clamp (by omega)]; exact hT _ (by omega)) (br_f hne (br_c (fun _ => h) (fun y => br_f (Int32.not_lt.mpr (hR _ (by omega))) (br_t ?_ h))))⟩
    apply Classical.byContradiction
    intro q
    exact hb hlt ⟨Int32.not_le.mp (fun w => y (la_33.mpr w)), q⟩
  | succ d ih =>
    intro la hl h3
    obtain ⟨g1, g2⟩ := hg (D + la) (by omega) (by omega)
    by_cases z : la < 3
    · obtain ⟨o', ho⟩ := ih (la + 1) (by omega) (by omega)
      refine ⟨o', fun post h => ?_⟩
      refine br_f (nI_ge (by omega) (by omega)) ⟨by rw [nI_add]; exact vp_in_nI (by omega) (by omega), nm_r (e' := T (D + la)) (by rw [nI_add, nI_clamp (by omega)]; exact hT _ (by omega)) (br_f (fun y => absurd (y ▸ g1) (by decide)) (br_f (fun y => absurd g1 (Int32.not_lt.mpr (la_33.mp y))) (br_f (Int32.not_lt.mpr (hR _ (by omega))) (br_f g2 (br_t (nI_lt (b := 3) (by omega) (by decide)) ⟨vp_in_nI (by omega) (by omega), nm_r (by rw [nI_clamp (by omega)]; exact cy_s (g := fun j => T (D + j))) (nm_r (nI_1 _) (nm_r (nI_1 _) (ho post h)))⟩)))))⟩
    · refine ⟨cy_f b_newO (fun j => T (D + j)) la, fun post h => ?_⟩
      refine br_f (nI_ge (by omega) (by omega)) ⟨by rw [nI_add]; exact vp_in_nI (by omega) (by omega), nm_r (e' := T (D + la)) (by rw [nI_add, nI_clamp (by omega)]; exact hT _ (by omega)) (br_f (fun y => absurd (y ▸ g1) (by decide)) (br_f (fun y => absurd g1 (Int32.not_lt.mpr (la_33.mp y))) (br_f (Int32.not_lt.mpr (hR _ (by omega))) (br_f g2 (br_f (nI_nlt (b := 3) (by omega) (by omega)) h)))))⟩
theorem yd_B {post : Int32 → SY → Prop} {D H : Nat} {w : Int32} (hs : s < 4) (hT : ∀ i, i < 96 → b_text (s * 96 + i) = T i) (hR : ∀ i, i < 96 → T i ≤ 126) (hH : H ≤ 96) (hg : ∀ j, D ≤ j → j < H → ll_gd (T j)) (h1 : D + 1 ≤ H) (h3 : H ≤ D + 3) (hc : post 3 (g_ol, g_cl, w, nI (H - D), g_tagName, g_parseErr, g_openCount, g_nVals, g_outLen, g_outCap, g_fn, g_cn, b_text, b_len, b_stat, b_errPos, b_removed, b_tType, b_tA, b_tB, b_tName, b_tMatch, b_tCount, b_oc, b_cc, b_newO, cy_f b_newC (fun j => T (D + j)) (H - D), b_openName, b_openTok, b_vKind, b_vNum, b_vCnt, b_vStr, b_vItem, b_vKey, b_vVal, b_out, b_fv, b_cKind, b_cSlot, b_cTok, b_cVal, b_cIdx, b_dig)) : ∀ d la, D + la + d = H → wY_setDelim_247 post (nI (s * 96)) (nI H) w g_ol g_cl g_newOl g_newCl g_tagName g_parseErr g_openCount g_nVals g_outLen g_outCap g_fn g_cn (d + 1) (nI la) (nI (D + la)) b_text b_len b_stat b_errPos b_removed b_tType b_tA b_tB b_tName b_tMatch b_tCount b_oc b_cc b_newO (cy_f b_newC (fun j => T (D + j)) la) b_openName b_openTok b_vKind b_vNum b_vCnt b_vStr b_vItem b_vKey b_vVal b_out b_fv b_cKind b_cSlot b_cTok b_cVal b_cIdx b_dig := by
  intro d
  induction d with
  | zero =>
    intro la hl
    have e1 : la = H - D := by omega
    have e2 : D + la = H := by omega
    rw [e2, e1]
    exact br_t (nI_le (by omega) (by omega)) (br_t (nI_le (a := 1) (by omega) (by omega)) hc)
  | succ d ih =>
    intro la hl
    obtain ⟨g1, g2⟩ := hg (D + la) (by omega) (by omega)
    refine br_f (nI_ge (by omega) (by omega)) ⟨by rw [nI_add]; exact vp_in_nI (by omega) (by omega), nm_r (e' := T (D + la)) (by rw [nI_add, nI_clamp (by omega)]; exact hT _ (by omega)) (br_f (fun y => absurd g1 (Int32.not_lt.mpr (la_33.mp y))) (br_f (Int32.not_lt.mpr (hR _ (by omega))) (br_f g2 (br_t (nI_lt (b := 3) (by omega) (by decide)) ⟨vp_in_nI (by omega) (by omega), nm_r (by rw [nI_clamp (by omega)]; exact cy_s (g := fun j => T (D + j))) (nm_r (nI_1 _) (nm_r (nI_1 _) (ih (la + 1) (by omega))))⟩))))⟩
theorem yd_BF {D H e : Nat} {w : Int32} (hs : s < 4) (hT : ∀ i, i < 96 → b_text (s * 96 + i) = T i) (hR : ∀ i, i < 96 → T i ≤ 126) (hH : H ≤ 96) (he : e ≤ H) (hg : ∀ j, D ≤ j → j < e → ll_gd (T j)) (hb : e < H → ¬ ll_gd (T e)) (hx : ¬ (e = H ∧ D + 1 ≤ H ∧ H ≤ D + 3)) : ∀ d la, D + la + d = H → la ≤ 3 → D + la ≤ e → ∃ o' : Nat → Int32, ∀ post : Int32 → SY → Prop, post (-1) (g_ol, g_cl, g_newOl, g_newCl, g_tagName, g_parseErr, g_openCount, g_nVals, g_outLen, g_outCap, g_fn, g_cn, b_text, b_len, b_stat, b_errPos, b_removed, b_tType, b_tA, b_tB, b_tName, b_tMatch, b_tCount, b_oc, b_cc, b_newO, o', b_openName, b_openTok, b_vKind, b_vNum, b_vCnt, b_vStr, b_vItem, b_vKey, b_vVal, b_out, b_fv, b_cKind, b_cSlot, b_cTok, b_cVal, b_cIdx, b_dig) → wY_setDelim_247 post (nI (s * 96)) (nI H) w g_ol g_cl g_newOl g_newCl g_tagName g_parseErr g_openCount g_nVals g_outLen g_outCap g_fn g_cn (d + 1) (nI la) (nI (D + la)) b_text b_len b_stat b_errPos b_removed b_tType b_tA b_tB b_tName b_tMatch b_tCount b_oc b_cc b_newO (cy_f b_newC (fun j => T (D + j)) la) b_openName b_openTok b_vKind b_vNum b_vCnt b_vStr b_vItem b_vKey b_vVal b_out b_fv b_cKind b_cSlot b_cTok b_cVal b_cIdx b_dig := by
  intro d
  induction d with
  | zero =>
    intro la hl h3 hle
    have e0 : la = 0 := by omega
    refine ⟨cy_f b_newC (fun j => T (D + j)) la, fun post h => ?_⟩
    exact br_t (nI_le (by omega) (by omega)) (br_f (by rw [e0]; decide) h)
  | succ d ih =>
    intro la hl h3 hle
    by_cases z0 : D + la < e
    · obtain ⟨g1, g2⟩ := hg (D + la) (by omega) (by omega)
      by_cases z : la < 3
      · obtain ⟨o', ho⟩ := ih (la + 1) (by omega) (by omega) (by omega)
        refine ⟨o', fun post h => ?_⟩
        refine br_f (nI_ge (by omega) (by omega)) ⟨by rw [nI_add]; exact vp_in_nI (by omega) (by omega), nm_r (e' := T (D + la)) (by rw [nI_add, nI_clamp (by omega)]; exact hT _ (by omega)) (br_f (fun y => absurd g1 (Int32.not_lt.mpr (la_33.mp y))) (br_f (Int32.not_lt.mpr (hR _ (by omega))) (br_f g2 (br_t (nI_lt (b := 3) (by omega) (by decide)) ⟨vp_in_nI (by omega) (by omega), nm_r (by rw [nI_clamp (by omega)]; exact cy_s (g := fun j => T (D + j))) (nm_r (nI_1 _) (nm_r (nI_1 _) (ho post h)))⟩))))⟩
      · refine ⟨cy_f b_newC (fun j => T (D + j)) la, fun post h => ?_⟩
        refine br_f (nI_ge (by omega) (by omega)) ⟨by rw [nI_add]; exact vp_in_nI (by omega) (by omega), nm_r (e' := T (D + la)) (by rw [nI_add, nI_clamp (by omega)]; exact hT _ (by omega)) (br_f (fun y => absurd g1 (Int32.not_lt.mpr (la_33.mp y))) (br_f (Int32.not_lt.mpr (hR _ (by omega))) (br_f g2 (br_f (nI_nlt (b := 3) (by omega) (by omega)) h))))⟩
    · have e2 : D + la = e := by omega
      refine ⟨cy_f b_newC (fun j => T (D + j)) la, fun post h => ?_⟩
      refine br_f (nI_ge (by omega) (by omega)) ⟨by rw [nI_add]; exact vp_in_nI (by omega) (by omega), nm_r (e' := T (D + la)) (by rw [nI_add, nI_clamp (by omega)]; exact hT _ (by omega)) (br_c (fun _ => h) (fun y => br_f (Int32.not_lt.mpr (hR _ (by omega))) (br_t ?_ h)))⟩
      apply Classical.byContradiction
      intro q
      exact hb (by omega) (e2 ▸ ⟨Int32.not_le.mp (fun w => y (la_33.mpr w)), q⟩)
theorem yd_200 {post : Int32 → SY → Prop} {H : Nat} {x7 x8 : Int32} (hs : s < 4) (hT : ∀ i, i < 96 → b_text (s * 96 + i) = T i) (hH : H ≤ 96) : ∀ d i, i + d = H → wY_setDelim_231 post (nI (s * 96)) (nI H) x7 x8 (nI (ll_sp T d i)) g_ol g_cl g_newOl g_newCl g_tagName g_parseErr g_openCount g_nVals g_outLen g_outCap g_fn g_cn b_text b_len b_stat b_errPos b_removed b_tType b_tA b_tB b_tName b_tMatch b_tCount b_oc b_cc b_newO b_newC b_openName b_openTok b_vKind b_vNum b_vCnt b_vStr b_vItem b_vKey b_vVal b_out b_fv b_cKind b_cSlot b_cTok b_cVal b_cIdx b_dig → wY_setDelim_200 post (nI (s * 96)) (nI H) x7 x8 g_ol g_cl g_newOl g_newCl g_tagName g_parseErr g_openCount g_nVals g_outLen g_outCap g_fn g_cn b_text b_len b_stat b_errPos b_removed b_tType b_tA b_tB b_tName b_tMatch b_tCount b_oc b_cc b_newO b_newC b_openName b_openTok b_vKind b_vNum b_vCnt b_vStr b_vItem b_vKey b_vVal b_out b_fv b_cKind b_cSlot b_cTok b_cVal b_cIdx b_dig (d + 1) (nI i) := by
  intro d
  induction d with
  | zero => intro i hi h; exact br_t (nI_le (by omega) (by omega)) h
  | succ d ih =>
    intro i hi h
    rw [ll_sp_u] at h
    have e2 : b_text (nI (s * 96) + nI i).toNatClampNeg = T i := by rw [nI_add, nI_clamp (by omega), hT _ (by omega)]
    refine br_f (nI_ge (by omega) (by omega)) ⟨by rw [nI_add]; exact vp_in_nI (by omega) (by omega), ?_⟩
    by_cases z : T i = 32
    · rw [if_pos z] at h
      exact br_t (e2.trans z) (nm_r (nI_1 _) (ih (i + 1) (by omega) h))
    · rw [if_neg z] at h
      exact br_f (fun y => z (e2.symm.trans y)) h
theorem yd_72 {post : Int32 → SY → Prop} {lo : Nat} (hs : s < 4) (hT : ∀ i, i < 96 → b_text (s * 96 + i) = T i) : ∀ d j, lo + d = j → j ≤ 96 → (∃ n112, wY_setDelim_112 post (nI (s * 96)) (nI (ll_sb T d j)) g_ol g_cl g_newOl g_newCl g_tagName g_parseErr g_openCount g_nVals g_outLen g_outCap g_fn g_cn n112 (nI lo) 0 b_text b_len b_stat b_errPos b_removed b_tType b_tA b_tB b_tName b_tMatch b_tCount b_oc b_cc b_newO b_newC b_openName b_openTok b_vKind b_vNum b_vCnt b_vStr b_vItem b_vKey b_vVal b_out b_fv b_cKind b_cSlot b_cTok b_cVal b_cIdx b_dig) → wY_setDelim_72 post (nI (s * 96)) (nI lo) g_ol g_cl g_newOl g_newCl g_tagName g_parseErr g_openCount g_nVals g_outLen g_outCap g_fn g_cn b_text b_len b_stat b_errPos b_removed b_tType b_tA b_tB b_tName b_tMatch b_tCount b_oc b_cc b_newO b_newC b_openName b_openTok b_vKind b_vNum b_vCnt b_vStr b_vItem b_vKey b_vVal b_out b_fv b_cKind b_cSlot b_cTok b_cVal b_cIdx b_dig (d + 1) (nI j) := by
  intro d
  induction d with
  | zero => intro j hi hj h; exact br_t (nI_le (by omega) (by omega)) h
  | succ d ih =>
    intro j hi hj h
    rw [ll_sb_u] at h
    have e1 : nI (s * 96) + nI j - 1 = nI (s * 96 + (j - 1)) := by rw [nI_add, la_s (by omega)]; exact congrArg nI (by omega)
    have e2 : b_text (nI (s * 96) + nI j - 1).toNatClampNeg = T (j - 1) := by rw [e1, nI_clamp (by omega), hT _ (by omega)]
    refine br_f (nI_ge (by omega) (by omega)) ⟨by rw [e1]; exact vp_in_nI (by omega) (by omega), ?_⟩
    by_cases z : T (j - 1) = 32
    · rw [if_pos z] at h
      exact br_t (e2.trans z) (nm_r (la_m (by omega)) (ih (j - 1) (by omega) (by omega) h))
    · rw [if_neg z] at h
      exact br_f (fun y => z (e2.symm.trans y)) h
theorem yd_41 {post : Int32 → SY → Prop} {H : Nat} (hs : s < 4) (hT : ∀ i, i < 96 → b_text (s * 96 + i) = T i) (hH : H ≤ 96) : ∀ d i, i + d = H → (∃ n72, wY_setDelim_72 post (nI (s * 96)) (nI (ll_sp T d i)) g_ol g_cl g_newOl g_newCl g_tagName g_parseErr g_openCount g_nVals g_outLen g_outCap g_fn g_cn b_text b_len b_stat b_errPos b_removed b_tType b_tA b_tB b_tName b_tMatch b_tCount b_oc b_cc b_newO b_newC b_openName b_openTok b_vKind b_vNum b_vCnt b_vStr b_vItem b_vKey b_vVal b_out b_fv b_cKind b_cSlot b_cTok b_cVal b_cIdx b_dig n72 (nI H)) → wY_setDelim_41 post (nI (s * 96)) (nI H) g_ol g_cl g_newOl g_newCl g_tagName g_parseErr g_openCount g_nVals g_outLen g_outCap g_fn g_cn b_text b_len b_stat b_errPos b_removed b_tType b_tA b_tB b_tName b_tMatch b_tCount b_oc b_cc b_newO b_newC b_openName b_openTok b_vKind b_vNum b_vCnt b_vStr b_vItem b_vKey b_vVal b_out b_fv b_cKind b_cSlot b_cTok b_cVal b_cIdx b_dig (d + 1) (nI i) := by
  intro d
  induction d with
  | zero => intro i hi h; exact br_t (nI_le (by omega) (by omega)) h
  | succ d ih =>
    intro i hi h
    rw [ll_sp_u] at h
    have e2 : b_text (nI (s * 96) + nI i).toNatClampNeg = T i := by rw [nI_add, nI_clamp (by omega), hT _ (by omega)]
    refine br_f (nI_ge (by omega) (by omega)) ⟨by rw [nI_add]; exact vp_in_nI (by omega) (by omega), ?_⟩
    by_cases z : T i = 32
    · rw [if_pos z] at h
      exact br_t (e2.trans z) (nm_r (nI_1 _) (ih (i + 1) (by omega) h))
    · rw [if_neg z] at h
      exact br_f (fun y => z (e2.symm.trans y)) h
/-- up to the loop over A -/
theorem yd_0 {post : Int32 → SY → Prop} {a b : Nat} (hs : s < 4) (hT : ∀ i, i < 96 → b_text (s * 96 + i) = T i) (hb : b ≤ 96) (hab : a + 3 ≤ b) (h61 : T (b - 1) = 61) (h : ∃ n112, wY_setDelim_112 post (nI (s * 96)) (nI (ll_dh T a b)) g_ol g_cl g_newOl g_newCl g_tagName g_parseErr g_openCount g_nVals g_outLen g_outCap g_fn g_cn n112 (nI (ll_da T a b)) 0 b_text b_len b_stat b_errPos b_removed b_tType b_tA b_tB b_tName b_tMatch b_tCount b_oc b_cc b_newO b_newC b_openName b_openTok b_vKind b_vNum b_vCnt b_vStr b_vItem b_vKey b_vVal b_out b_fv b_cKind b_cSlot b_cTok b_cVal b_cIdx b_dig) : wpY_setDelim post (g_ol, g_cl, g_newOl, g_newCl, g_tagName, g_parseErr, g_openCount, g_nVals, g_outLen, g_outCap, g_fn, g_cn, b_text, b_len, b_stat, b_errPos, b_removed, b_tType, b_tA, b_tB, b_tName, b_tMatch, b_tCount, b_oc, b_cc, b_newO, b_newC, b_openName, b_openTok, b_vKind, b_vNum, b_vCnt, b_vStr, b_vItem, b_vKey, b_vVal, b_out, b_fv, b_cKind, b_cSlot, b_cTok, b_cVal, b_cIdx, b_dig) (nI s) (nI a) (nI b) := by
  have hd := ll_d_b (T := T) (a := a) (b := b) hab
  unfold wpY_setDelim
  have e1 : nI (s * 96) + nI b - 1 = nI (s * 96 + (b - 1)) := by rw [nI_add, la_s (by omega)]; exact congrArg nI (by omega)
  have e2 : b_text (nI (s * 96) + nI b - 1).toNatClampNeg = T (b - 1) := by rw [e1, nI_clamp (by omega), hT _ (by omega)]
  refine nm_r (la_m96 s) (pk_lt (b - a) 3 (fun z => by omega) (fun z => ⟨by rw [e1]; exact vp_in_nI (by omega) (by omega), br_t (e2.trans h61) (nm_r (nI_1 _) (nm_r (la_s (by omega)) ⟨_, yd_41 hs hT (by omega) (b - 1 - (a + 1)) (a + 1) (by omega) ⟨_, yd_72 (lo := ll_da T a b) hs hT (b - 1 - ll_da T a b) (b - 1) (by omega) (by omega) h⟩⟩))⟩) (pk_sub (by omega)))
theorem yd_T {a b : Nat} (hs : s < 4) (hT : ∀ i, i < 96 → b_text (s * 96 + i) = T i) (hR : ∀ i, i < 96 → T i ≤ 126) (hb : b ≤ 96) (hd : ll_dok T a b) {post : Int32 → SY → Prop} (h : post 3 (g_ol, g_cl, nI (ll_de T a b - ll_da T a b), nI (ll_dh T a b - ll_db T a b), g_tagName, g_parseErr, g_openCount, g_nVals, g_outLen, g_outCap, g_fn, g_cn, b_text, b_len, b_stat, b_errPos, b_removed, b_tType, b_tA, b_tB, b_tName, b_tMatch, b_tCount, b_oc, b_cc, cy_f b_newO (fun j => T (ll_da T a b + j)) (ll_de T a b - ll_da T a b), cy_f b_newC (fun j => T (ll_db T a b + j)) (ll_dh T a b - ll_db T a b), b_openName, b_openTok, b_vKind, b_vNum, b_vCnt, b_vStr, b_vItem, b_vKey, b_vVal, b_out, b_fv, b_cKind, b_cSlot, b_cTok, b_cVal, b_cIdx, b_dig)) : wpY_setDelim post (g_ol, g_cl, g_newOl, g_newCl, g_tagName, g_parseErr, g_openCount, g_nVals, g_outLen, g_outCap, g_fn, g_cn, b_text, b_len, b_stat, b_errPos, b_removed, b_tType, b_tA, b_tB, b_tName, b_tMatch, b_tCount, b_oc, b_cc, b_newO, b_newC, b_openName, b_openTok, b_vKind, b_vNum, b_vCnt, b_vStr, b_vItem, b_vKey, b_vVal, b_out, b_fv, b_cKind, b_cSlot, b_cTok, b_cVal, b_cIdx, b_dig) (nI s) (nI a) (nI b) := by
  have sep := dd_sep hd
  have hB := ll_d_b (T := T) (a := a) (b := b) hd.1
  obtain ⟨d1, d2, d3, d4, d5⟩ := hd
  refine yd_0 hs hT hb d1 d2 ?_
  have gA : ∀ j, ll_da T a b ≤ j → j < ll_de T a b → ll_gd (T j) := fun j j1 j2 => ll_sm_a _ _ j j1 j2
  have gB : ∀ j, ll_db T a b ≤ j → j < ll_dh T a b → ll_gd (T j) := fun j j1 j2 => ll_sm_a (ll_dh T a b - ll_db T a b) (ll_db T a b) j j1 (by omega)
  have rB := yd_B (g_ol := g_ol) (g_cl := g_cl) (g_newOl := g_newOl) (g_newCl := g_newCl) (g_tagName := g_tagName) (g_parseErr := g_parseErr) (g_openCount := g_openCount) (g_nVals := g_nVals) (g_outLen := g_outLen) (g_outCap := g_outCap) (g_fn := g_fn) (g_cn := g_cn) (b_text := b_text) (b_len := b_len) (b_stat := b_stat) (b_errPos := b_errPos) (b_removed := b_removed) (b_tType := b_tType) (b_tA := b_tA) (b_tB := b_tB) (b_tName := b_tName) (b_tMatch := b_tMatch) (b_tCount := b_tCount) (b_oc := b_oc) (b_cc := b_cc) (b_newO := cy_f b_newO (fun j => T (ll_da T a b + j)) (ll_de T a b - ll_da T a b)) (b_newC := b_newC) (b_openName := b_openName) (b_openTok := b_openTok) (b_vKind := b_vKind) (b_vNum := b_vNum) (b_vCnt := b_vCnt) (b_vStr := b_vStr) (b_vItem := b_vItem) (b_vKey := b_vKey) (b_vVal := b_vVal) (b_out := b_out) (b_fv := b_fv) (b_cKind := b_cKind) (b_cSlot := b_cSlot) (b_cTok := b_cTok) (b_cVal := b_cVal) (b_cIdx := b_cIdx) (b_dig := b_dig) (post := post) (D := ll_db T a b) (H := ll_dh T a b) (w := nI (ll_de T a b - ll_da T a b)) hs hT hR (by omega) gB d5.1 d5.2 h (ll_dh T a b - ll_db T a b) 0 (by omega)
  rw [cy_0] at rB
  have rA := yd_A (g_ol := g_ol) (g_cl := g_cl) (g_newOl := g_newOl) (g_newCl := g_newCl) (g_tagName := g_tagName) (g_parseErr := g_parseErr) (g_openCount := g_openCount) (g_nVals := g_nVals) (g_outLen := g_outLen) (g_outCap := g_outCap) (g_fn := g_fn) (g_cn := g_cn) (b_text := b_text) (b_len := b_len) (b_stat := b_stat) (b_errPos := b_errPos) (b_removed := b_removed) (b_tType := b_tType) (b_tA := b_tA) (b_tB := b_tB) (b_tName := b_tName) (b_tMatch := b_tMatch) (b_tCount := b_tCount) (b_oc := b_oc) (b_cc := b_cc) (b_newO := b_newO) (b_newC := b_newC) (b_openName := b_openName) (b_openTok := b_openTok) (b_vKind := b_vKind) (b_vNum := b_vNum) (b_vCnt := b_vCnt) (b_vStr := b_vStr) (b_vItem := b_vItem) (b_vKey := b_vKey) (b_vVal := b_vVal) (b_out := b_out) (b_fv := b_fv) (b_cKind := b_cKind) (b_cSlot := b_cSlot) (b_cTok := b_cTok) (b_cVal := b_cVal) (b_cIdx := b_cIdx) (b_dig := b_dig) (post := post) (D := ll_da T a b) (H := ll_dh T a b) (e := ll_de T a b) hs hT hR (by omega) (by omega) gA d4.2 (Or.inr sep.1) (br_t (nI_le (a := 1) (by omega) (by omega)) ⟨_, yd_200 hs hT (by omega) (ll_dh T a b - ll_de T a b) (ll_de T a b) (by omega) (br_f (fun y => ?_) ⟨_, rB⟩)⟩) (ll_de T a b - ll_da T a b) 0 (by omega)
  · rw [cy_0] at rA
    exact ⟨_, rA⟩
  · have := la_im (a := ll_db T a b) (b := ll_de T a b) y (by omega) (by omega)
    omega
end TXT
end YY
end LLYC
