section LLYD
variable {g_ol g_cl g_newOl g_newCl g_tagName g_parseErr g_openCount g_nVals g_outLen g_outCap g_fn g_cn : Int32} {b_text b_len b_stat b_errPos b_removed b_tType b_tA b_tB b_tName b_tMatch b_tCount b_oc b_cc b_newO b_newC b_openName b_openTok b_vKind b_vNum b_vCnt b_vStr b_vItem b_vKey b_vVal b_out b_fv b_cKind b_cSlot b_cTok b_cVal b_cIdx b_dig : Nat → Int32}
section TXT
variable {s n a b : Nat} {T : Nat → Int32}
theorem yd_F (hs : s < 4) (hT : ∀ i, i < 96 → b_text (s * 96 + i) = T i) (hR : ∀ i, i < 96 → T i ≤ 126) (hb : b ≤ 96) (hab : a ≤ b) (hd : ¬ ll_dok T a b) : ∃ o' c' : Nat → Int32, ∀ post : Int32 → SY → Prop, post (-1) (g_ol, g_cl, g_newOl, g_newCl, g_tagName, g_parseErr, g_openCount, g_nVals, g_outLen, g_outCap, g_fn, g_cn, b_text, b_len, b_stat, b_errPos, b_removed, b_tType, b_tA, b_tB, b_tName, b_tMatch, b_tCount, b_oc, b_cc, o', c', b_openName, b_openTok, b_vKind, b_vNum, b_vCnt, b_vStr, b_vItem, b_vKey, b_vVal, b_out, b_fv, b_cKind, b_cSlot, b_cTok, b_cVal, b_cIdx, b_dig) → wpY_setDelim post (g_ol, g_cl, g_newOl, g_newCl, g_tagName, g_parseErr, g_openCount, g_nVals, g_outLen, g_outCap, g_fn, g_cn, b_text, b_len, b_stat, b_errPos, b_removed, b_tType, b_tA, b_tB, b_tName, b_tMatch, b_tCount, b_oc, b_cc, b_newO, b_newC, b_openName, b_openTok, b_vKind, b_vNum, b_vCnt, b_vStr, b_vItem, b_vKey, b_vVal, b_out, b_fv, b_cKind, b_cSlot, b_cTok, b_cVal, b_cIdx, b_dig) (nI s) (nI a) (nI b) := by
  by_cases h3 : a + 3 ≤ b
  · by_cases h61 : T (b - 1) = 61
    · have hB := ll_d_b (T := T) (a := a) (b := b) h3
      have gA : ∀ j, ll_da T a b ≤ j → j < ll_de T a b → ll_gd (T j) := fun j j1 j2 => ll_sm_a _ _ j j1 j2
      have nA : ll_de T a b < ll_dh T a b → ¬ ll_gd (T (ll_de T a b)) := fun w => ll_sm_n (ll_dh T a b - ll_da T a b) (ll_da T a b) (by
        have : ll_sm T (ll_dh T a b - ll_da T a b) (ll_da T a b) = ll_de T a b := rfl
        omega)
      by_cases f : ll_da T a b + 3 < ll_de T a b ∨ (ll_de T a b < ll_dh T a b ∧ T (ll_de T a b) ≠ 32)
      · obtain ⟨o', ho⟩ := yd_AF (g_ol := g_ol) (g_cl := g_cl) (g_newOl := g_newOl) (g_newCl := g_newCl) (g_tagName := g_tagName) (g_parseErr := g_parseErr) (g_openCount := g_openCount) (g_nVals := g_nVals) (g_outLen := g_outLen) (g_outCap := g_outCap) (g_fn := g_fn) (g_cn := g_cn) (b_text := b_text) (b_len := b_len) (b_stat := b_stat) (b_errPos := b_errPos) (b_removed := b_removed) (b_tType := b_tType) (b_tA := b_tA) (b_tB := b_tB) (b_tName := b_tName) (b_tMatch := b_tMatch) (b_tCount := b_tCount) (b_oc := b_oc) (b_cc := b_cc) (b_newO := b_newO) (b_newC := b_newC) (b_openName := b_openName) (b_openTok := b_openTok) (b_vKind := b_vKind) (b_vNum := b_vNum) (b_vCnt := b_vCnt) (b_vStr := b_vStr) (b_vItem := b_vItem) (b_vKey := b_vKey) (b_vVal := b_vVal) (b_out := b_out) (b_fv := b_fv) (b_cKind := b_cKind) (b_cSlot := b_cSlot) (b_cTok := b_cTok) (b_cVal := b_cVal) (b_cIdx := b_cIdx) (b_dig := b_dig) (D := ll_da T a b) (H := ll_dh T a b) (e := ll_de T a b) hs hT hR (by omega) (by omega) gA nA f (ll_de T a b - ll_da T a b) 0 (by omega) (by omega)
        refine ⟨o', b_newC, fun post h => yd_0 hs hT hb h3 h61 ?_⟩
        have r := ho post h
        rw [cy_0] at r
        exact ⟨_, r⟩
      · have f1 : ll_de T a b ≤ ll_da T a b + 3 := by omega
        have f2 : ll_de T a b = ll_dh T a b ∨ T (ll_de T a b) = 32 := by
          by_cases w : ll_de T a b = ll_dh T a b
          · exact Or.inl w
          · refine Or.inr (Classical.byContradiction (fun y => f (Or.inr ⟨by omega, y⟩)))
        have goA : ∀ (c' : Nat → Int32) (post : Int32 → SY → Prop), (wY_setDelim_188 post (nI (s * 96)) (nI (ll_dh T a b)) (nI (ll_de T a b)) (nI (ll_de T a b - ll_da T a b)) g_ol g_cl g_newOl g_newCl g_tagName g_parseErr g_openCount g_nVals g_outLen g_outCap g_fn g_cn b_text b_len b_stat b_errPos b_removed b_tType b_tA b_tB b_tName b_tMatch b_tCount b_oc b_cc (cy_f b_newO (fun j => T (ll_da T a b + j)) (ll_de T a b - ll_da T a b)) b_newC b_openName b_openTok b_vKind b_vNum b_vCnt b_vStr b_vItem b_vKey b_vVal b_out b_fv b_cKind b_cSlot b_cTok b_cVal b_cIdx b_dig) → wpY_setDelim post (g_ol, g_cl, g_newOl, g_newCl, g_tagName, g_parseErr, g_openCount, g_nVals, g_outLen, g_outCap, g_fn, g_cn, b_text, b_len, b_stat, b_errPos, b_removed, b_tType, b_tA, b_tB, b_tName, b_tMatch, b_tCount, b_oc, b_cc, b_newO, b_newC, b_openName, b_openTok, b_vKind, b_vNum, b_vCnt, b_vStr, b_vItem, b_vKey, b_vVal, b_out, b_fv, b_cKind, b_cSlot, b_cTok, b_cVal, b_cIdx, b_dig) (nI s) (nI a) (nI b) := by
          intro c' post h
          refine yd_0 hs hT hb h3 h61 ?_
          have rA := yd_A (g_ol := g_ol) (g_cl := g_cl) (g_newOl := g_newOl) (g_newCl := g_newCl) (g_tagName := g_tagName) (g_parseErr := g_parseErr) (g_openCount := g_openCount) (g_nVals := g_nVals) (g_outLen := g_outLen) (g_outCap := g_outCap) (g_fn := g_fn) (g_cn := g_cn) (b_text := b_text) (b_len := b_len) (b_stat := b_stat) (b_errPos := b_errPos) (b_removed := b_removed) (b_tType := b_tType) (b_tA := b_tA) (b_tB := b_tB) (b_tName := b_tName) (b_tMatch := b_tMatch) (b_tCount := b_tCount) (b_oc := b_oc) (b_cc := b_cc) (b_newO := b_newO) (b_newC := b_newC) (b_openName := b_openName) (b_openTok := b_openTok) (b_vKind := b_vKind) (b_vNum := b_vNum) (b_vCnt := b_vCnt) (b_vStr := b_vStr) (b_vItem := b_vItem) (b_vKey := b_vKey) (b_vVal := b_vVal) (b_out := b_out) (b_fv := b_fv) (b_cKind := b_cKind) (b_cSlot := b_cSlot) (b_cTok := b_cTok) (b_cVal := b_cVal) (b_cIdx := b_cIdx) (b_dig := b_dig) (post := post) (D := ll_da T a b) (H := ll_dh T a b) (e := ll_de T a b) hs hT hR (by omega) (by omega) gA f1 f2 h (ll_de T a b - ll_da T a b) 0 (by omega)
          rw [cy_0] at rA
          exact ⟨_, rA⟩
        by_cases l0 : ll_da T a b < ll_de T a b
        · by_cases dd : ll_db T a b = ll_de T a b
          · refine ⟨cy_f b_newO (fun j => T (ll_da T a b + j)) (ll_de T a b - ll_da T a b), b_newC, fun post h => goA b_newC post (br_t (nI_le (a := 1) (by omega) (by omega)) ⟨_, yd_200 hs hT (by omega) (ll_dh T a b - ll_de T a b) (ll_de T a b) (by omega) (br_t (congrArg nI dd) h)⟩)⟩
          · have hm := ll_sm_b (T := T) (ll_dh T a b - ll_db T a b) (ll_db T a b)
            obtain ⟨c', hc⟩ := yd_BF (g_ol := g_ol) (g_cl := g_cl) (g_newOl := g_newOl) (g_newCl := g_newCl) (g_tagName := g_tagName) (g_parseErr := g_parseErr) (g_openCount := g_openCount) (g_nVals := g_nVals) (g_outLen := g_outLen) (g_outCap := g_outCap) (g_fn := g_fn) (g_cn := g_cn) (b_text := b_text) (b_len := b_len) (b_stat := b_stat) (b_errPos := b_errPos) (b_removed := b_removed) (b_tType := b_tType) (b_tA := b_tA) (b_tB := b_tB) (b_tName := b_tName) (b_tMatch := b_tMatch) (b_tCount := b_tCount) (b_oc := b_oc) (b_cc := b_cc) (b_newO := cy_f b_newO (fun j => T (ll_da T a b + j)) (ll_de T a b - ll_da T a b)) (b_newC := b_newC) (b_openName := b_openName) (b_openTok := b_openTok) (b_vKind := b_vKind) (b_vNum := b_vNum) (b_vCnt := b_vCnt) (b_vStr := b_vStr) (b_vItem := b_vItem) (b_vKey := b_vKey) (b_vVal := b_vVal) (b_out := b_out) (b_fv := b_fv) (b_cKind := b_cKind) (b_cSlot := b_cSlot) (b_cTok := b_cTok) (b_cVal := b_cVal) (b_cIdx := b_cIdx) (b_dig := b_dig) (D := ll_db T a b) (H := ll_dh T a b) (e := ll_sm T (ll_dh T a b - ll_db T a b) (ll_db T a b)) (w := nI (ll_de T a b - ll_da T a b)) hs hT hR (by omega) (by omega) (fun j j1 j2 => ll_sm_a _ _ j j1 j2) (fun w => ll_sm_n _ _ (by omega)) (fun w => hd ⟨h3, h61, w.1, ⟨by omega, f1⟩, w.2⟩) (ll_dh T a b - ll_db T a b) 0 (by omega) (by omega) (by omega)
            refine ⟨cy_f b_newO (fun j => T (ll_da T a b + j)) (ll_de T a b - ll_da T a b), c', fun post h => goA c' post (br_t (nI_le (a := 1) (by omega) (by omega)) ⟨_, yd_200 hs hT (by omega) (ll_dh T a b - ll_de T a b) (ll_de T a b) (by omega) (br_f (fun y => dd (la_im (a := ll_db T a b) (b := ll_de T a b) y (by omega) (by omega))) ?_)⟩)⟩
            have r := hc post h
            rw [cy_0] at r
            exact ⟨_, r⟩
        · refine ⟨cy_f b_newO (fun j => T (ll_da T a b + j)) (ll_de T a b - ll_da T a b), b_newC, fun post h => goA b_newC post (br_f ?_ h)⟩
          rw [show ll_de T a b - ll_da T a b = 0 from by omega]
          decide
    · refine ⟨b_newO, b_newC, fun post h => ?_⟩
      unfold wpY_setDelim
      have e1 : nI (s * 96) + nI b - 1 = nI (s * 96 + (b - 1)) := by rw [nI_add, la_s (by omega)]; exact congrArg nI (by omega)
      have e2 : b_text (nI (s * 96) + nI b - 1).toNatClampNeg = T (b - 1) := by rw [e1, nI_clamp (by omega), hT _ (by omega)]
      exact nm_r (la_m96 s) (pk_lt (b - a) 3 (fun z => by omega) (fun z => ⟨by rw [e1]; exact vp_in_nI (by omega) (by omega), br_f (fun y => h61 (e2.symm.trans y)) h⟩) (pk_sub (by omega)))
  · refine ⟨b_newO, b_newC, fun post h => ?_⟩
    unfold wpY_setDelim
    exact nm_r (la_m96 s) (pk_lt (b - a) 3 (fun z => h) (fun z => by omega) (pk_sub (by omega)))
theorem ll_on_e : ll_on T a a = -1 := by
  unfold ll_on ll_ol ll_of
  rw [Nat.sub_self]
  simp only [ll_sp, Nat.sub_self, ll_sb]
  rw [if_neg (by omega)]
theorem ll_ok_lt (h : ll_ok T a b) (hab : a ≤ b) : a < b := by
  apply Classical.byContradiction
  intro q
  have e : a = b := by omega
  subst e
  have k2 : ll_kd T a a = 2 := by unfold ll_kd; rw [if_neg (by omega)]
  unfold ll_ok at h
  rw [if_neg (by omega), if_neg (by omega), if_neg (by omega)] at h
  unfold ll_na at h
  rw [if_pos k2, ll_on_e] at h
  revert h
  unfold ll_nm
  decide
/-- the kinds by the first character -/
theorem ll_kc_i (c : Int32) : (ll_kc c = 4 ↔ c = 33) ∧ (ll_kc c = 5 ↔ c = 61) ∧ (ll_kc c = 6 ↔ c = 35) ∧ (ll_kc c = 7 ↔ c = 94) ∧ (ll_kc c = 8 ↔ c = 47) ∧ (ll_kc c = 3 ↔ c = 38) ∧ (ll_kc c = 9 ↔ c = 62) := by
  by_cases h1 : c = 33
  · subst h1; decide
  · by_cases h2 : c = 61
    · subst h2; decide
    · by_cases h3 : c = 35
      · subst h3; decide
      · by_cases h4 : c = 94
        · subst h4; decide
        · by_cases h5 : c = 47
          · subst h5; decide
          · by_cases h6 : c = 38
            · subst h6; decide
            · by_cases h7 : c = 62
              · subst h7; decide
              · have e : ll_kc c = 2 := by
                  unfold ll_kc
                  rw [if_neg h1, if_neg h2, if_neg h3, if_neg h4, if_neg h5, if_neg h6, if_neg h7]
                rw [e]
                simp only [h1, h2, h3, h4, h5, h6, h7]
                decide
theorem yl_single' {post : Int32 → Prop} {lo hi : Nat} {x y : Int32} (hs : s < 4) (hT : ∀ i, i < 96 → b_text (s * 96 + i) = T i) (hh : hi ≤ 96) (hl : lo ≤ hi) (hx : x = nI lo) (hy : y = nI hi) (h : post (ll_on T lo hi)) : wpY_single post (g_ol, g_cl, g_newOl, g_newCl, g_tagName, g_parseErr, g_openCount, g_nVals, g_outLen, g_outCap, g_fn, g_cn, b_text, b_len, b_stat, b_errPos, b_removed, b_tType, b_tA, b_tB, b_tName, b_tMatch, b_tCount, b_oc, b_cc, b_newO, b_newC, b_openName, b_openTok, b_vKind, b_vNum, b_vCnt, b_vStr, b_vItem, b_vKey, b_vVal, b_out, b_fv, b_cKind, b_cSlot, b_cTok, b_cVal, b_cIdx, b_dig) (nI s) x y := by
  subst hx hy
  exact yl_single hs hT hh hl h
theorem yc_72 {post : Int32 → SY → Prop} {x4 : Int32} (hs : s < 4) (hT : ∀ i, i < 96 → b_text (s * 96 + i) = T i) (hb : b ≤ 96) (hab : a < b) (hk : ll_kd T a b ≠ 2) (hx : x4 = T a) (hk' : x4 = 35 ∨ x4 = 94 ∨ x4 = 47 ∨ x4 = 38)
    (h1 : ll_nm (ll_na T a b) → post (nI (ll_ty (ll_kd T a b))) (g_ol, g_cl, g_newOl, g_newCl, ll_na T a b, g_parseErr, g_openCount, g_nVals, g_outLen, g_outCap, g_fn, g_cn, b_text, b_len, b_stat, b_errPos, b_removed, b_tType, b_tA, b_tB, b_tName, b_tMatch, b_tCount, b_oc, b_cc, b_newO, b_newC, b_openName, b_openTok, b_vKind, b_vNum, b_vCnt, b_vStr, b_vItem, b_vKey, b_vVal, b_out, b_fv, b_cKind, b_cSlot, b_cTok, b_cVal, b_cIdx, b_dig)) (h0 : ¬ ll_nm (ll_na T a b) → post (-1) (g_ol, g_cl, g_newOl, g_newCl, g_tagName, g_parseErr, g_openCount, g_nVals, g_outLen, g_outCap, g_fn, g_cn, b_text, b_len, b_stat, b_errPos, b_removed, b_tType, b_tA, b_tB, b_tName, b_tMatch, b_tCount, b_oc, b_cc, b_newO, b_newC, b_openName, b_openTok, b_vKind, b_vNum, b_vCnt, b_vStr, b_vItem, b_vKey, b_vVal, b_out, b_fv, b_cKind, b_cSlot, b_cTok, b_cVal, b_cIdx, b_dig)) : wY_classify_72 post (nI s) (nI a) (nI b) x4 g_ol g_cl g_newOl g_newCl g_tagName g_parseErr g_openCount g_nVals g_outLen g_outCap g_fn g_cn b_text b_len b_stat b_errPos b_removed b_tType b_tA b_tB b_tName b_tMatch b_tCount b_oc b_cc b_newO b_newC b_openName b_openTok b_vKind b_vNum b_vCnt b_vStr b_vItem b_vKey b_vVal b_out b_fv b_cKind b_cSlot b_cTok b_cVal b_cIdx b_dig := by
  have e : ll_na T a b = ll_on T (a + 1) b := by unfold ll_na; rw [if_neg hk]
  have ek : ll_kd T a b = ll_kc x4 := by unfold ll_kd; rw [if_pos hab, hx]
  unfold wY_classify_72
  rw [e] at h1 h0
  rw [nI_1]
  refine yl_single (lo := a + 1) hs hT hb (by omega) (yl_isN (fun y => br_f (by decide) ?_) (fun y => br_t rfl (h0 y)))
  have h := h1 y
  rw [ek] at h
  rcases hk' with z | z | z | z
  · subst z; exact br_t rfl h
  · subst z; exact br_f (by decide) (br_t rfl h)
  · subst z; exact br_f (by decide) (br_f (by decide) (br_t rfl h))
  · subst z; exact br_f (by decide) (br_f (by decide) (br_f (by decide) h))
/-- the names' kinds -/
theorem yc_nm {post : Int32 → SY → Prop} (hs : s < 4) (hT : ∀ i, i < 96 → b_text (s * 96 + i) = T i) (hb : b ≤ 96) (hab : a < b) (n4 : ll_kd T a b ≠ 4) (n5 : ll_kd T a b ≠ 5)
    (h1 : ll_ok T a b → post (nI (ll_ty (ll_kd T a b))) (g_ol, g_cl, g_newOl, g_newCl, ll_na T a b, g_parseErr, g_openCount, g_nVals, g_outLen, g_outCap, g_fn, g_cn, b_text, b_len, b_stat, b_errPos, b_removed, b_tType, b_tA, b_tB, b_tName, b_tMatch, b_tCount, b_oc, b_cc, b_newO, b_newC, b_openName, b_openTok, b_vKind, b_vNum, b_vCnt, b_vStr, b_vItem, b_vKey, b_vVal, b_out, b_fv, b_cKind, b_cSlot, b_cTok, b_cVal, b_cIdx, b_dig)) (h0 : ¬ ll_ok T a b → post (-1) (g_ol, g_cl, g_newOl, g_newCl, g_tagName, g_parseErr, g_openCount, g_nVals, g_outLen, g_outCap, g_fn, g_cn, b_text, b_len, b_stat, b_errPos, b_removed, b_tType, b_tA, b_tB, b_tName, b_tMatch, b_tCount, b_oc, b_cc, b_newO, b_newC, b_openName, b_openTok, b_vKind, b_vNum, b_vCnt, b_vStr, b_vItem, b_vKey, b_vVal, b_out, b_fv, b_cKind, b_cSlot, b_cTok, b_cVal, b_cIdx, b_dig)) : wpY_classify post (g_ol, g_cl, g_newOl, g_newCl, g_tagName, g_parseErr, g_openCount, g_nVals, g_outLen, g_outCap, g_fn, g_cn, b_text, b_len, b_stat, b_errPos, b_removed, b_tType, b_tA, b_tB, b_tName, b_tMatch, b_tCount, b_oc, b_cc, b_newO, b_newC, b_openName, b_openTok, b_vKind, b_vNum, b_vCnt, b_vStr, b_vItem, b_vKey, b_vVal, b_out, b_fv, b_cKind, b_cSlot, b_cTok, b_cVal, b_cIdx, b_dig) (nI s) (nI a) (nI b) := by
  have okE : ll_ok T a b ↔ ((ll_kd T a b = 9 → 49 ≤ ll_na T a b ∧ ll_na T a b ≤ 51) ∧ (ll_kd T a b ≠ 9 → ll_nm (ll_na T a b))) := by
    unfold ll_ok
    rw [if_neg n4, if_neg n5]
    by_cases z : ll_kd T a b = 9
    · rw [if_pos z]
      exact ⟨fun y => ⟨fun _ => y, fun w => absurd z w⟩, fun y => y.1 z⟩
    · rw [if_neg z]
      exact ⟨fun y => ⟨fun w => absurd w z, fun _ => y⟩, fun y => y.2 z⟩
  have ek : ll_kd T a b = ll_kc (T a) := by unfold ll_kd; rw [if_pos hab]
  have ki := ll_kc_i (T a)
  rw [← ek] at ki
  have g1 : ll_kd T a b ≠ 9 → ll_nm (ll_na T a b) → post (nI (ll_ty (ll_kd T a b))) (g_ol, g_cl, g_newOl, g_newCl, ll_na T a b, g_parseErr, g_openCount, g_nVals, g_outLen, g_outCap, g_fn, g_cn, b_text, b_len, b_stat, b_errPos, b_removed, b_tType, b_tA, b_tB, b_tName, b_tMatch, b_tCount, b_oc, b_cc, b_newO, b_newC, b_openName, b_openTok, b_vKind, b_vNum, b_vCnt, b_vStr, b_vItem, b_vKey, b_vVal, b_out, b_fv, b_cKind, b_cSlot, b_cTok, b_cVal, b_cIdx, b_dig) := fun y z => h1 (okE.mpr ⟨fun w => absurd w y, fun _ => z⟩)
  have g0 : ll_kd T a b ≠ 9 → ¬ ll_nm (ll_na T a b) → post (-1) (g_ol, g_cl, g_newOl, g_newCl, g_tagName, g_parseErr, g_openCount, g_nVals, g_outLen, g_outCap, g_fn, g_cn, b_text, b_len, b_stat, b_errPos, b_removed, b_tType, b_tA, b_tB, b_tName, b_tMatch, b_tCount, b_oc, b_cc, b_newO, b_newC, b_openName, b_openTok, b_vKind, b_vNum, b_vCnt, b_vStr, b_vItem, b_vKey, b_vVal, b_out, b_fv, b_cKind, b_cSlot, b_cTok, b_cVal, b_cIdx, b_dig) := fun y z => h0 (fun w => z ((okE.mp w).2 y))
  unfold wpY_classify
  refine br_t (nI_lt hab (by omega)) ⟨by rw [la_m96, nI_add]; exact vp_in_nI (by omega) (by omega), nm_r (e' := T a) (by rw [la_m96, nI_add, nI_clamp (by omega)]; exact hT a (by omega)) ?_⟩
  refine br_f (fun y => n4 (ki.1.mpr y)) (br_f (fun y => n5 (ki.2.1.mpr y)) ?_)
  refine br_c (fun y => yc_72 hs hT hb hab ?_ rfl (Or.inl y) (g1 ?_) (g0 ?_)) (fun a3 => br_c (fun y => yc_72 hs hT hb hab ?_ rfl (Or.inr (Or.inl y)) (g1 ?_) (g0 ?_)) (fun a4 => br_c (fun y => yc_72 hs hT hb hab ?_ rfl (Or.inr (Or.inr (Or.inl y))) (g1 ?_) (g0 ?_)) (fun a5 => br_c (fun y => yc_72 hs hT hb hab ?_ rfl (Or.inr (Or.inr (Or.inr y))) (g1 ?_) (g0 ?_)) (fun a6 => br_c (fun y => ?_) (fun a7 => ?_)))))
  · have := ki.2.2.1.mpr y; omega
  · have := ki.2.2.1.mpr y; omega
  · have := ki.2.2.1.mpr y; omega
  · have := ki.2.2.2.1.mpr y; omega
  · have := ki.2.2.2.1.mpr y; omega
  · have := ki.2.2.2.1.mpr y; omega
  · have := ki.2.2.2.2.1.mpr y; omega
  · have := ki.2.2.2.2.1.mpr y; omega
  · have := ki.2.2.2.2.1.mpr y; omega
  · have := ki.2.2.2.2.2.1.mpr y; omega
  · have := ki.2.2.2.2.2.1.mpr y; omega
  · have := ki.2.2.2.2.2.1.mpr y; omega
  · have k9 := ki.2.2.2.2.2.2.mpr y
    have e : ll_na T a b = ll_on T (a + 1) b := by unfold ll_na; rw [if_neg (by omega)]
    rw [k9, e] at h1
    rw [e] at okE
    refine yl_single' (lo := a + 1) (hi := b) hs hT hb (by omega) (nI_1 _) rfl (br_c (fun z => h0 (fun w => absurd ((okE.mp w).1 k9).1 (Int32.not_le.mpr z))) (fun z => br_c (fun z2 => h1 (okE.mpr ⟨fun _ => ⟨Int32.not_lt.mp z, z2⟩, fun w => absurd k9 w⟩)) (fun z2 => h0 (fun w => z2 ((okE.mp w).1 k9).2))))
  · have k2 : ll_kd T a b = 2 := by
      have hb1 := ll_kd_b T a b
      have q3 : ll_kd T a b ≠ 3 := fun y => a6 (ki.2.2.2.2.2.1.mp y)
      have q6 : ll_kd T a b ≠ 6 := fun y => a3 (ki.2.2.1.mp y)
      have q7 : ll_kd T a b ≠ 7 := fun y => a4 (ki.2.2.2.1.mp y)
      have q8 : ll_kd T a b ≠ 8 := fun y => a5 (ki.2.2.2.2.1.mp y)
      have q9 : ll_kd T a b ≠ 9 := fun y => a7 (ki.2.2.2.2.2.2.mp y)
      omega
    have e : ll_na T a b = ll_on T a b := by unfold ll_na; rw [if_pos k2]
    have g1' := g1 (by omega)
    have g0' := g0 (by omega)
    rw [k2, e] at g1'
    rw [e] at g0'
    exact yl_single (lo := a) (hi := b) hs hT hb (by omega) (yl_isN (fun y => br_f (by decide) (g1' y)) (fun y => br_t rfl (g0' y)))
end TXT
end LLYD
