section LLYM
variable {g_ol g_cl g_newOl g_newCl g_tagName g_parseErr g_openCount g_nVals g_outLen g_outCap g_fn g_cn : Int32} {b_text b_len b_stat b_errPos b_removed b_tType b_tA b_tB b_tName b_tMatch b_tCount b_oc b_cc b_newO b_newC b_openName b_openTok b_vKind b_vNum b_vCnt b_vStr b_vItem b_vKey b_vVal b_out b_fv b_cKind b_cSlot b_cTok b_cVal b_cIdx b_dig : Nat → Int32}
section TXT
variable {s n a b q e m : Nat} {T : Nat → Int32}
theorem yc_T (hs : s < 4) (hT : ∀ i, i < 96 → b_text (s * 96 + i) = T i) (hR : ∀ i, i < 96 → T i ≤ 126) (hb : b ≤ 96) (hab : a ≤ b) (hok : ll_ok T a b) : ∃ (o' c' : Nat → Int32) (l1 l2 tn : Int32),
    (ll_kd T a b = 5 → l1 = nI (ll_de T a b - ll_da T a b) ∧ l2 = nI (ll_dh T a b - ll_db T a b) ∧ (∀ i, i < ll_de T a b - ll_da T a b → o' i = T (ll_da T a b + i)) ∧ (∀ i, i < ll_dh T a b - ll_db T a b → c' i = T (ll_db T a b + i))) ∧ (ll_kd T a b ≠ 4 → ll_kd T a b ≠ 5 → tn = ll_na T a b) ∧
    ∀ post : Int32 → SY → Prop, post (nI (ll_ty (ll_kd T a b))) (g_ol, g_cl, l1, l2, tn, g_parseErr, g_openCount, g_nVals, g_outLen, g_outCap, g_fn, g_cn, b_text, b_len, b_stat, b_errPos, b_removed, b_tType, b_tA, b_tB, b_tName, b_tMatch, b_tCount, b_oc, b_cc, o', c', b_openName, b_openTok, b_vKind, b_vNum, b_vCnt, b_vStr, b_vItem, b_vKey, b_vVal, b_out, b_fv, b_cKind, b_cSlot, b_cTok, b_cVal, b_cIdx, b_dig) → wpY_classify post (g_ol, g_cl, g_newOl, g_newCl, g_tagName, g_parseErr, g_openCount, g_nVals, g_outLen, g_outCap, g_fn, g_cn, b_text, b_len, b_stat, b_errPos, b_removed, b_tType, b_tA, b_tB, b_tName, b_tMatch, b_tCount, b_oc, b_cc, b_newO, b_newC, b_openName, b_openTok, b_vKind, b_vNum, b_vCnt, b_vStr, b_vItem, b_vKey, b_vVal, b_out, b_fv, b_cKind, b_cSlot, b_cTok, b_cVal, b_cIdx, b_dig) (nI s) (nI a) (nI b) := by
  have hlt := ll_ok_lt hok hab
  have ek : ll_kd T a b = ll_kc (T a) := by unfold ll_kd; rw [if_pos hlt]
  have ki := ll_kc_i (T a)
  rw [← ek] at ki
  by_cases k4 : ll_kd T a b = 4
  · refine ⟨b_newO, b_newC, g_newOl, g_newCl, g_tagName, fun y => by omega, fun y => absurd k4 y, fun post h => ?_⟩
    rw [k4] at h
    unfold wpY_classify
    exact br_t (nI_lt hlt (by omega)) ⟨by rw [la_m96, nI_add]; exact vp_in_nI (by omega) (by omega), nm_r (e' := T a) (by rw [la_m96, nI_add, nI_clamp (by omega)]; exact hT a (by omega)) (br_t (ki.1.mp k4) h)⟩
  · by_cases k5 : ll_kd T a b = 5
    · have hd : ll_dok T a b := by
        unfold ll_ok at hok
        rw [if_neg k4, if_pos k5] at hok
        exact hok
      refine ⟨cy_f b_newO (fun j => T (ll_da T a b + j)) (ll_de T a b - ll_da T a b), cy_f b_newC (fun j => T (ll_db T a b + j)) (ll_dh T a b - ll_db T a b), _, _, g_tagName, fun _ => ⟨rfl, rfl, fun i hi => cy_in hi, fun i hi => cy_in hi⟩, fun _ y => absurd k5 y, fun post h => ?_⟩
      rw [k5] at h
      unfold wpY_classify
      exact br_t (nI_lt hlt (by omega)) ⟨by rw [la_m96, nI_add]; exact vp_in_nI (by omega) (by omega), nm_r (e' := T a) (by rw [la_m96, nI_add, nI_clamp (by omega)]; exact hT a (by omega)) (br_f (fun y => k4 (ki.1.mpr y)) (br_t (ki.2.1.mp k5) (yd_T hs hT hR hb hd h)))⟩
    · exact ⟨b_newO, b_newC, g_newOl, g_newCl, ll_na T a b, fun y => absurd y k5, fun _ _ => rfl, fun post h => yc_nm hs hT hb hlt k4 k5 (fun _ => h) (fun y => absurd hok y)⟩
theorem yc_F (hs : s < 4) (hT : ∀ i, i < 96 → b_text (s * 96 + i) = T i) (hR : ∀ i, i < 96 → T i ≤ 126) (hb : b ≤ 96) (hab : a ≤ b) (hok : ¬ ll_ok T a b) : ∃ (o' c' : Nat → Int32), ∀ post : Int32 → SY → Prop, post (-1) (g_ol, g_cl, g_newOl, g_newCl, g_tagName, g_parseErr, g_openCount, g_nVals, g_outLen, g_outCap, g_fn, g_cn, b_text, b_len, b_stat, b_errPos, b_removed, b_tType, b_tA, b_tB, b_tName, b_tMatch, b_tCount, b_oc, b_cc, o', c', b_openName, b_openTok, b_vKind, b_vNum, b_vCnt, b_vStr, b_vItem, b_vKey, b_vVal, b_out, b_fv, b_cKind, b_cSlot, b_cTok, b_cVal, b_cIdx, b_dig) → wpY_classify post (g_ol, g_cl, g_newOl, g_newCl, g_tagName, g_parseErr, g_openCount, g_nVals, g_outLen, g_outCap, g_fn, g_cn, b_text, b_len, b_stat, b_errPos, b_removed, b_tType, b_tA, b_tB, b_tName, b_tMatch, b_tCount, b_oc, b_cc, b_newO, b_newC, b_openName, b_openTok, b_vKind, b_vNum, b_vCnt, b_vStr, b_vItem, b_vKey, b_vVal, b_out, b_fv, b_cKind, b_cSlot, b_cTok, b_cVal, b_cIdx, b_dig) (nI s) (nI a) (nI b) := by
  by_cases hlt : a < b
  · have ek : ll_kd T a b = ll_kc (T a) := by unfold ll_kd; rw [if_pos hlt]
    have ki := ll_kc_i (T a)
    rw [← ek] at ki
    by_cases k4 : ll_kd T a b = 4
    · exact absurd (by unfold ll_ok; rw [if_pos k4]; trivial) hok
    · by_cases k5 : ll_kd T a b = 5
      · have hd : ¬ ll_dok T a b := by
          unfold ll_ok at hok
          rw [if_neg k4, if_pos k5] at hok
          exact hok
        obtain ⟨o', c', h'⟩ := yd_F (g_ol := g_ol) (g_cl := g_cl) (g_newOl := g_newOl) (g_newCl := g_newCl) (g_tagName := g_tagName) (g_parseErr := g_parseErr) (g_openCount := g_openCount) (g_nVals := g_nVals) (g_outLen := g_outLen) (g_outCap := g_outCap) (g_fn := g_fn) (g_cn := g_cn) (b_text := b_text) (b_len := b_len) (b_stat := b_stat) (b_errPos := b_errPos) (b_removed := b_removed) (b_tType := b_tType) (b_tA := b_tA) (b_tB := b_tB) (b_tName := b_tName) (b_tMatch := b_tMatch) (b_tCount := b_tCount) (b_oc := b_oc) (b_cc := b_cc) (b_newO := b_newO) (b_newC := b_newC) (b_openName := b_openName) (b_openTok := b_openTok) (b_vKind := b_vKind) (b_vNum := b_vNum) (b_vCnt := b_vCnt) (b_vStr := b_vStr) (b_vItem := b_vItem) (b_vKey := b_vKey) (b_vVal := b_vVal) (b_out := b_out) (b_fv := b_fv) (b_cKind := b_cKind) (b_cSlot := b_cSlot) (b_cTok := b_cTok) (b_cVal := b_cVal) (b_cIdx := b_cIdx) (b_dig := b_dig) hs hT hR hb hab hd
        refine ⟨o', c', fun post h => ?_⟩
        unfold wpY_classify
        exact br_t (nI_lt hlt (by omega)) ⟨by rw [la_m96, nI_add]; exact vp_in_nI (by omega) (by omega), nm_r (e' := T a) (by rw [la_m96, nI_add, nI_clamp (by omega)]; exact hT a (by omega)) (br_f (fun y => k4 (ki.1.mpr y)) (br_t (ki.2.1.mp k5) (h' _ h)))⟩
      · exact ⟨b_newO, b_newC, fun post h => yc_nm hs hT hb hlt k4 k5 (fun y => absurd y hok) (fun _ => h)⟩
  · refine ⟨b_newO, b_newC, fun post h => ?_⟩
    unfold wpY_classify
    exact br_f (nI_nlt (by omega) (by omega)) h
theorem ya_12 {post : SY → Prop} {x2 x3 x4 x5 : Int32} (hs : s < 4) (hm : m < 100) (hC : b_tCount s = nI m) (h : post (g_ol, g_cl, g_newOl, g_newCl, g_tagName, g_parseErr, g_openCount, g_nVals, g_outLen, g_outCap, g_fn, g_cn, b_text, b_len, b_stat, b_errPos, b_removed, upd b_tType (s * 100 + m) x2, upd b_tA (s * 100 + m) x3, upd b_tB (s * 100 + m) x4, upd b_tName (s * 100 + m) x5, upd b_tMatch (s * 100 + m) 0, upd b_tCount s (nI (m + 1)), b_oc, b_cc, b_newO, b_newC, b_openName, b_openTok, b_vKind, b_vNum, b_vCnt, b_vStr, b_vItem, b_vKey, b_vVal, b_out, b_fv, b_cKind, b_cSlot, b_cTok, b_cVal, b_cIdx, b_dig)) : wY_addTok_12 post (nI s) x2 x3 x4 x5 g_ol g_cl g_newOl g_newCl g_tagName g_parseErr g_openCount g_nVals g_outLen g_outCap g_fn g_cn b_text b_len b_stat b_errPos b_removed b_tType b_tA b_tB b_tName b_tMatch b_tCount b_oc b_cc b_newO b_newC b_openName b_openTok b_vKind b_vNum b_vCnt b_vStr b_vItem b_vKey b_vVal b_out b_fv b_cKind b_cSlot b_cTok b_cVal b_cIdx b_dig := by
  have c1 : b_tCount (nI s).toNatClampNeg = nI m := by rw [nI_clamp (by omega)]; exact hC
  have c2 : (nI (s * 100 + m)).toNatClampNeg = s * 100 + m := nI_clamp (by omega)
  have i4 : vp_in (nI s) 4 := vp_in_nI hs (by omega)
  have i400 : vp_in (nI (s * 100 + m)) 400 := vp_in_nI (by omega) (by omega)
  refine ⟨i4, br_t (by rw [c1]; exact nI_lt (b := 100) hm (by decide)) ⟨i4, nm_r (e' := nI (s * 100 + m)) (by rw [c1, la_m100, nI_add]) ⟨i400, nm_r (by rw [c2]) ⟨i400, nm_r (by rw [c2]) ⟨i400, nm_r (by rw [c2]) ⟨i400, nm_r (by rw [c2]) ⟨i400, nm_r (by rw [c2]) ⟨i4, i4, nm_r (e' := upd b_tCount s (nI (m + 1))) (by rw [nI_clamp (show s < 2 ^ 31 from by omega), hC, nI_1]) h⟩⟩⟩⟩⟩⟩⟩⟩
theorem ya_lit {post : SY → Prop} {p : Nat} (hs : s < 4) (hm : m < 100) (hpq : p < q) (hq : q ≤ 96) (hC : b_tCount s = nI m) (h : post (g_ol, g_cl, g_newOl, g_newCl, g_tagName, g_parseErr, g_openCount, g_nVals, g_outLen, g_outCap, g_fn, g_cn, b_text, b_len, b_stat, b_errPos, b_removed, upd b_tType (s * 100 + m) (nI 1), upd b_tA (s * 100 + m) (nI p), upd b_tB (s * 100 + m) (nI q), upd b_tName (s * 100 + m) 0, upd b_tMatch (s * 100 + m) 0, upd b_tCount s (nI (m + 1)), b_oc, b_cc, b_newO, b_newC, b_openName, b_openTok, b_vKind, b_vNum, b_vCnt, b_vStr, b_vItem, b_vKey, b_vVal, b_out, b_fv, b_cKind, b_cSlot, b_cTok, b_cVal, b_cIdx, b_dig)) : wpY_addTok post (g_ol, g_cl, g_newOl, g_newCl, g_tagName, g_parseErr, g_openCount, g_nVals, g_outLen, g_outCap, g_fn, g_cn, b_text, b_len, b_stat, b_errPos, b_removed, b_tType, b_tA, b_tB, b_tName, b_tMatch, b_tCount, b_oc, b_cc, b_newO, b_newC, b_openName, b_openTok, b_vKind, b_vNum, b_vCnt, b_vStr, b_vItem, b_vKey, b_vVal, b_out, b_fv, b_cKind, b_cSlot, b_cTok, b_cVal, b_cIdx, b_dig) (nI s) 1 (nI p) (nI q) 0 :=
  br_t rfl (br_t (nI_lt hpq (by omega)) (ya_12 hs hm hC h))
theorem ya_non {post : SY → Prop} {p : Nat} {x : Int32} (hpq : q ≤ p) (hq : p ≤ 96) (h : post (g_ol, g_cl, g_newOl, g_newCl, g_tagName, g_parseErr, g_openCount, g_nVals, g_outLen, g_outCap, g_fn, g_cn, b_text, b_len, b_stat, b_errPos, b_removed, b_tType, b_tA, b_tB, b_tName, b_tMatch, b_tCount, b_oc, b_cc, b_newO, b_newC, b_openName, b_openTok, b_vKind, b_vNum, b_vCnt, b_vStr, b_vItem, b_vKey, b_vVal, b_out, b_fv, b_cKind, b_cSlot, b_cTok, b_cVal, b_cIdx, b_dig)) : wpY_addTok post (g_ol, g_cl, g_newOl, g_newCl, g_tagName, g_parseErr, g_openCount, g_nVals, g_outLen, g_outCap, g_fn, g_cn, b_text, b_len, b_stat, b_errPos, b_removed, b_tType, b_tA, b_tB, b_tName, b_tMatch, b_tCount, b_oc, b_cc, b_newO, b_newC, b_openName, b_openTok, b_vKind, b_vNum, b_vCnt, b_vStr, b_vItem, b_vKey, b_vVal, b_out, b_fv, b_cKind, b_cSlot, b_cTok, b_cVal, b_cIdx, b_dig) x 1 (nI p) (nI q) 0 :=
  br_t rfl (br_f (nI_nlt hpq (by omega)) h)
theorem ya_tag {post : SY → Prop} {k : Nat} {x5 : Int32} (hs : s < 4) (hm : m < 100) (hk : 2 ≤ k) (hk9 : k ≤ 9) (hC : b_tCount s = nI m) (h : post (g_ol, g_cl, g_newOl, g_newCl, g_tagName, g_parseErr, g_openCount, g_nVals, g_outLen, g_outCap, g_fn, g_cn, b_text, b_len, b_stat, b_errPos, b_removed, upd b_tType (s * 100 + m) (nI k), upd b_tA (s * 100 + m) (nI q), upd b_tB (s * 100 + m) (nI e), upd b_tName (s * 100 + m) x5, upd b_tMatch (s * 100 + m) 0, upd b_tCount s (nI (m + 1)), b_oc, b_cc, b_newO, b_newC, b_openName, b_openTok, b_vKind, b_vNum, b_vCnt, b_vStr, b_vItem, b_vKey, b_vVal, b_out, b_fv, b_cKind, b_cSlot, b_cTok, b_cVal, b_cIdx, b_dig)) : wpY_addTok post (g_ol, g_cl, g_newOl, g_newCl, g_tagName, g_parseErr, g_openCount, g_nVals, g_outLen, g_outCap, g_fn, g_cn, b_text, b_len, b_stat, b_errPos, b_removed, b_tType, b_tA, b_tB, b_tName, b_tMatch, b_tCount, b_oc, b_cc, b_newO, b_newC, b_openName, b_openTok, b_vKind, b_vNum, b_vCnt, b_vStr, b_vItem, b_vKey, b_vVal, b_out, b_fv, b_cKind, b_cSlot, b_cTok, b_cVal, b_cIdx, b_dig) (nI s) (nI k) (nI q) (nI e) x5 :=
  br_f (fun y => by have := la_im (b := 1) y (by omega) (by omega); omega) (ya_12 hs hm hC h)
theorem vb_1 : vp_nar .boolean 1 = 1 := by decide
theorem vb_0 : vp_nar .boolean 0 = 0 := by decide
theorem ym_193 {post : SY → Prop} {le : Nat} (hs : s < 4) (hn : n ≤ 96) (hl : le ≤ n) (h : post (g_ol, g_cl, g_newOl, g_newCl, g_tagName, g_parseErr, g_openCount, g_nVals, g_outLen, g_outCap, g_fn, g_cn, b_text, b_len, b_stat, b_errPos, fl_f b_removed (s * 96 + e) (s * 96 + (if le < n then le + 1 else n)) 1, b_tType, b_tA, b_tB, b_tName, b_tMatch, b_tCount, b_oc, b_cc, b_newO, b_newC, b_openName, b_openTok, b_vKind, b_vNum, b_vCnt, b_vStr, b_vItem, b_vKey, b_vVal, b_out, b_fv, b_cKind, b_cSlot, b_cTok, b_cVal, b_cIdx, b_dig)) : ∀ d i, i + d = le → e ≤ i → wY_markStandalone_193 post (nI (s * 96)) (nI n) (nI le) g_ol g_cl g_newOl g_newCl g_tagName g_parseErr g_openCount g_nVals g_outLen g_outCap g_fn g_cn (d + 1) (nI i) b_text b_len b_stat b_errPos (fl_f b_removed (s * 96 + e) (s * 96 + i) 1) b_tType b_tA b_tB b_tName b_tMatch b_tCount b_oc b_cc b_newO b_newC b_openName b_openTok b_vKind b_vNum b_vCnt b_vStr b_vItem b_vKey b_vVal b_out b_fv b_cKind b_cSlot b_cTok b_cVal b_cIdx b_dig := by
  intro d
  induction d with
  | zero =>
    intro i hi hei
    have e2 : i = le := by omega
    subst e2
    refine br_t (nI_le (by omega) (by omega)) (pk_le n i (fun z => ?_) (fun z => ⟨by rw [nI_add]; exact vp_in_nI (by omega) (by omega), nm_r ?_ h⟩))
    · rw [if_neg (by omega), show n = i from by omega] at h
      exact h
    · rw [nI_add, nI_clamp (by omega), vb_1, if_pos z]
      exact fl_s (by omega)
  | succ d ih =>
    intro i hi hei
    refine br_f (nI_ge (by omega) (by omega)) ⟨by rw [nI_add]; exact vp_in_nI (by omega) (by omega), nm_r ?_ (nm_r (nI_1 _) (ih (i + 1) (by omega) (by omega)))⟩
    rw [nI_add, nI_clamp (by omega), vb_1]
    exact fl_s (by omega)
theorem ym_167 {post : SY → Prop} {le lo : Nat} (hs : s < 4) (hn : n ≤ 96) (hl : le ≤ n) (he : e ≤ le) (hq : q ≤ 96) (h : post (g_ol, g_cl, g_newOl, g_newCl, g_tagName, g_parseErr, g_openCount, g_nVals, g_outLen, g_outCap, g_fn, g_cn, b_text, b_len, b_stat, b_errPos, fl_f (fl_f b_removed (s * 96 + lo) (s * 96 + q) 1) (s * 96 + e) (s * 96 + (if le < n then le + 1 else n)) 1, b_tType, b_tA, b_tB, b_tName, b_tMatch, b_tCount, b_oc, b_cc, b_newO, b_newC, b_openName, b_openTok, b_vKind, b_vNum, b_vCnt, b_vStr, b_vItem, b_vKey, b_vVal, b_out, b_fv, b_cKind, b_cSlot, b_cTok, b_cVal, b_cIdx, b_dig)) : ∀ d i, i + d = q → lo ≤ i → wY_markStandalone_167 post (nI q) (nI e) (nI (s * 96)) (nI n) (nI le) g_ol g_cl g_newOl g_newCl g_tagName g_parseErr g_openCount g_nVals g_outLen g_outCap g_fn g_cn (d + 1) (nI i) b_text b_len b_stat b_errPos (fl_f b_removed (s * 96 + lo) (s * 96 + i) 1) b_tType b_tA b_tB b_tName b_tMatch b_tCount b_oc b_cc b_newO b_newC b_openName b_openTok b_vKind b_vNum b_vCnt b_vStr b_vItem b_vKey b_vVal b_out b_fv b_cKind b_cSlot b_cTok b_cVal b_cIdx b_dig := by
  intro d
  induction d with
  | zero =>
    intro i hi hei
    have e2 : i = q := by omega
    subst e2
    have r := ym_193 (g_ol := g_ol) (g_cl := g_cl) (g_newOl := g_newOl) (g_newCl := g_newCl) (g_tagName := g_tagName) (g_parseErr := g_parseErr) (g_openCount := g_openCount) (g_nVals := g_nVals) (g_outLen := g_outLen) (g_outCap := g_outCap) (g_fn := g_fn) (g_cn := g_cn) (b_text := b_text) (b_len := b_len) (b_stat := b_stat) (b_errPos := b_errPos) (b_removed := fl_f b_removed (s * 96 + lo) (s * 96 + i) 1) (b_tType := b_tType) (b_tA := b_tA) (b_tB := b_tB) (b_tName := b_tName) (b_tMatch := b_tMatch) (b_tCount := b_tCount) (b_oc := b_oc) (b_cc := b_cc) (b_newO := b_newO) (b_newC := b_newC) (b_openName := b_openName) (b_openTok := b_openTok) (b_vKind := b_vKind) (b_vNum := b_vNum) (b_vCnt := b_vCnt) (b_vStr := b_vStr) (b_vItem := b_vItem) (b_vKey := b_vKey) (b_vVal := b_vVal) (b_out := b_out) (b_fv := b_fv) (b_cKind := b_cKind) (b_cSlot := b_cSlot) (b_cTok := b_cTok) (b_cVal := b_cVal) (b_cIdx := b_cIdx) (b_dig := b_dig) (post := post) (n := n) (e := e) (le := le) hs hn hl h (le - e) e (by omega) (Nat.le_refl _)
    rw [fl_0 (Nat.le_refl (s * 96 + e))] at r
    exact br_t (nI_le (by omega) (by omega)) ⟨_, r⟩
  | succ d ih =>
    intro i hi hei
    refine br_f (nI_ge (by omega) (by omega)) ⟨by rw [nI_add]; exact vp_in_nI (by omega) (by omega), nm_r ?_ (nm_r (nI_1 _) (ih (i + 1) (by omega) (by omega)))⟩
    rw [nI_add, nI_clamp (by omega), vb_1]
    exact fl_s (by omega)
theorem ym_134 {post : SY → Prop} {le : Nat} {x6 : Int32} (hs : s < 4) (hT : ∀ i, i < 96 → b_text (s * 96 + i) = T i) (hl : le ≤ 96) (h1 : (∀ i, e ≤ i → i < le → T i = 32) → ∃ n167, wY_markStandalone_167 post (nI q) (nI e) (nI (s * 96)) (nI n) (nI le) g_ol g_cl g_newOl g_newCl g_tagName g_parseErr g_openCount g_nVals g_outLen g_outCap g_fn g_cn n167 x6 b_text b_len b_stat b_errPos b_removed b_tType b_tA b_tB b_tName b_tMatch b_tCount b_oc b_cc b_newO b_newC b_openName b_openTok b_vKind b_vNum b_vCnt b_vStr b_vItem b_vKey b_vVal b_out b_fv b_cKind b_cSlot b_cTok b_cVal b_cIdx b_dig) (h0 : ¬ (∀ i, e ≤ i → i < le → T i = 32) → post (g_ol, g_cl, g_newOl, g_newCl, g_tagName, g_parseErr, g_openCount, g_nVals, g_outLen, g_outCap, g_fn, g_cn, b_text, b_len, b_stat, b_errPos, b_removed, b_tType, b_tA, b_tB, b_tName, b_tMatch, b_tCount, b_oc, b_cc, b_newO, b_newC, b_openName, b_openTok, b_vKind, b_vNum, b_vCnt, b_vStr, b_vItem, b_vKey, b_vVal, b_out, b_fv, b_cKind, b_cSlot, b_cTok, b_cVal, b_cIdx, b_dig)) : ∀ d i, i + d = le → e ≤ i → (∀ j, e ≤ j → j < i → T j = 32) → wY_markStandalone_134 post (nI q) (nI e) (nI (s * 96)) (nI n) x6 (nI le) g_ol g_cl g_newOl g_newCl g_tagName g_parseErr g_openCount g_nVals g_outLen g_outCap g_fn g_cn b_text b_len b_stat b_errPos b_removed b_tType b_tA b_tB b_tName b_tMatch b_tCount b_oc b_cc b_newO b_newC b_openName b_openTok b_vKind b_vNum b_vCnt b_vStr b_vItem b_vKey b_vVal b_out b_fv b_cKind b_cSlot b_cTok b_cVal b_cIdx b_dig (d + 1) (nI i) := by
  intro d
  induction d with
  | zero =>
    intro i hi hei g
    have e2 : i = le := by omega
    subst e2
    exact br_t (nI_le (by omega) (by omega)) (h1 g)
  | succ d ih =>
    intro i hi hei g
    have e2 : b_text (nI (s * 96) + nI i).toNatClampNeg = T i := by rw [nI_add, nI_clamp (by omega), hT _ (by omega)]
    refine br_f (nI_ge (by omega) (by omega)) ⟨by rw [nI_add]; exact vp_in_nI (by omega) (by omega), ?_⟩
    by_cases z : T i = 32
    · refine br_t (e2.trans z) (nm_r (nI_1 _) (ih (i + 1) (by omega) (by omega) (fun j j1 j2 => ?_)))
      by_cases w : j = i
      · rw [w]; exact z
      · exact g j j1 (by omega)
    · exact br_f (fun y => z (e2.symm.trans y)) (h0 (fun w => z (w i hei (by omega))))
theorem ym_96 {post : SY → Prop} {x6 : Int32} (hs : s < 4) (hT : ∀ i, i < 96 → b_text (s * 96 + i) = T i) (hn : n ≤ 96) : ∀ d i, i + d = n → (∃ n134, wY_markStandalone_134 post (nI q) (nI e) (nI (s * 96)) (nI n) x6 (nI (ll_nf T d i)) g_ol g_cl g_newOl g_newCl g_tagName g_parseErr g_openCount g_nVals g_outLen g_outCap g_fn g_cn b_text b_len b_stat b_errPos b_removed b_tType b_tA b_tB b_tName b_tMatch b_tCount b_oc b_cc b_newO b_newC b_openName b_openTok b_vKind b_vNum b_vCnt b_vStr b_vItem b_vKey b_vVal b_out b_fv b_cKind b_cSlot b_cTok b_cVal b_cIdx b_dig n134 (nI e)) → wY_markStandalone_96 post (nI q) (nI e) (nI (s * 96)) (nI n) x6 (nI n) g_ol g_cl g_newOl g_newCl g_tagName g_parseErr g_openCount g_nVals g_outLen g_outCap g_fn g_cn b_text b_len b_stat b_errPos b_removed b_tType b_tA b_tB b_tName b_tMatch b_tCount b_oc b_cc b_newO b_newC b_openName b_openTok b_vKind b_vNum b_vCnt b_vStr b_vItem b_vKey b_vVal b_out b_fv b_cKind b_cSlot b_cTok b_cVal b_cIdx b_dig (d + 1) (nI i) := by
  intro d
  induction d with
  | zero =>
    intro i hi h
    have e2 : i = n := by omega
    subst e2
    exact br_t (nI_le (by omega) (by omega)) h
  | succ d ih =>
    intro i hi h
    rw [ll_nf_u] at h
    have e2 : b_text (nI (s * 96) + nI i).toNatClampNeg = T i := by rw [nI_add, nI_clamp (by omega), hT _ (by omega)]
    refine br_f (nI_ge (by omega) (by omega)) ⟨by rw [nI_add]; exact vp_in_nI (by omega) (by omega), ?_⟩
    by_cases z : T i = 10
    · rw [if_pos z] at h
      exact br_t (e2.trans z) h
    · rw [if_neg z] at h
      exact br_f (fun y => z (e2.symm.trans y)) (nm_r (nI_1 _) (ih (i + 1) (by omega) h))
theorem ym_61 {post : SY → Prop} {lo : Nat} (hs : s < 4) (hT : ∀ i, i < 96 → b_text (s * 96 + i) = T i) (hq : q ≤ 96) (h1 : (∀ i, lo ≤ i → i < q → T i = 32) → ∃ n96, wY_markStandalone_96 post (nI q) (nI e) (nI (s * 96)) (nI n) (nI lo) (nI n) g_ol g_cl g_newOl g_newCl g_tagName g_parseErr g_openCount g_nVals g_outLen g_outCap g_fn g_cn b_text b_len b_stat b_errPos b_removed b_tType b_tA b_tB b_tName b_tMatch b_tCount b_oc b_cc b_newO b_newC b_openName b_openTok b_vKind b_vNum b_vCnt b_vStr b_vItem b_vKey b_vVal b_out b_fv b_cKind b_cSlot b_cTok b_cVal b_cIdx b_dig n96 (nI e)) (h0 : ¬ (∀ i, lo ≤ i → i < q → T i = 32) → post (g_ol, g_cl, g_newOl, g_newCl, g_tagName, g_parseErr, g_openCount, g_nVals, g_outLen, g_outCap, g_fn, g_cn, b_text, b_len, b_stat, b_errPos, b_removed, b_tType, b_tA, b_tB, b_tName, b_tMatch, b_tCount, b_oc, b_cc, b_newO, b_newC, b_openName, b_openTok, b_vKind, b_vNum, b_vCnt, b_vStr, b_vItem, b_vKey, b_vVal, b_out, b_fv, b_cKind, b_cSlot, b_cTok, b_cVal, b_cIdx, b_dig)) : ∀ d i, i + d = q → lo ≤ i → (∀ j, lo ≤ j → j < i → T j = 32) → wY_markStandalone_61 post (nI q) (nI e) (nI (s * 96)) (nI n) (nI lo) g_ol g_cl g_newOl g_newCl g_tagName g_parseErr g_openCount g_nVals g_outLen g_outCap g_fn g_cn b_text b_len b_stat b_errPos b_removed b_tType b_tA b_tB b_tName b_tMatch b_tCount b_oc b_cc b_newO b_newC b_openName b_openTok b_vKind b_vNum b_vCnt b_vStr b_vItem b_vKey b_vVal b_out b_fv b_cKind b_cSlot b_cTok b_cVal b_cIdx b_dig (d + 1) (nI i) := by
  intro d
  induction d with
  | zero =>
    intro i hi hei g
    have e2 : i = q := by omega
    subst e2
    exact br_t (nI_le (by omega) (by omega)) (h1 g)
  | succ d ih =>
    intro i hi hei g
    have e2 : b_text (nI (s * 96) + nI i).toNatClampNeg = T i := by rw [nI_add, nI_clamp (by omega), hT _ (by omega)]
    refine br_f (nI_ge (by omega) (by omega)) ⟨by rw [nI_add]; exact vp_in_nI (by omega) (by omega), ?_⟩
    by_cases z : T i = 32
    · refine br_t (e2.trans z) (nm_r (nI_1 _) (ih (i + 1) (by omega) (by omega) (fun j j1 j2 => ?_)))
      by_cases w : j = i
      · rw [w]; exact z
      · exact g j j1 (by omega)
    · exact br_f (fun y => z (e2.symm.trans y)) (h0 (fun w => z (w i hei (by omega))))
theorem ym_22 {post : SY → Prop} (hs : s < 4) (hT : ∀ i, i < 96 → b_text (s * 96 + i) = T i) : ∀ p, p ≤ 96 → (∃ n61, wY_markStandalone_61 post (nI q) (nI e) (nI (s * 96)) (nI n) (nI (ll_nb T p)) g_ol g_cl g_newOl g_newCl g_tagName g_parseErr g_openCount g_nVals g_outLen g_outCap g_fn g_cn b_text b_len b_stat b_errPos b_removed b_tType b_tA b_tB b_tName b_tMatch b_tCount b_oc b_cc b_newO b_newC b_openName b_openTok b_vKind b_vNum b_vCnt b_vStr b_vItem b_vKey b_vVal b_out b_fv b_cKind b_cSlot b_cTok b_cVal b_cIdx b_dig n61 (nI (ll_nb T p))) → wY_markStandalone_22 post (nI q) (nI e) (nI (s * 96)) (nI n) 0 g_ol g_cl g_newOl g_newCl g_tagName g_parseErr g_openCount g_nVals g_outLen g_outCap g_fn g_cn b_text b_len b_stat b_errPos b_removed b_tType b_tA b_tB b_tName b_tMatch b_tCount b_oc b_cc b_newO b_newC b_openName b_openTok b_vKind b_vNum b_vCnt b_vStr b_vItem b_vKey b_vVal b_out b_fv b_cKind b_cSlot b_cTok b_cVal b_cIdx b_dig (p + 1) (nI p - 1) := by
  intro p
  induction p with
  | zero => intro hp h; exact br_t (by decide) h
  | succ p ih =>
    intro hp h
    rw [ll_nb_u] at h
    rw [nI_pred]
    have e2 : b_text (nI (s * 96) + nI p).toNatClampNeg = T p := by rw [nI_add, nI_clamp (by omega), hT _ (by omega)]
    refine br_f (nI_pos (by omega)) ⟨by rw [nI_add]; exact vp_in_nI (by omega) (by omega), ?_⟩
    by_cases z : T p = 10
    · rw [if_pos z] at h
      exact br_t (e2.trans z) (nm_r (nI_1 _) h)
    · rw [if_neg z] at h
      exact br_f (fun y => z (e2.symm.trans y)) (nm_r (Int32.sub_eq_add_neg _ _).symm (ih (by omega) h))
theorem ym_E (hs : s < 4) (hT : ∀ i, i < 96 → b_text (s * 96 + i) = T i) (hL : b_len s = nI n) (hn : n ≤ 96) (hq : q < e) (he : e ≤ n) :
    ∃ R' : Nat → Int32, (∀ c, c < n → (rm_P T n q e c → R' (s * 96 + c) = 1) ∧ (¬ rm_P T n q e c → R' (s * 96 + c) = b_removed (s * 96 + c))) ∧ (∀ j, j < s * 96 ∨ s * 96 + 96 ≤ j → R' j = b_removed j) ∧
    ∀ post : SY → Prop, post (g_ol, g_cl, g_newOl, g_newCl, g_tagName, g_parseErr, g_openCount, g_nVals, g_outLen, g_outCap, g_fn, g_cn, b_text, b_len, b_stat, b_errPos, R', b_tType, b_tA, b_tB, b_tName, b_tMatch, b_tCount, b_oc, b_cc, b_newO, b_newC, b_openName, b_openTok, b_vKind, b_vNum, b_vCnt, b_vStr, b_vItem, b_vKey, b_vVal, b_out, b_fv, b_cKind, b_cSlot, b_cTok, b_cVal, b_cIdx, b_dig) → wpY_markStandalone post (g_ol, g_cl, g_newOl, g_newCl, g_tagName, g_parseErr, g_openCount, g_nVals, g_outLen, g_outCap, g_fn, g_cn, b_text, b_len, b_stat, b_errPos, b_removed, b_tType, b_tA, b_tB, b_tName, b_tMatch, b_tCount, b_oc, b_cc, b_newO, b_newC, b_openName, b_openTok, b_vKind, b_vNum, b_vCnt, b_vStr, b_vItem, b_vKey, b_vVal, b_out, b_fv, b_cKind, b_cSlot, b_cTok, b_cVal, b_cIdx, b_dig) (nI s) (nI q) (nI e) := by
  have b1 := ll_sb_b (T := T) q q (Nat.le_refl _)
  have b2 := ll_sp_b (T := T) (n - e) e
  have b3 := ll_nb_le (T := T) q
  have b4 := ll_nf_b (T := T) (n - e) e
  have l1 := ll_nb_sb (T := T) q
  have l2 := ll_nf_sp (T := T) (n - e) e
  rw [show e + (n - e) = n from by omega] at l2
  have start : ∀ post : SY → Prop, (∃ n61, wY_markStandalone_61 post (nI q) (nI e) (nI (s * 96)) (nI n) (nI (ll_nb T q)) g_ol g_cl g_newOl g_newCl g_tagName g_parseErr g_openCount g_nVals g_outLen g_outCap g_fn g_cn b_text b_len b_stat b_errPos b_removed b_tType b_tA b_tB b_tName b_tMatch b_tCount b_oc b_cc b_newO b_newC b_openName b_openTok b_vKind b_vNum b_vCnt b_vStr b_vItem b_vKey b_vVal b_out b_fv b_cKind b_cSlot b_cTok b_cVal b_cIdx b_dig n61 (nI (ll_nb T q))) → wpY_markStandalone post (g_ol, g_cl, g_newOl, g_newCl, g_tagName, g_parseErr, g_openCount, g_nVals, g_outLen, g_outCap, g_fn, g_cn, b_text, b_len, b_stat, b_errPos, b_removed, b_tType, b_tA, b_tB, b_tName, b_tMatch, b_tCount, b_oc, b_cc, b_newO, b_newC, b_openName, b_openTok, b_vKind, b_vNum, b_vCnt, b_vStr, b_vItem, b_vKey, b_vVal, b_out, b_fv, b_cKind, b_cSlot, b_cTok, b_cVal, b_cIdx, b_dig) (nI s) (nI q) (nI e) := fun post h => by
    unfold wpY_markStandalone
    exact nm_r (la_m96 s) ⟨vp_in_nI hs (by omega), nm_r (e' := nI n) (by rw [nI_clamp (by omega)]; exact hL) (nm_e ⟨_, ym_22 hs hT q (by omega) h⟩)⟩
  by_cases g1 : ∀ i, ll_nb T q ≤ i → i < q → T i = 32
  · by_cases g2 : ∀ i, e ≤ i → i < ll_nf T (n - e) e → T i = 32
    · have e1 := l1.2 g1
      have e2 := l2.2 g2
      have s1 := l1.1.mp g1
      have s2 := l2.1.mp g2
      refine ⟨fl_f (fl_f b_removed (s * 96 + ll_nb T q) (s * 96 + q) 1) (s * 96 + e) (s * 96 + (if ll_nf T (n - e) e < n then ll_nf T (n - e) e + 1 else n)) 1, fun c hc => ⟨fun y => ?_, fun y => ?_⟩, fun j hj => ?_, fun post h => start post ⟨_, ym_61 hs hT (by omega) (fun _ => ⟨_, ym_96 hs hT hn (n - e) e (by omega) ⟨_, ym_134 hs hT (by omega) (fun _ => ?_) (fun w => absurd g2 w) (ll_nf T (n - e) e - e) e (by omega) (Nat.le_refl _) (fun j j1 j2 => by omega)⟩⟩) (fun w => absurd g1 w) (q - ll_nb T q) (ll_nb T q) (by omega) (Nat.le_refl _) (fun j j1 j2 => by omega)⟩⟩
      · obtain ⟨_, _, y⟩ := y
        rw [e1, e2]
        by_cases w : e ≤ c
        · refine fl_in (by omega) ?_
          split <;> omega
        · rw [fl_out (by omega), fl_in (by omega) (by omega)]
      · have y' : ¬ ((ll_sb T q q ≤ c ∧ c < q) ∨ (e ≤ c ∧ c ≤ ll_sp T (n - e) e ∧ c < n)) := fun w => y ⟨s1, s2, w⟩
        rw [e1, e2, fl_out (by split <;> omega), fl_out (by omega)]
      · rw [fl_out (by split <;> omega), fl_out (by omega)]
      · have r := ym_167 (g_ol := g_ol) (g_cl := g_cl) (g_newOl := g_newOl) (g_newCl := g_newCl) (g_tagName := g_tagName) (g_parseErr := g_parseErr) (g_openCount := g_openCount) (g_nVals := g_nVals) (g_outLen := g_outLen) (g_outCap := g_outCap) (g_fn := g_fn) (g_cn := g_cn) (b_text := b_text) (b_len := b_len) (b_stat := b_stat) (b_errPos := b_errPos) (b_removed := b_removed) (b_tType := b_tType) (b_tA := b_tA) (b_tB := b_tB) (b_tName := b_tName) (b_tMatch := b_tMatch) (b_tCount := b_tCount) (b_oc := b_oc) (b_cc := b_cc) (b_newO := b_newO) (b_newC := b_newC) (b_openName := b_openName) (b_openTok := b_openTok) (b_vKind := b_vKind) (b_vNum := b_vNum) (b_vCnt := b_vCnt) (b_vStr := b_vStr) (b_vItem := b_vItem) (b_vKey := b_vKey) (b_vVal := b_vVal) (b_out := b_out) (b_fv := b_fv) (b_cKind := b_cKind) (b_cSlot := b_cSlot) (b_cTok := b_cTok) (b_cVal := b_cVal) (b_cIdx := b_cIdx) (b_dig := b_dig) (post := post) (n := n) (q := q) (e := e) (le := ll_nf T (n - e) e) (lo := ll_nb T q) hs hn (by omega) (by omega) (by omega) h (q - ll_nb T q) (ll_nb T q) (by omega) (Nat.le_refl _)
        rw [fl_0 (Nat.le_refl (s * 96 + ll_nb T q))] at r
        exact ⟨_, r⟩
    · refine ⟨b_removed, fun c hc => ⟨fun y => absurd (l2.1.mpr y.2.1) g2, fun _ => rfl⟩, fun _ _ => rfl, fun post h => start post ⟨_, ym_61 hs hT (by omega) (fun _ => ⟨_, ym_96 hs hT hn (n - e) e (by omega) ⟨_, ym_134 hs hT (by omega) (fun w => absurd w g2) (fun _ => h) (ll_nf T (n - e) e - e) e (by omega) (Nat.le_refl _) (fun j j1 j2 => by omega)⟩⟩) (fun w => absurd g1 w) (q - ll_nb T q) (ll_nb T q) (by omega) (Nat.le_refl _) (fun j j1 j2 => by omega)⟩⟩
  · refine ⟨b_removed, fun c hc => ⟨fun y => absurd (l1.1.mpr y.1) g1, fun _ => rfl⟩, fun _ _ => rfl, fun post h => start post ⟨_, ym_61 hs hT (by omega) (fun w => absurd w g1) (fun _ => h) (q - ll_nb T q) (ll_nb T q) (by omega) (Nat.le_refl _) (fun j j1 j2 => by omega)⟩⟩
end TXT
end LLYM
