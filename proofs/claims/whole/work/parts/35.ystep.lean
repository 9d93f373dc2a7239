section LLYS
/-! one tag on Y's side -/
def fr_Y (s : Nat) (R ty tA tB tN tM tC R' ty' tA' tB' tN' tM' tC' : Nat → Int32) : Prop := (∀ s', s' ≠ s → tC' s' = tC s') ∧ (∀ s' c, s' ≠ s → c < 96 → R' (s' * 96 + c) = R (s' * 96 + c)) ∧ (∀ s' j, s' ≠ s → j < 100 → ty' (s' * 100 + j) = ty (s' * 100 + j) ∧ tA' (s' * 100 + j) = tA (s' * 100 + j) ∧ tB' (s' * 100 + j) = tB (s' * 100 + j) ∧ tN' (s' * 100 + j) = tN (s' * 100 + j) ∧ tM' (s' * 100 + j) = tM (s' * 100 + j))
theorem fr_rf {s : Nat} {R ty tA tB tN tM tC : Nat → Int32} : fr_Y s R ty tA tB tN tM tC R ty tA tB tN tM tC := ⟨fun _ _ => rfl, fun _ _ _ _ => rfl, fun _ _ _ _ => ⟨rfl, rfl, rfl, rfl, rfl⟩⟩
theorem fr_tr {s : Nat} {R ty tA tB tN tM tC R' ty' tA' tB' tN' tM' tC' R'' ty'' tA'' tB'' tN'' tM'' tC'' : Nat → Int32} (h : fr_Y s R ty tA tB tN tM tC R' ty' tA' tB' tN' tM' tC') (h' : fr_Y s R' ty' tA' tB' tN' tM' tC' R'' ty'' tA'' tB'' tN'' tM'' tC'') : fr_Y s R ty tA tB tN tM tC R'' ty'' tA'' tB'' tN'' tM'' tC'' :=
  ⟨fun s' z => (h'.1 s' z).trans (h.1 s' z), fun s' c z w => (h'.2.1 s' c z w).trans (h.2.1 s' c z w), fun s' j z w => ⟨(h'.2.2 s' j z w).1.trans (h.2.2 s' j z w).1, (h'.2.2 s' j z w).2.1.trans (h.2.2 s' j z w).2.1, (h'.2.2 s' j z w).2.2.1.trans (h.2.2 s' j z w).2.2.1, (h'.2.2 s' j z w).2.2.2.1.trans (h.2.2 s' j z w).2.2.2.1, (h'.2.2 s' j z w).2.2.2.2.trans (h.2.2 s' j z w).2.2.2.2⟩⟩
theorem fr_tok {s m : Nat} {R ty tA tB tN tM tC R' : Nat → Int32} {a b c d e f : Int32} (hm : m < 100) (hR : ∀ j, j < s * 96 ∨ s * 96 + 96 ≤ j → R' j = R j) : fr_Y s R ty tA tB tN tM tC R' (upd ty (s * 100 + m) a) (upd tA (s * 100 + m) b) (upd tB (s * 100 + m) c) (upd tN (s * 100 + m) d) (upd tM (s * 100 + m) e) (upd tC s f) := by
  refine ⟨fun s' z => pk_un z, fun s' c z w => hR _ (by omega), fun s' j z w => ?_⟩
  have : s' * 100 + j ≠ s * 100 + m := by omega
  exact ⟨pk_un this, pk_un this, pk_un this, pk_un this, pk_un this⟩
theorem fr_mt {s m : Nat} {R ty tA tB tN tM tC : Nat → Int32} {a : Int32} (hm : m < 100) : fr_Y s R ty tA tB tN tM tC R ty tA tB tN (upd tM (s * 100 + m) a) tC := by
  refine ⟨fun s' z => rfl, fun s' c z w => rfl, fun s' j z w => ⟨rfl, rfl, rfl, rfl, pk_un (by omega)⟩⟩
theorem up_3 {f g : Nat → Int32} {i : Nat} (hi : i < 3) : upd (upd (upd f 0 (g 0)) 1 (g 1)) 2 (g 2) i = g i := by
  by_cases h2 : i = 2
  · rw [h2, pk_us]
  · rw [pk_un h2]
    by_cases h1 : i = 1
    · rw [h1, pk_us]
    · rw [pk_un h1]
      have h0 : i = 0 := by omega
      rw [h0, pk_us]
variable {g_ol g_cl g_newOl g_newCl g_tagName g_parseErr g_openCount g_nVals g_outLen g_outCap g_fn g_cn : Int32} {b_text b_len b_stat b_errPos b_removed b_tType b_tA b_tB b_tName b_tMatch b_tCount b_oc b_cc b_newO b_newC b_openName b_openTok b_vKind b_vNum b_vCnt b_vStr b_vItem b_vKey b_vVal b_out b_fv b_cKind b_cSlot b_cTok b_cVal b_cIdx b_dig : Nat → Int32}
section TXT
variable {s n p q e m ol cl sp : Nat} {ps tp : Nat → Nat} {st : Nat → List Nat} {T K N E G oM cM oT O : Nat → Int32}
theorem yl_findE0 {post : Int32 → Prop} {l x : Nat} {r : Option Nat} (hs : s < 4) (hT : ∀ i, i < 96 → b_text (s * 96 + i) = T i) (hL : b_len s = nI n) (hl : l ≤ 3) (hn : n ≤ 96) (hx : x ≤ n) (hO : ∀ j, j < l → b_oc j = O j) (hf : ll_fd T O l n (n + 1 - x) x = r) (h : post (ll_oY r)) : wpY_findDelim post (nI l, g_cl, g_newOl, g_newCl, g_tagName, g_parseErr, g_openCount, g_nVals, g_outLen, g_outCap, g_fn, g_cn, b_text, b_len, b_stat, b_errPos, b_removed, b_tType, b_tA, b_tB, b_tName, b_tMatch, b_tCount, b_oc, b_cc, b_newO, b_newC, b_openName, b_openTok, b_vKind, b_vNum, b_vCnt, b_vStr, b_vItem, b_vKey, b_vVal, b_out, b_fv, b_cKind, b_cSlot, b_cTok, b_cVal, b_cIdx, b_dig) (nI s) (nI x) 0 := by
  subst hf
  exact yl_find0 hs hT hL hl hn hx hO h
theorem yl_findE1 {post : Int32 → Prop} {l x : Nat} {r : Option Nat} {y : Int32} (hs : s < 4) (hT : ∀ i, i < 96 → b_text (s * 96 + i) = T i) (hL : b_len s = nI n) (hl : l ≤ 3) (hn : n ≤ 96) (hx : x ≤ n) (hO : ∀ j, j < l → b_cc j = O j) (hf : ll_fd T O l n (n + 1 - x) x = r) (hy : y = nI x) (h : post (ll_oY r)) : wpY_findDelim post (g_ol, nI l, g_newOl, g_newCl, g_tagName, g_parseErr, g_openCount, g_nVals, g_outLen, g_outCap, g_fn, g_cn, b_text, b_len, b_stat, b_errPos, b_removed, b_tType, b_tA, b_tB, b_tName, b_tMatch, b_tCount, b_oc, b_cc, b_newO, b_newC, b_openName, b_openTok, b_vKind, b_vNum, b_vCnt, b_vStr, b_vItem, b_vKey, b_vVal, b_out, b_fv, b_cKind, b_cSlot, b_cTok, b_cVal, b_cIdx, b_dig) (nI s) y 1 := by
  subst hf hy
  exact yl_find1 hs hT hL hl hn hx hO h
/-- the literal ahead of q -/
theorem ya_L (hs : s < 4) (hn : n ≤ 96) (hpq : p ≤ q) (hq : q ≤ n) (hC : b_tCount s = nI m) (hI : cp_I s n p ol cl m ps tp st T K N E G oM cM oT b_removed b_tType b_tA b_tB b_tName b_tMatch b_oc b_cc b_openName b_openTok) :
    ∃ (m' : Nat) (ps' tp' : Nat → Nat) (st' : Nat → List Nat) (b_tType' b_tA' b_tB' b_tName' b_tMatch' b_tCount' : Nat → Int32), b_tCount' s = nI m' ∧ (st' m').length = (st m).length ∧ fr_Y s b_removed b_tType b_tA b_tB b_tName b_tMatch b_tCount b_removed b_tType' b_tA' b_tB' b_tName' b_tMatch' b_tCount' ∧
    cp_I s n q ol cl m' ps' tp' st' T K N E G oM cM oT b_removed b_tType' b_tA' b_tB' b_tName' b_tMatch' b_oc b_cc b_openName b_openTok ∧
    ∀ post : SY → Prop, post (g_ol, g_cl, g_newOl, g_newCl, g_tagName, g_parseErr, g_openCount, g_nVals, g_outLen, g_outCap, g_fn, g_cn, b_text, b_len, b_stat, b_errPos, b_removed, b_tType', b_tA', b_tB', b_tName', b_tMatch', b_tCount', b_oc, b_cc, b_newO, b_newC, b_openName, b_openTok, b_vKind, b_vNum, b_vCnt, b_vStr, b_vItem, b_vKey, b_vVal, b_out, b_fv, b_cKind, b_cSlot, b_cTok, b_cVal, b_cIdx, b_dig) → wpY_addTok post (g_ol, g_cl, g_newOl, g_newCl, g_tagName, g_parseErr, g_openCount, g_nVals, g_outLen, g_outCap, g_fn, g_cn, b_text, b_len, b_stat, b_errPos, b_removed, b_tType, b_tA, b_tB, b_tName, b_tMatch, b_tCount, b_oc, b_cc, b_newO, b_newC, b_openName, b_openTok, b_vKind, b_vNum, b_vCnt, b_vStr, b_vItem, b_vKey, b_vVal, b_out, b_fv, b_cKind, b_cSlot, b_cTok, b_cVal, b_cIdx, b_dig) (nI s) 1 (nI p) (nI q) 0 := by
  have hm := tk_mp hI.1
  by_cases z : p < q
  · refine ⟨m + 1, _, _, _, _, _, _, _, _, _, pk_us, ?_, fr_tok (by omega) (fun _ _ => rfl), cp_lit hI z hq 0 0, fun post h => ya_lit hs (by omega) z (by omega) hC h⟩
    rw [fu_s]
  · have e0 : p = q := by omega
    subst e0
    exact ⟨m, ps, tp, st, b_tType, b_tA, b_tB, b_tName, b_tMatch, b_tCount, hC, rfl, fr_rf, hI, fun post h => ya_non (by omega) (by omega) h⟩
/-- the token of the tag, and the line -/
theorem ya_475 {k : Nat} {x9 : Int32} (hs : s < 4) (hT : ∀ i, i < 96 → b_text (s * 96 + i) = T i) (hL : b_len s = nI n) (hn : n ≤ 96) (hq : q < e) (he : e ≤ n) (hm : m < 100) (hk : 2 ≤ k) (hk9 : k ≤ 9) (hC : b_tCount s = nI m) :
    ∃ R' : Nat → Int32, (∀ c, c < n → ((k ≠ 2 ∧ k ≠ 3 ∧ rm_P T n q e c) → R' (s * 96 + c) = 1) ∧ (¬ (k ≠ 2 ∧ k ≠ 3 ∧ rm_P T n q e c) → R' (s * 96 + c) = b_removed (s * 96 + c))) ∧ (∀ j, j < s * 96 ∨ s * 96 + 96 ≤ j → R' j = b_removed j) ∧
    ∀ (post : Int32 → SY → Prop) (F : Nat), wY_parse_97 post (nI s) (nI n) F (nI e) (nI (sp + 1)) g_ol g_cl g_newOl g_newCl g_tagName g_parseErr g_openCount g_nVals g_outLen g_outCap g_fn g_cn b_text b_len b_stat b_errPos R' (upd b_tType (s * 100 + m) (nI (ll_ty k))) (upd b_tA (s * 100 + m) (nI q)) (upd b_tB (s * 100 + m) (nI e)) (upd b_tName (s * 100 + m) x9) (upd b_tMatch (s * 100 + m) 0) (upd b_tCount s (nI (m + 1))) b_oc b_cc b_newO b_newC b_openName b_openTok b_vKind b_vNum b_vCnt b_vStr b_vItem b_vKey b_vVal b_out b_fv b_cKind b_cSlot b_cTok b_cVal b_cIdx b_dig → wY_parse_475 post (wY_parse_97 post (nI s) (nI n) F) (nI s) (nI n) (nI sp) (nI q) (nI e) (nI (ll_ty k)) x9 g_ol g_cl g_newOl g_newCl g_tagName g_parseErr g_openCount g_nVals g_outLen g_outCap g_fn g_cn b_text b_len b_stat b_errPos b_removed b_tType b_tA b_tB b_tName b_tMatch b_tCount b_oc b_cc b_newO b_newC b_openName b_openTok b_vKind b_vNum b_vCnt b_vStr b_vItem b_vKey b_vVal b_out b_fv b_cKind b_cSlot b_cTok b_cVal b_cIdx b_dig := by
  have kt := tk_kty k hk9 hk
  have v4 : nI (ll_ty k) = 4 ↔ k = 2 := by
    have d : ∀ k, k ≤ 9 → 2 ≤ k → (nI (ll_ty k) = 4 ↔ k = 2) := by decide
    exact d k hk9 hk
  have v5 : nI (ll_ty k) = 5 ↔ k = 3 := by
    have d : ∀ k, k ≤ 9 → 2 ≤ k → (nI (ll_ty k) = 5 ↔ k = 3) := by decide
    exact d k hk9 hk
  by_cases z : k = 2 ∨ k = 3
  · refine ⟨b_removed, fun c hc => ⟨fun y => by omega, fun _ => rfl⟩, fun _ _ => rfl, fun post F h => ?_⟩
    unfold wY_parse_475
    refine ya_tag hs hm kt.2.1 kt.2.2 hC ?_
    rcases z with z | z
    · exact br_t (v4.mpr z) (nm_r (nI_1 _) h)
    · exact br_f (fun y => by have := v4.mp y; omega) (br_t (v5.mpr z) (nm_r (nI_1 _) h))
  · obtain ⟨R', r1, r2, r3⟩ := ym_E (g_ol := g_ol) (g_cl := g_cl) (g_newOl := g_newOl) (g_newCl := g_newCl) (g_tagName := g_tagName) (g_parseErr := g_parseErr) (g_openCount := g_openCount) (g_nVals := g_nVals) (g_outLen := g_outLen) (g_outCap := g_outCap) (g_fn := g_fn) (g_cn := g_cn) (b_text := b_text) (b_len := b_len) (b_stat := b_stat) (b_errPos := b_errPos) (b_removed := b_removed) (b_tType := upd b_tType (s * 100 + m) (nI (ll_ty k))) (b_tA := upd b_tA (s * 100 + m) (nI q)) (b_tB := upd b_tB (s * 100 + m) (nI e)) (b_tName := upd b_tName (s * 100 + m) x9) (b_tMatch := upd b_tMatch (s * 100 + m) 0) (b_tCount := upd b_tCount s (nI (m + 1))) (b_oc := b_oc) (b_cc := b_cc) (b_newO := b_newO) (b_newC := b_newC) (b_openName := b_openName) (b_openTok := b_openTok) (b_vKind := b_vKind) (b_vNum := b_vNum) (b_vCnt := b_vCnt) (b_vStr := b_vStr) (b_vItem := b_vItem) (b_vKey := b_vKey) (b_vVal := b_vVal) (b_out := b_out) (b_fv := b_fv) (b_cKind := b_cKind) (b_cSlot := b_cSlot) (b_cTok := b_cTok) (b_cVal := b_cVal) (b_cIdx := b_cIdx) (b_dig := b_dig) hs hT hL hn hq he
    refine ⟨R', fun c hc => ⟨fun y => (r1 c hc).1 y.2.2, fun y => (r1 c hc).2 (fun w => y ⟨by omega, by omega, w⟩)⟩, r2, fun post F h => ?_⟩
    unfold wY_parse_475
    refine ya_tag hs hm kt.2.1 kt.2.2 hC ?_
    exact br_f (fun y => by have := v4.mp y; omega) (br_f (fun y => by have := v5.mp y; omega) (r3 _ (nm_r (nI_1 _) h)))
end TXT
end LLYS
