section LLY
variable {g_ol g_cl g_newOl g_newCl g_tagName g_parseErr g_openCount g_nVals g_outLen g_outCap g_fn g_cn : Int32} {b_text b_len b_stat b_errPos b_removed b_tType b_tA b_tB b_tName b_tMatch b_tCount b_oc b_cc b_newO b_newC b_openName b_openTok b_vKind b_vNum b_vCnt b_vStr b_vItem b_vKey b_vVal b_out b_fv b_cKind b_cSlot b_cTok b_cVal b_cIdx b_dig : Nat → Int32}
def ll_oY : Option Nat → Int32
  | none => -1
  | some q => nI q
section TXT
variable {s : Nat} {T : Nat → Int32}
theorem yl_oc {post J : Int32 → Prop} {O : Nat → Int32} {l x n : Nat} {c : Int32} (hs : s < 4) (hT : ∀ i, i < 96 → b_text (s * 96 + i) = T i) (hl : l ≤ 3) (hx : x + l ≤ 96) (h0 : c = 0 → ∀ j, j < l → b_oc j = O j) (h1 : ¬ c = 0 → ∀ j, j < l → b_cc j = O j) : ∀ d i, i + d = l → (ll_oc T O x d i = true → post (nI x)) → (ll_oc T O x d i = false → J (nI (x + 1))) → wY_findDelim_49 post J (nI s) c (nI n) (nI l) (nI x) 1 g_ol g_cl g_newOl g_newCl g_tagName g_parseErr g_openCount g_nVals g_outLen g_outCap g_fn g_cn b_text b_len b_stat b_errPos b_removed b_tType b_tA b_tB b_tName b_tMatch b_tCount b_oc b_cc b_newO b_newC b_openName b_openTok b_vKind b_vNum b_vCnt b_vStr b_vItem b_vKey b_vVal b_out b_fv b_cKind b_cSlot b_cTok b_cVal b_cIdx b_dig (d + 1) (nI i) := by
  intro d
  induction d with
  | zero => intro i hi g1 g0; exact br_t (nI_le (by omega) (by omega)) (br_f (by decide) (g1 rfl))
  | succ d ih =>
    intro i hi g1 g0
    rw [ll_oc_s] at g1 g0
    have e : nI s * 96 + nI x + nI i = nI (s * 96 + (x + i)) := by rw [la_m96, nI_add, nI_add]; exact congrArg nI (by omega)
    have key : ∀ z : Int32, z = O i → wY_findDelim_77 post J (wY_findDelim_49 post J (nI s) c (nI n) (nI l) (nI x) 1 g_ol g_cl g_newOl g_newCl g_tagName g_parseErr g_openCount g_nVals g_outLen g_outCap g_fn g_cn b_text b_len b_stat b_errPos b_removed b_tType b_tA b_tB b_tName b_tMatch b_tCount b_oc b_cc b_newO b_newC b_openName b_openTok b_vKind b_vNum b_vCnt b_vStr b_vItem b_vKey b_vVal b_out b_fv b_cKind b_cSlot b_cTok b_cVal b_cIdx b_dig (d + 1)) (nI s) c (nI n) (nI l) (nI x) 1 (nI i) z g_ol g_cl g_newOl g_newCl g_tagName g_parseErr g_openCount g_nVals g_outLen g_outCap g_fn g_cn b_text b_len b_stat b_errPos b_removed b_tType b_tA b_tB b_tName b_tMatch b_tCount b_oc b_cc b_newO b_newC b_openName b_openTok b_vKind b_vNum b_vCnt b_vStr b_vItem b_vKey b_vVal b_out b_fv b_cKind b_cSlot b_cTok b_cVal b_cIdx b_dig := by
      intro z hz
      subst hz
      unfold wY_findDelim_77
      rw [e, nI_clamp (by omega), hT (x + i) (by omega)]
      refine ⟨vp_in_nI (by omega) (by omega), ?_⟩
      by_cases w : T (x + i) = O i
      · rw [if_pos w] at g1 g0
        exact br_t w (nm_r (nI_1 _) (ih (i + 1) (by omega) g1 g0))
      · rw [if_neg w] at g0
        exact br_f w (br_t rfl (nm_r (nI_1 _) (g0 rfl)))
    refine br_f (nI_ge (by omega) (by omega)) ⟨fun w => ⟨vp_in_nI (by omega) (by omega), key _ ?_⟩, fun w => ⟨vp_in_nI (by omega) (by omega), key _ ?_⟩⟩
    · rw [nI_clamp (by omega)]; exact h0 w i (by omega)
    · rw [nI_clamp (by omega)]; exact h1 w i (by omega)
theorem yl_fd {post : Int32 → Prop} {O : Nat → Int32} {l n : Nat} {c : Int32} (hs : s < 4) (hT : ∀ i, i < 96 → b_text (s * 96 + i) = T i) (hl : l ≤ 3) (hn : n ≤ 96) (h0 : c = 0 → ∀ j, j < l → b_oc j = O j) (h1 : ¬ c = 0 → ∀ j, j < l → b_cc j = O j) : ∀ d x, x + d = n + 1 → post (ll_oY (ll_fd T O l n d x)) → wY_findDelim_28 post (nI s) c (nI n) (nI l) g_ol g_cl g_newOl g_newCl g_tagName g_parseErr g_openCount g_nVals g_outLen g_outCap g_fn g_cn b_text b_len b_stat b_errPos b_removed b_tType b_tA b_tB b_tName b_tMatch b_tCount b_oc b_cc b_newO b_newC b_openName b_openTok b_vKind b_vNum b_vCnt b_vStr b_vItem b_vKey b_vVal b_out b_fv b_cKind b_cSlot b_cTok b_cVal b_cIdx b_dig (d + 1) (nI x) := by
  intro d
  induction d with
  | zero =>
    intro x hx h
    refine br_f (nI_pos (by omega)) (br_t ?_ h)
    rw [nI_add]
    exact nI_lt (by omega) (by omega)
  | succ d ih =>
    intro x hx h
    rw [ll_fd_u] at h
    refine br_f (nI_pos (by omega)) ?_
    by_cases z : x + l ≤ n
    · rw [if_pos z] at h
      refine br_f (by rw [nI_add]; exact nI_nlt (by omega) (by omega)) ⟨_, yl_oc hs hT hl (by omega) h0 h1 l 0 (by omega) (fun y => ?_) (fun y => ?_)⟩
      · rw [if_pos y] at h
        exact h
      · rw [if_neg (by rw [y]; decide)] at h
        exact ih (x + 1) (by omega) h
    · rw [if_neg z] at h
      refine br_t ?_ h
      rw [nI_add]
      exact nI_lt (by omega) (by omega)
theorem yl_find0 {post : Int32 → Prop} {O : Nat → Int32} {l n x : Nat} (hs : s < 4) (hT : ∀ i, i < 96 → b_text (s * 96 + i) = T i) (hL : b_len s = nI n) (hl : l ≤ 3) (hn : n ≤ 96) (hx : x ≤ n) (hO : ∀ j, j < l → b_oc j = O j) (h : post (ll_oY (ll_fd T O l n (n + 1 - x) x))) : wpY_findDelim post (nI l, g_cl, g_newOl, g_newCl, g_tagName, g_parseErr, g_openCount, g_nVals, g_outLen, g_outCap, g_fn, g_cn, b_text, b_len, b_stat, b_errPos, b_removed, b_tType, b_tA, b_tB, b_tName, b_tMatch, b_tCount, b_oc, b_cc, b_newO, b_newC, b_openName, b_openTok, b_vKind, b_vNum, b_vCnt, b_vStr, b_vItem, b_vKey, b_vVal, b_out, b_fv, b_cKind, b_cSlot, b_cTok, b_cVal, b_cIdx, b_dig) (nI s) (nI x) 0 :=
  ⟨vp_in_nI hs (by omega), nm_r (by rw [nI_clamp (by omega)]; exact hL) (br_t rfl ⟨_, yl_fd hs hT hl hn (fun _ => hO) (fun z => absurd rfl z) (n + 1 - x) x (by omega) h⟩)⟩
theorem yl_find1 {post : Int32 → Prop} {O : Nat → Int32} {l n x : Nat} (hs : s < 4) (hT : ∀ i, i < 96 → b_text (s * 96 + i) = T i) (hL : b_len s = nI n) (hl : l ≤ 3) (hn : n ≤ 96) (hx : x ≤ n) (hO : ∀ j, j < l → b_cc j = O j) (h : post (ll_oY (ll_fd T O l n (n + 1 - x) x))) : wpY_findDelim post (g_ol, nI l, g_newOl, g_newCl, g_tagName, g_parseErr, g_openCount, g_nVals, g_outLen, g_outCap, g_fn, g_cn, b_text, b_len, b_stat, b_errPos, b_removed, b_tType, b_tA, b_tB, b_tName, b_tMatch, b_tCount, b_oc, b_cc, b_newO, b_newC, b_openName, b_openTok, b_vKind, b_vNum, b_vCnt, b_vStr, b_vItem, b_vKey, b_vVal, b_out, b_fv, b_cKind, b_cSlot, b_cTok, b_cVal, b_cIdx, b_dig) (nI s) (nI x) 1 :=
  ⟨vp_in_nI hs (by omega), nm_r (by rw [nI_clamp (by omega)]; exact hL) (br_f (by decide) ⟨_, yl_fd hs hT hl hn (fun z => absurd z (by decide)) (fun _ => hO) (n + 1 - x) x (by omega) h⟩)⟩
theorem yl_s38 {post : Int32 → Prop} {lo : Nat} (hs : s < 4) (hT : ∀ i, i < 96 → b_text (s * 96 + i) = T i) : ∀ d j, lo + d = j → j ≤ 96 → wY_single_73 post (nI s) (nI lo) (nI (ll_sb T d j)) g_ol g_cl g_newOl g_newCl g_tagName g_parseErr g_openCount g_nVals g_outLen g_outCap g_fn g_cn b_text b_len b_stat b_errPos b_removed b_tType b_tA b_tB b_tName b_tMatch b_tCount b_oc b_cc b_newO b_newC b_openName b_openTok b_vKind b_vNum b_vCnt b_vStr b_vItem b_vKey b_vVal b_out b_fv b_cKind b_cSlot b_cTok b_cVal b_cIdx b_dig → wY_single_38 post (nI s) (nI lo) g_ol g_cl g_newOl g_newCl g_tagName g_parseErr g_openCount g_nVals g_outLen g_outCap g_fn g_cn b_text b_len b_stat b_errPos b_removed b_tType b_tA b_tB b_tName b_tMatch b_tCount b_oc b_cc b_newO b_newC b_openName b_openTok b_vKind b_vNum b_vCnt b_vStr b_vItem b_vKey b_vVal b_out b_fv b_cKind b_cSlot b_cTok b_cVal b_cIdx b_dig (d + 1) (nI j) := by
  intro d
  induction d with
  | zero => intro j hi hj h; exact br_t (nI_le (by omega) (by omega)) h
  | succ d ih =>
    intro j hi hj h
    have e1 : nI s * 96 + nI j - 1 = nI (s * 96 + (j - 1)) := by rw [la_m96, nI_add, la_s (by omega)]; exact congrArg nI (by omega)
    refine br_f (nI_ge (by omega) (by omega)) ?_
    rw [e1, nI_clamp (by omega), hT (j - 1) (by omega)]
    refine ⟨vp_in_nI (by omega) (by omega), ?_⟩
    rw [ll_sb_u] at h
    by_cases z : T (j - 1) = 32
    · rw [if_pos z] at h
      exact br_t z (nm_r (la_m (by omega)) (ih (j - 1) (by omega) (by omega) h))
    · rw [if_neg z] at h
      exact br_f z h
theorem yl_s3 {post : Int32 → Prop} {e : Nat} (hs : s < 4) (hT : ∀ i, i < 96 → b_text (s * 96 + i) = T i) (he : e ≤ 96) : ∀ d i, i + d = e → (∃ n38, wY_single_38 post (nI s) (nI (ll_sp T d i)) g_ol g_cl g_newOl g_newCl g_tagName g_parseErr g_openCount g_nVals g_outLen g_outCap g_fn g_cn b_text b_len b_stat b_errPos b_removed b_tType b_tA b_tB b_tName b_tMatch b_tCount b_oc b_cc b_newO b_newC b_openName b_openTok b_vKind b_vNum b_vCnt b_vStr b_vItem b_vKey b_vVal b_out b_fv b_cKind b_cSlot b_cTok b_cVal b_cIdx b_dig n38 (nI e)) → wY_single_3 post (nI s) (nI e) g_ol g_cl g_newOl g_newCl g_tagName g_parseErr g_openCount g_nVals g_outLen g_outCap g_fn g_cn b_text b_len b_stat b_errPos b_removed b_tType b_tA b_tB b_tName b_tMatch b_tCount b_oc b_cc b_newO b_newC b_openName b_openTok b_vKind b_vNum b_vCnt b_vStr b_vItem b_vKey b_vVal b_out b_fv b_cKind b_cSlot b_cTok b_cVal b_cIdx b_dig (d + 1) (nI i) := by
  intro d
  induction d with
  | zero => intro i hi h; exact br_t (nI_le (by omega) (by omega)) h
  | succ d ih =>
    intro i hi h
    refine br_f (nI_ge (by omega) (by omega)) ?_
    rw [la_m96, nI_add, nI_clamp (by omega), hT i (by omega)]
    refine ⟨vp_in_nI (by omega) (by omega), ?_⟩
    rw [ll_sp_u] at h
    by_cases z : T i = 32
    · rw [if_pos z] at h
      exact br_t z (nm_r (nI_1 _) (ih (i + 1) (by omega) h))
    · rw [if_neg z] at h
      exact br_f z h
theorem yl_single {post : Int32 → Prop} {lo hi : Nat} (hs : s < 4) (hT : ∀ i, i < 96 → b_text (s * 96 + i) = T i) (hh : hi ≤ 96) (hl : lo ≤ hi) (h : post (ll_on T lo hi)) : wpY_single post (g_ol, g_cl, g_newOl, g_newCl, g_tagName, g_parseErr, g_openCount, g_nVals, g_outLen, g_outCap, g_fn, g_cn, b_text, b_len, b_stat, b_errPos, b_removed, b_tType, b_tA, b_tB, b_tName, b_tMatch, b_tCount, b_oc, b_cc, b_newO, b_newC, b_openName, b_openTok, b_vKind, b_vNum, b_vCnt, b_vStr, b_vItem, b_vKey, b_vVal, b_out, b_fv, b_cKind, b_cSlot, b_cTok, b_cVal, b_cIdx, b_dig) (nI s) (nI lo) (nI hi) := by
  have b1 := ll_of_b (T := T) hl
  have b2 := ll_ol_b (T := T) hl
  refine ⟨_, yl_s3 hs hT hh (hi - lo) lo (by omega) ⟨_, yl_s38 (lo := ll_of T lo hi) hs hT (hi - ll_of T lo hi) hi (by omega) hh ?_⟩⟩
  show wY_single_73 post (nI s) (nI (ll_of T lo hi)) (nI (ll_ol T lo hi)) g_ol g_cl g_newOl g_newCl g_tagName g_parseErr g_openCount g_nVals g_outLen g_outCap g_fn g_cn b_text b_len b_stat b_errPos b_removed b_tType b_tA b_tB b_tName b_tMatch b_tCount b_oc b_cc b_newO b_newC b_openName b_openTok b_vKind b_vNum b_vCnt b_vStr b_vItem b_vKey b_vVal b_out b_fv b_cKind b_cSlot b_cTok b_cVal b_cIdx b_dig
  unfold wY_single_73
  rw [pk_sub b2.1, la_m96, nI_add, nI_clamp (by omega)]
  unfold ll_on at h
  refine pk_eq (ll_ol T lo hi - ll_of T lo hi) 1 (fun z => ⟨vp_in_nI (by omega) (by omega), ?_⟩) (fun z => ?_)
  · rw [if_pos (by omega)] at h
    rw [hT _ (by omega)]
    exact h
  · rw [if_neg (by omega)] at h
    exact h
theorem yl_isN {post : Int32 → Prop} {c : Int32} (h1 : ll_nm c → post 1) (h0 : ¬ ll_nm c → post 0) : wpY_isName post (g_ol, g_cl, g_newOl, g_newCl, g_tagName, g_parseErr, g_openCount, g_nVals, g_outLen, g_outCap, g_fn, g_cn, b_text, b_len, b_stat, b_errPos, b_removed, b_tType, b_tA, b_tB, b_tName, b_tMatch, b_tCount, b_oc, b_cc, b_newO, b_newC, b_openName, b_openTok, b_vKind, b_vNum, b_vCnt, b_vStr, b_vItem, b_vKey, b_vVal, b_out, b_fv, b_cKind, b_cSlot, b_cTok, b_cVal, b_cIdx, b_dig) c := by
  by_cases a : c = 46
  · exact br_t a (h1 (Or.inl a))
  · refine br_f a (br_c (fun z => h0 ?_) (fun z => br_c (fun w => h0 ?_) (fun w => h1 (Or.inr ⟨Int32.not_lt.mp z, Int32.not_lt.mp w⟩))))
    · rintro (y | y)
      · exact a y
      · exact absurd z (Int32.not_lt.mpr y.1)
    · rintro (y | y)
      · exact a y
      · exact absurd w (Int32.not_lt.mpr y.2)
end TXT
end LLY
