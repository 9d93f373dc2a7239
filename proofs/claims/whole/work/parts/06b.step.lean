section LLS
/-! the tie while both sides read the text -/
def cp_O (s : Nat) (N oT oN oK : Nat → Int32) (ps : Nat → Nat) : List Nat → Prop
  | [] => True
  | h :: r => oT r.length = nI (s * 96 + ps h) ∧ oK r.length = nI h ∧ oN r.length = N (s * 96 + ps h) ∧ cp_O s N oT oN oK ps r
theorem cp_Ocg {s : Nat} {N oT oN oK N' oT' oN' oK' : Nat → Int32} {ps ps' : Nat → Nat} : ∀ l : List Nat, cp_O s N oT oN oK ps l → (∀ h, h ∈ l → ps' h = ps h ∧ N' (s * 96 + ps h) = N (s * 96 + ps h)) → (∀ i, i < l.length → oT' i = oT i ∧ oN' i = oN i ∧ oK' i = oK i) → cp_O s N' oT' oN' oK' ps' l := by
  intro l
  induction l with
  | nil => intro _ _ _; trivial
  | cons h r ih =>
    intro H a b
    obtain ⟨h1, h2, h3, h4⟩ := H
    have a1 := a h (List.mem_cons.mpr (Or.inl rfl))
    have b1 := b r.length (by simp only [List.length_cons]; omega)
    refine ⟨?_, ?_, ?_, ih h4 (fun x hx => a x (List.mem_cons.mpr (Or.inr hx))) (fun i hi => b i (by simp only [List.length_cons]; omega))⟩
    · rw [b1.1, a1.1]; exact h1
    · rw [b1.2.2]; exact h2
    · rw [b1.2.1, a1.1, a1.2]; exact h3
def cp_I (s n p ol cl m : Nat) (ps tp : Nat → Nat) (st : Nat → List Nat) (T K N E G oM cM oT R ty tA tB tN tM oc cc oN oK : Nat → Int32) : Prop :=
  tk_a s m p ty tA tB ps tp ∧ tk_c s n m p T K N E R tN ps tp ∧ tk_s s m G tM ps tp st ∧ cp_O s N oT oN oK ps (st m) ∧ (∀ i, i < ol → oc i = oM i) ∧ (∀ i, i < cl → cc i = cM i) ∧ (s ≠ 0 → ∀ t, t < m → tp t ≠ 9)
/-- a literal -/
theorem cp_lit {s n p ol cl m : Nat} {ps tp : Nat → Nat} {st : Nat → List Nat} {T K N E G oM cM oT R ty tA tB tN tM oc cc oN oK : Nat → Int32} (h : cp_I s n p ol cl m ps tp st T K N E G oM cM oT R ty tA tB tN tM oc cc oN oK) {q : Nat} (hp : p < q) (hq : q ≤ n) (x y : Int32) :
    cp_I s n q ol cl (m + 1) (fu ps (m + 1) q) (fu tp m 1) (fu st (m + 1) (st m)) T K N E G oM cM oT R (upd ty (s * 100 + m) (nI 1)) (upd tA (s * 100 + m) (nI p)) (upd tB (s * 100 + m) (nI q)) (upd tN (s * 100 + m) x) (upd tM (s * 100 + m) y) oc cc oN oK := by
  obtain ⟨h1, h2, h3, h4, h5, h6, h7⟩ := h
  refine ⟨tk_a1 h1 hp (by omega) (by omega), tk_c1 h1 h2 hp hq, tk_s1 h3 (by omega) (by omega) (by omega) y, ?_, h5, h6, fun z t ht => ?_⟩
  · rw [fu_s]
    refine cp_Ocg _ h4 (fun w hw => ?_) (fun i _ => ⟨rfl, rfl, rfl⟩)
    have := tk_sb h3 m m (Nat.le_refl _) (Nat.le_refl _) w hw
    exact ⟨fu_n (by omega), rfl⟩
  · by_cases e : t = m
    · rw [e, fu_s]; omega
    · rw [fu_n e]; exact h7 z t (by omega)
theorem cp_len {s n p ol cl m : Nat} {ps tp : Nat → Nat} {st : Nat → List Nat} {T K N E G oM cM oT R ty tA tB tN tM oc cc oN oK : Nat → Int32} (h : cp_I s n p ol cl m ps tp st T K N E G oM cM oT R ty tA tB tN tM oc cc oN oK) : (st m).length ≤ 2 := (h.2.2.1.2.2.1 m (Nat.le_refl _)).1
section TAG
variable {s n q ol cl m : Nat} {ps tp : Nat → Nat} {st : Nat → List Nat} {T K N E G oM cM oT R ty tA tB tN tM oc cc oN oK K' N' R' oM' cM' oc' cc' : Nat → Int32}
/-- a tag that begins and ends no section; the marks may change -/
theorem cp_tag (h : cp_I s n q ol cl m ps tp st T K N E G oM cM oT R ty tA tB tN tM oc cc oN oK) {ol' cl' e k : Nat} {x : Int32} (y : Int32) (rm : Nat → Prop) (hq : q < e) (he : e ≤ n) (hk : 2 ≤ k) (hk9 : k ≤ 9) (hT : 32 < T q)
    (hK : K' (s * 96 + q) = nI (tk_k k)) (hK' : ∀ c, c < n → c ≠ q → (rm c → K' (s * 96 + c) = 1) ∧ (¬ rm c → K' (s * 96 + c) = K (s * 96 + c)))
    (hR' : ∀ c, c < n → (rm c → R' (s * 96 + c) = 1) ∧ (¬ rm c → R' (s * 96 + c) = R (s * 96 + c)))
    (hrm : ∀ c, c < n → rm c → T c = 32 ∨ T c = 10)
    (hN : ∀ c, c < n → c ≠ q → N' (s * 96 + c) = N (s * 96 + c))
    (hx : 4 ≤ k → N' (s * 96 + q) = x ∧ (k = 9 → 49 ≤ x ∧ x ≤ 51) ∧ (k ≠ 9 → ll_nm x))
    (h6 : k ≠ 6) (h7 : k ≠ 7) (h8 : k ≠ 8) (h9 : s ≠ 0 → k ≠ 9) (hoc : ∀ i, i < ol' → oc' i = oM' i) (hcc : ∀ i, i < cl' → cc' i = cM' i) :
    cp_I s n e ol' cl' (m + 1) (fu ps (m + 1) e) (fu tp m k) (fu st (m + 1) (st m)) T K' N' (upd E (s * 96 + q) (nI (s * 96 + e))) G oM' cM' oT R' (upd ty (s * 100 + m) (nI k)) (upd tA (s * 100 + m) (nI q)) (upd tB (s * 100 + m) (nI e)) (upd tN (s * 100 + m) x) (upd tM (s * 100 + m) y) oc' cc' oN oK := by
  obtain ⟨h1, h2, h3, h4, h5, g6, g7⟩ := h
  have hk1 : ¬ nI (tk_k k) = 1 := by
    have d : ∀ k, k ≤ 9 → 2 ≤ k → ¬ nI (tk_k k) = 1 := by decide
    exact d k hk9 hk
  refine ⟨tk_a1 h1 hq (by omega) hk9, tk_c2 h1 h2 rm hq he hk hT hK hK' hR' hrm hN hx hk1, tk_s1 h3 h6 h7 h8 y, ?_, hoc, hcc, fun z t ht => ?_⟩
  · rw [fu_s]
    refine cp_Ocg _ h4 (fun w hw => ?_) (fun i _ => ⟨rfl, rfl, rfl⟩)
    have := tk_sb h3 m m (Nat.le_refl _) (Nat.le_refl _) w hw
    have a := tk_lt h1 (t := w) (t' := m) (by omega) (Nat.le_refl _)
    rw [h1.2.1] at a
    exact ⟨fu_n (by omega), hN _ (by omega) (by omega)⟩
  · by_cases w : t = m
    · rw [w, fu_s]; exact h9 z
    · rw [fu_n w]; exact g7 z t (by omega)
/-- a tag that begins a section -/
theorem cp_beg (h : cp_I s n q ol cl m ps tp st T K N E G oM cM oT R ty tA tB tN tM oc cc oN oK) {e k : Nat} {x : Int32} (y : Int32) (rm : Nat → Prop) (hq : q < e) (he : e ≤ n) (hk : k = 6 ∨ k = 7) (hT : 32 < T q)
    (hK : K' (s * 96 + q) = nI k) (hK' : ∀ c, c < n → c ≠ q → (rm c → K' (s * 96 + c) = 1) ∧ (¬ rm c → K' (s * 96 + c) = K (s * 96 + c)))
    (hR' : ∀ c, c < n → (rm c → R' (s * 96 + c) = 1) ∧ (¬ rm c → R' (s * 96 + c) = R (s * 96 + c)))
    (hrm : ∀ c, c < n → rm c → T c = 32 ∨ T c = 10)
    (hN : ∀ c, c < n → c ≠ q → N' (s * 96 + c) = N (s * 96 + c))
    (hx : N' (s * 96 + q) = x) (hx2 : ll_nm x) (hl : (st m).length < 2) :
    cp_I s n e ol cl (m + 1) (fu ps (m + 1) e) (fu tp m k) (fu st (m + 1) (m :: st m)) T K' N' (upd E (s * 96 + q) (nI (s * 96 + e))) G oM cM (upd oT (st m).length (nI (s * 96 + q))) R' (upd ty (s * 100 + m) (nI k)) (upd tA (s * 100 + m) (nI q)) (upd tB (s * 100 + m) (nI e)) (upd tN (s * 100 + m) x) (upd tM (s * 100 + m) y) oc cc (upd oN (st m).length x) (upd oK (st m).length (nI m)) := by
  obtain ⟨h1, h2, h3, h4, h5, g6, g7⟩ := h
  have hkk : tk_k k = k := by rcases hk with z | z <;> rw [z] <;> rfl
  have hk1 : ¬ nI (tk_k k) = 1 := by rcases hk with z | z <;> rw [z] <;> decide
  refine ⟨tk_a1 h1 hq (by omega) (by omega), tk_c2 h1 h2 rm hq he (by omega) hT (by rw [hkk]; exact hK) hK' hR' hrm hN (fun _ => ⟨hx, fun z => by omega, fun _ => hx2⟩) hk1, tk_s2 h3 hk hl y, ?_, h5, g6, fun z t ht => ?_⟩
  · rw [fu_s]
    refine ⟨?_, ?_, ?_, ?_⟩
    · rw [pk_us, fu_n (by omega), h1.2.1]
    · rw [pk_us]
    · rw [pk_us, fu_n (by omega), h1.2.1, hx]
    · refine cp_Ocg _ h4 (fun w hw => ?_) (fun i hi => ⟨pk_un (by omega), pk_un (by omega), pk_un (by omega)⟩)
      have := tk_sb h3 m m (Nat.le_refl _) (Nat.le_refl _) w hw
      have a := tk_lt h1 (t := w) (t' := m) (by omega) (Nat.le_refl _)
      rw [h1.2.1] at a
      exact ⟨fu_n (by omega), hN _ (by omega) (by omega)⟩
  · by_cases w : t = m
    · rw [w, fu_s]; omega
    · rw [fu_n w]; exact g7 z t (by omega)
/-- a tag that ends the section hd -/
theorem cp_end (h : cp_I s n q ol cl m ps tp st T K N E G oM cM oT R ty tA tB tN tM oc cc oN oK) {e hd : Nat} {x : Int32} (y : Int32) (rm : Nat → Prop) (hq : q < e) (he : e ≤ n) (hT : 32 < T q)
    (hK : K' (s * 96 + q) = nI 8) (hK' : ∀ c, c < n → c ≠ q → (rm c → K' (s * 96 + c) = 1) ∧ (¬ rm c → K' (s * 96 + c) = K (s * 96 + c)))
    (hR' : ∀ c, c < n → (rm c → R' (s * 96 + c) = 1) ∧ (¬ rm c → R' (s * 96 + c) = R (s * 96 + c)))
    (hrm : ∀ c, c < n → rm c → T c = 32 ∨ T c = 10)
    (hN : ∀ c, c < n → c ≠ q → N' (s * 96 + c) = N (s * 96 + c))
    (hx : N' (s * 96 + q) = x) (hx2 : ll_nm x) (hh : hd < m) (hs : st m = hd :: st hd) :
    cp_I s n e ol cl (m + 1) (fu ps (m + 1) e) (fu tp m 8) (fu st (m + 1) (st hd)) T K' N' (upd E (s * 96 + q) (nI (s * 96 + e))) (upd G (s * 96 + ps hd) (nI (s * 96 + e))) oM cM oT R' (upd ty (s * 100 + m) (nI 8)) (upd tA (s * 100 + m) (nI q)) (upd tB (s * 100 + m) (nI e)) (upd tN (s * 100 + m) x) (upd (upd tM (s * 100 + hd) (nI m)) (s * 100 + m) y) oc cc oN oK := by
  obtain ⟨h1, h2, h3, h4, h5, g6, g7⟩ := h
  refine ⟨tk_a1 h1 hq (by omega) (by omega), tk_c2 h1 h2 rm hq he (by omega) hT hK hK' hR' hrm hN (fun _ => ⟨hx, fun z => by omega, fun _ => hx2⟩) (by decide), tk_s3 h1 h3 hh hs y, ?_, h5, g6, fun z t ht => ?_⟩
  · rw [fu_s]
    rw [hs] at h4
    refine cp_Ocg _ h4.2.2.2 (fun w hw => ?_) (fun i hi => ⟨rfl, rfl, rfl⟩)
    have := tk_sb h3 m hd (by omega) (by omega) w hw
    have a := tk_lt h1 (t := w) (t' := m) (by omega) (Nat.le_refl _)
    rw [h1.2.1] at a
    exact ⟨fu_n (by omega), hN _ (by omega) (by omega)⟩
  · by_cases w : t = m
    · rw [w, fu_s]; omega
    · rw [fu_n w]; exact g7 z t (by omega)
end TAG
/-- what removal of a line leaves: the tag at q .. e-1 -/
def rm_P (T : Nat → Int32) (n q e c : Nat) : Prop := (ll_sb T q q = 0 ∨ T (ll_sb T q q - 1) = 10) ∧ (ll_sp T (n - e) e = n ∨ T (ll_sp T (n - e) e) = 10) ∧ ((ll_sb T q q ≤ c ∧ c < q) ∨ (e ≤ c ∧ c ≤ ll_sp T (n - e) e ∧ c < n))
theorem rm_ch {T : Nat → Int32} {n q e c : Nat} (he : e ≤ n) (h : rm_P T n q e c) : T c = 32 ∨ T c = 10 := by
  obtain ⟨_, h2, h3⟩ := h
  rcases h3 with ⟨a, b⟩ | ⟨a, b, d⟩
  · exact Or.inl (ll_sb_a q q c (Nat.le_refl _) a b)
  · by_cases z : c = ll_sp T (n - e) e
    · rw [z]
      rcases h2 with y | y
      · omega
      · exact Or.inr y
    · exact Or.inl (ll_sp_a (n - e) e c a (by omega))
end LLS
