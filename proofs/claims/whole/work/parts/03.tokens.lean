section LLT
/-! the tie between X's cell tables and Y's tokens of one slot -/
def fu {α : Type} (f : Nat → α) (k : Nat) (x : α) : Nat → α := fun j => if j = k then x else f j
theorem fu_s {α : Type} {f : Nat → α} {k : Nat} {x : α} : fu f k x k = x := if_pos rfl
theorem fu_n {α : Type} {f : Nat → α} {k j : Nat} {x : α} (h : j ≠ k) : fu f k x j = f j := if_neg h
/-- Y's type as X's kind -/
def tk_k (t : Nat) : Nat := if t = 2 then 4 else if t = 3 then 5 else if t = 4 then 2 else if t = 5 then 3 else t
theorem tk_kty : ∀ k, k ≤ 9 → 2 ≤ k → tk_k (ll_ty k) = k ∧ 2 ≤ ll_ty k ∧ ll_ty k ≤ 9 := by decide
/-- Y's tokens, with ghost places ps and types tp -/
def tk_a (s m p : Nat) (ty tA tB : Nat → Int32) (ps tp : Nat → Nat) : Prop :=
  ps 0 = 0 ∧ ps m = p ∧ ∀ t, t < m → ps t < ps (t + 1) ∧ 1 ≤ tp t ∧ tp t ≤ 9 ∧ ty (s * 100 + t) = nI (tp t) ∧ tA (s * 100 + t) = nI (ps t) ∧ tB (s * 100 + t) = nI (ps (t + 1))
theorem tk_mono {s m p : Nat} {ty tA tB : Nat → Int32} {ps tp : Nat → Nat} (h : tk_a s m p ty tA tB ps tp) : ∀ d t, t + d ≤ m → ps t + d ≤ ps (t + d) := by
  intro d
  induction d with
  | zero => intro t _; exact Nat.le_refl _
  | succ d ih =>
    intro t ht
    have h1 := ih t (by omega)
    have h2 := (h.2.2 (t + d) (by omega)).1
    have e : t + (d + 1) = t + d + 1 := by omega
    rw [e]
    omega
theorem tk_lt {s m p : Nat} {ty tA tB : Nat → Int32} {ps tp : Nat → Nat} (h : tk_a s m p ty tA tB ps tp) {t t' : Nat} (h1 : t < t') (h2 : t' ≤ m) : ps t < ps t' := by
  have := tk_mono h (t' - t) t (by omega)
  rw [show t + (t' - t) = t' from by omega] at this
  omega
theorem tk_le {s m p : Nat} {ty tA tB : Nat → Int32} {ps tp : Nat → Nat} (h : tk_a s m p ty tA tB ps tp) {t t' : Nat} (h1 : t ≤ t') (h2 : t' ≤ m) : ps t ≤ ps t' := by
  have := tk_mono h (t' - t) t (by omega)
  rw [show t + (t' - t) = t' from by omega] at this
  omega
theorem tk_mp {s m p : Nat} {ty tA tB : Nat → Int32} {ps tp : Nat → Nat} (h : tk_a s m p ty tA tB ps tp) : m ≤ p := by
  have := tk_mono h m 0 (by omega)
  rw [Nat.zero_add, h.2.1] at this
  omega
theorem tk_ap {s m p : Nat} {ty tA tB : Nat → Int32} {ps tp : Nat → Nat} (h : tk_a s m p ty tA tB ps tp) {t : Nat} (ht : t ≤ m) : ps t ≤ p := by
  have := tk_le h ht (Nat.le_refl m)
  rw [h.2.1] at this
  exact this
theorem tk_inj {s m p : Nat} {ty tA tB : Nat → Int32} {ps tp : Nat → Nat} (h : tk_a s m p ty tA tB ps tp) {t t' : Nat} (h1 : t ≤ m) (h2 : t' ≤ m) (e : ps t = ps t') : t = t' := by
  by_cases h3 : t < t'
  · have := tk_lt h h3 h2; omega
  · by_cases h4 : t' < t
    · have := tk_lt h h4 h1; omega
    · omega
theorem tk_a0 (s : Nat) (ty tA tB : Nat → Int32) (ps tp : Nat → Nat) (h : ps 0 = 0) : tk_a s 0 0 ty tA tB ps tp := ⟨h, h, fun t ht => absurd ht (by omega)⟩
theorem tk_a1 {s m p : Nat} {ty tA tB : Nat → Int32} {ps tp : Nat → Nat} (h : tk_a s m p ty tA tB ps tp) {p' k : Nat} (hp : p < p') (hk : 1 ≤ k) (hk9 : k ≤ 9) : tk_a s (m + 1) p' (upd ty (s * 100 + m) (nI k)) (upd tA (s * 100 + m) (nI p)) (upd tB (s * 100 + m) (nI p')) (fu ps (m + 1) p') (fu tp m k) := by
  obtain ⟨h0, hm, ha⟩ := h
  refine ⟨by rw [fu_n (by omega)]; exact h0, fu_s, fun t ht => ?_⟩
  by_cases e : t = m
  · subst e
    rw [fu_n (by omega), fu_s, fu_s, pk_us, pk_us, pk_us, hm]
    exact ⟨hp, hk, hk9, rfl, rfl, rfl⟩
  · rw [fu_n (by omega), fu_n (by omega), fu_n e, pk_un (by omega), pk_un (by omega), pk_un (by omega)]
    exact ha t (by omega)
/-- X's cells against the ghosts -/
def tk_c (s n m p : Nat) (T K N E R tN : Nat → Int32) (ps tp : Nat → Nat) : Prop :=
  (∀ t, t < m → tp t = 1 → ∀ c, ps t ≤ c → c < ps (t + 1) → K (s * 96 + c) = 0 ∨ K (s * 96 + c) = 1) ∧
  (∀ t, t < m → tp t ≠ 1 → K (s * 96 + ps t) = nI (tk_k (tp t)) ∧ E (s * 96 + ps t) = nI (s * 96 + ps (t + 1)) ∧ 32 < T (ps t)) ∧
  (∀ t, t < m → 4 ≤ tp t → N (s * 96 + ps t) = tN (s * 100 + t) ∧ (tp t = 9 → 49 ≤ N (s * 96 + ps t) ∧ N (s * 96 + ps t) ≤ 51) ∧ (tp t ≠ 9 → ll_nm (N (s * 96 + ps t)))) ∧
  (∀ c, c < n → (R (s * 96 + c) = 0 ∨ R (s * 96 + c) = 1) ∧ (R (s * 96 + c) = 1 ↔ K (s * 96 + c) = 1) ∧ (R (s * 96 + c) = 1 → T c = 32 ∨ T c = 10)) ∧
  (∀ c, p ≤ c → c < n → K (s * 96 + c) = 0 ∨ K (s * 96 + c) = 1)
theorem tk_c0 {s n : Nat} {T K N E R tN : Nat → Int32} {ps tp : Nat → Nat} (hK : ∀ c, c < n → K (s * 96 + c) = 0) (hR : ∀ c, c < n → R (s * 96 + c) = 0) : tk_c s n 0 0 T K N E R tN ps tp := by
  refine ⟨fun t h => absurd h (by omega), fun t h => absurd h (by omega), fun t h => absurd h (by omega), fun c hc => ?_, fun c _ hc => Or.inl (hK c hc)⟩
  rw [hK c hc, hR c hc]
  exact ⟨Or.inl rfl, Iff.rfl, fun h => absurd h (by decide)⟩
/-- a literal token -/
theorem tk_c1 {s n m p : Nat} {T K N E R tN ty tA tB : Nat → Int32} {ps tp : Nat → Nat} (ha : tk_a s m p ty tA tB ps tp) (h : tk_c s n m p T K N E R tN ps tp) {q : Nat} {x : Int32} (hp : p < q) (hq : q ≤ n) : tk_c s n (m + 1) q T K N E R (upd tN (s * 100 + m) x) (fu ps (m + 1) q) (fu tp m 1) := by
  obtain ⟨h1, h2, h3, h4, h5⟩ := h
  refine ⟨fun t ht => ?_, fun t ht => ?_, fun t ht => ?_, h4, fun c hc hn => h5 c (by omega) hn⟩
  · by_cases e : t = m
    · subst e
      simp only [fu_s, fu_n (show t ≠ t + 1 from by omega)]
      rw [ha.2.1]
      intro _ c hc hc2
      exact h5 c hc (by omega)
    · simp only [fu_n (show t ≠ m + 1 from by omega), fu_n (show t + 1 ≠ m + 1 from by omega), fu_n e, pk_un (show s * 100 + t ≠ s * 100 + m from by omega)]
      exact h1 t (by omega)
  · by_cases e : t = m
    · subst e
      rw [fu_s]
      intro z
      exact absurd rfl z
    · simp only [fu_n (show t ≠ m + 1 from by omega), fu_n (show t + 1 ≠ m + 1 from by omega), fu_n e, pk_un (show s * 100 + t ≠ s * 100 + m from by omega)]
      exact h2 t (by omega)
  · by_cases e : t = m
    · subst e
      rw [fu_s]
      intro z
      omega
    · simp only [fu_n (show t ≠ m + 1 from by omega), fu_n (show t + 1 ≠ m + 1 from by omega), fu_n e, pk_un (show s * 100 + t ≠ s * 100 + m from by omega)]
      exact h3 t (by omega)
/-- a tag's token -/
theorem tk_c2 {s n m q : Nat} {T K N E R tN ty tA tB K' N' R' : Nat → Int32} {ps tp : Nat → Nat} (ha : tk_a s m q ty tA tB ps tp) (h : tk_c s n m q T K N E R tN ps tp) {e k : Nat} {x : Int32} (rm : Nat → Prop) (hq : q < e) (he : e ≤ n) (hk : 2 ≤ k) (hT : 32 < T q)
    (hK : K' (s * 96 + q) = nI (tk_k k)) (hK' : ∀ c, c < n → c ≠ q → (rm c → K' (s * 96 + c) = 1) ∧ (¬ rm c → K' (s * 96 + c) = K (s * 96 + c)))
    (hR' : ∀ c, c < n → (rm c → R' (s * 96 + c) = 1) ∧ (¬ rm c → R' (s * 96 + c) = R (s * 96 + c)))
    (hrm : ∀ c, c < n → rm c → T c = 32 ∨ T c = 10)
    (hN : ∀ c, c < n → c ≠ q → N' (s * 96 + c) = N (s * 96 + c))
    (hx : 4 ≤ k → N' (s * 96 + q) = x ∧ (k = 9 → 49 ≤ x ∧ x ≤ 51) ∧ (k ≠ 9 → ll_nm x)) (hk1 : ¬ nI (tk_k k) = 1) :
    tk_c s n (m + 1) e T K' N' (upd E (s * 96 + q) (nI (s * 96 + e))) R' (upd tN (s * 100 + m) x) (fu ps (m + 1) e) (fu tp m k) := by
  obtain ⟨h1, h2, h3, h4, h5⟩ := h
  have hT10 : ¬ T q = 10 := by intro z; rw [z] at hT; exact absurd hT (by decide)
  have hT32 : ¬ T q = 32 := by intro z; rw [z] at hT; exact absurd hT (by decide)
  have hrq : ¬ rm q := fun z => by
    rcases hrm q (by omega) z with z | z
    · exact hT32 z
    · exact hT10 z
  have K01 : ∀ c, c < n → c ≠ q → (K (s * 96 + c) = 0 ∨ K (s * 96 + c) = 1) → (K' (s * 96 + c) = 0 ∨ K' (s * 96 + c) = 1) := by
    intro c hc hcq z
    by_cases r : rm c
    · exact Or.inr ((hK' c hc hcq).1 r)
    · rw [(hK' c hc hcq).2 r]; exact z
  refine ⟨fun t ht => ?_, fun t ht => ?_, fun t ht => ?_, fun c hc => ?_, fun c hc hn => K01 c hn (by omega) (h5 c (by omega) hn)⟩
  · by_cases z : t = m
    · subst z
      rw [fu_s]
      intro z
      omega
    · simp only [fu_n (show t ≠ m + 1 from by omega), fu_n (show t + 1 ≠ m + 1 from by omega), fu_n z, pk_un (show s * 100 + t ≠ s * 100 + m from by omega)]
      intro z1 c hc1 hc2
      have := tk_ap ha (t := t + 1) (by omega)
      exact K01 c (by omega) (by omega) (h1 t (by omega) z1 c hc1 hc2)
  · by_cases z : t = m
    · subst z
      simp only [fu_s, fu_n (show t ≠ t + 1 from by omega)]
      rw [ha.2.1, hK, pk_us]
      exact fun _ => ⟨rfl, rfl, hT⟩
    · simp only [fu_n (show t ≠ m + 1 from by omega), fu_n (show t + 1 ≠ m + 1 from by omega), fu_n z, pk_un (show s * 100 + t ≠ s * 100 + m from by omega)]
      intro z1
      obtain ⟨g1, g2, g3⟩ := h2 t (by omega) z1
      have hl : ps t < q := by
        have := tk_lt ha (t := t) (t' := m) (by omega) (Nat.le_refl _)
        rw [ha.2.1] at this
        exact this
      have hr : ¬ rm (ps t) := fun y => by
        rcases hrm _ (by omega) y with y | y
        · rw [y] at g3; exact absurd g3 (by decide)
        · rw [y] at g3; exact absurd g3 (by decide)
      rw [(hK' (ps t) (by omega) (by omega)).2 hr, pk_un (by omega)]
      exact ⟨g1, g2, g3⟩
  · by_cases z : t = m
    · subst z
      simp only [fu_s, fu_n (show t ≠ t + 1 from by omega), pk_us]
      rw [ha.2.1]
      intro z1
      obtain ⟨g1, g2, g3⟩ := hx z1
      rw [g1]
      exact ⟨rfl, g2, g3⟩
    · simp only [fu_n (show t ≠ m + 1 from by omega), fu_n (show t + 1 ≠ m + 1 from by omega), fu_n z, pk_un (show s * 100 + t ≠ s * 100 + m from by omega)]
      intro z1
      have hl : ps t < q := by
        have := tk_lt ha (t := t) (t' := m) (by omega) (Nat.le_refl _)
        rw [ha.2.1] at this
        exact this
      rw [hN (ps t) (by omega) (by omega)]
      exact h3 t (by omega) z1
  · obtain ⟨g1, g2, g3⟩ := h4 c hc
    by_cases r : rm c
    · have hcq : c ≠ q := fun z => hrq (z ▸ r)
      rw [(hR' c hc).1 r, (hK' c hc hcq).1 r]
      exact ⟨Or.inr rfl, Iff.rfl, fun _ => hrm c hc r⟩
    · rw [(hR' c hc).2 r]
      by_cases z : c = q
      · subst z
        refine ⟨g1, ?_, g3⟩
        rw [hK]
        constructor
        · intro y
          rcases g3 y with w | w
          · exact absurd w hT32
          · exact absurd w hT10
        · intro y; exact absurd y hk1
      · rw [(hK' c hc z).2 r]
        exact ⟨g1, g2, g3⟩
/-- the stack of begun sections ahead of each token -/
def tk_s (s m : Nat) (G tM : Nat → Int32) (ps tp : Nat → Nat) (st : Nat → List Nat) : Prop :=
  st 0 = [] ∧
  (∀ t, t < m → st (t + 1) = if tp t = 6 ∨ tp t = 7 then t :: st t else if tp t = 8 then (st t).tail else st t) ∧
  (∀ t, t ≤ m → (st t).length ≤ 2 ∧ (st t = [] ∨ ∃ h, h < t ∧ st t = h :: st h ∧ (tp h = 6 ∨ tp h = 7))) ∧
  (∀ t, t < m → tp t = 8 → ∃ h, h < t ∧ st t = h :: st h ∧ h ∉ st m ∧ tM (s * 100 + h) = nI t ∧ G (s * 96 + ps h) = nI (s * 96 + ps (t + 1))) ∧
  (∀ t, t < m → (tp t = 6 ∨ tp t = 7) → t ∈ st m ∨ ∃ c, t < c ∧ c < m ∧ tp c = 8 ∧ st c = t :: st t)
theorem tk_s0 (s : Nat) (G tM : Nat → Int32) (ps tp : Nat → Nat) (st : Nat → List Nat) (h : st 0 = []) : tk_s s 0 G tM ps tp st := by
  refine ⟨h, fun t ht => absurd ht (by omega), fun t ht => ?_, fun t ht => absurd ht (by omega), fun t ht => absurd ht (by omega)⟩
  have e : t = 0 := by omega
  subst e
  rw [h]
  exact ⟨by simp, Or.inl rfl⟩
theorem tk_sb {s m : Nat} {G tM : Nat → Int32} {ps tp : Nat → Nat} {st : Nat → List Nat} (h : tk_s s m G tM ps tp st) : ∀ b t, t ≤ b → t ≤ m → ∀ x, x ∈ st t → x < t := by
  intro b
  induction b with
  | zero =>
    intro t hb hm x hx
    have e : t = 0 := by omega
    subst e
    rw [h.1] at hx
    exact absurd hx (by simp)
  | succ b ih =>
    intro t hb hm x hx
    rcases (h.2.2.1 t hm).2 with z | ⟨w, hw, e, _⟩
    · rw [z] at hx
      exact absurd hx (by simp)
    · rw [e] at hx
      rcases List.mem_cons.mp hx with y | y
      · omega
      · have := ih w (by omega) (by omega) x y
        omega
theorem tk_si {m : Nat} {st : Nat → List Nat} {l : List Nat} {t : Nat} (ht : t ≤ m) : fu st (m + 1) l t = st t := fu_n (by omega)
/-- a token that begins and ends nothing -/
theorem tk_s1 {s m k p' : Nat} {G tM : Nat → Int32} {ps tp : Nat → Nat} {st : Nat → List Nat} (h : tk_s s m G tM ps tp st) (h6 : k ≠ 6) (h7 : k ≠ 7) (h8 : k ≠ 8) (x : Int32) : tk_s s (m + 1) G (upd tM (s * 100 + m) x) (fu ps (m + 1) p') (fu tp m k) (fu st (m + 1) (st m)) := by
  have hb := tk_sb h
  obtain ⟨g1, g2, g3, g4, g5⟩ := h
  refine ⟨by rw [tk_si (by omega)]; exact g1, fun t ht => ?_, fun t ht => ?_, fun t ht => ?_, fun t ht => ?_⟩
  · by_cases z : t = m
    · subst z
      rw [fu_s, fu_s, tk_si (Nat.le_refl _), if_neg (by omega), if_neg h8]
    · rw [tk_si (by omega), tk_si (by omega), fu_n z]
      exact g2 t (by omega)
  · by_cases z : t = m + 1
    · subst z
      rw [fu_s]
      refine ⟨(g3 m (Nat.le_refl _)).1, ?_⟩
      rcases (g3 m (Nat.le_refl _)).2 with y | ⟨w, hw, e, f⟩
      · exact Or.inl y
      · refine Or.inr ⟨w, by omega, ?_, ?_⟩
        · rw [tk_si (by omega)]; exact e
        · rw [fu_n (by omega)]; exact f
    · rw [tk_si (by omega)]
      refine ⟨(g3 t (by omega)).1, ?_⟩
      rcases (g3 t (by omega)).2 with y | ⟨w, hw, e, f⟩
      · exact Or.inl y
      · refine Or.inr ⟨w, by omega, ?_, ?_⟩
        · rw [tk_si (by omega)]; exact e
        · rw [fu_n (by omega)]; exact f
  · by_cases z : t = m
    · subst z
      rw [fu_s]
      intro y
      exact absurd y h8
    · rw [fu_n z]
      intro y
      obtain ⟨w, hw, e, f, g, i⟩ := g4 t (by omega) y
      refine ⟨w, hw, ?_, ?_, ?_, ?_⟩
      · rw [tk_si (by omega), tk_si (by omega)]; exact e
      · rw [fu_s]; exact f
      · rw [pk_un (by omega)]; exact g
      · rw [fu_n (by omega), fu_n (by omega)]; exact i
  · by_cases z : t = m
    · subst z
      rw [fu_s]
      intro y
      omega
    · rw [fu_n z, fu_s]
      intro y
      rcases g5 t (by omega) y with w | ⟨c, c1, c2, c3, c4⟩
      · exact Or.inl w
      · refine Or.inr ⟨c, c1, by omega, ?_, ?_⟩
        · rw [fu_n (by omega)]; exact c3
        · rw [tk_si (by omega), tk_si (by omega)]; exact c4
/-- a token that opens a section -/
theorem tk_s2 {s m k p' : Nat} {G tM : Nat → Int32} {ps tp : Nat → Nat} {st : Nat → List Nat} (h : tk_s s m G tM ps tp st) (h6 : k = 6 ∨ k = 7) (hl : (st m).length < 2) (x : Int32) : tk_s s (m + 1) G (upd tM (s * 100 + m) x) (fu ps (m + 1) p') (fu tp m k) (fu st (m + 1) (m :: st m)) := by
  have hb := tk_sb h
  obtain ⟨g1, g2, g3, g4, g5⟩ := h
  refine ⟨by rw [tk_si (by omega)]; exact g1, fun t ht => ?_, fun t ht => ?_, fun t ht => ?_, fun t ht => ?_⟩
  · by_cases z : t = m
    · subst z
      rw [fu_s, fu_s, tk_si (Nat.le_refl _), if_pos h6]
    · rw [tk_si (by omega), tk_si (by omega), fu_n z]
      exact g2 t (by omega)
  · by_cases z : t = m + 1
    · subst z
      rw [fu_s]
      refine ⟨by simp only [List.length_cons]; omega, Or.inr ⟨m, by omega, ?_, ?_⟩⟩
      · rw [tk_si (Nat.le_refl _)]
      · rw [fu_s]; exact h6
    · rw [tk_si (by omega)]
      refine ⟨(g3 t (by omega)).1, ?_⟩
      rcases (g3 t (by omega)).2 with y | ⟨w, hw, e, f⟩
      · exact Or.inl y
      · refine Or.inr ⟨w, by omega, ?_, ?_⟩
        · rw [tk_si (by omega)]; exact e
        · rw [fu_n (by omega)]; exact f
  · by_cases z : t = m
    · subst z
      rw [fu_s]
      intro y
      omega
    · rw [fu_n z]
      intro y
      obtain ⟨w, hw, e, f, g, i⟩ := g4 t (by omega) y
      refine ⟨w, hw, ?_, ?_, ?_, ?_⟩
      · rw [tk_si (by omega), tk_si (by omega)]; exact e
      · rw [fu_s]
        intro q
        rcases List.mem_cons.mp q with q | q
        · omega
        · exact f q
      · rw [pk_un (by omega)]; exact g
      · rw [fu_n (by omega), fu_n (by omega)]; exact i
  · by_cases z : t = m
    · subst z
      rw [fu_s, fu_s]
      intro y
      exact Or.inl (List.mem_cons.mpr (Or.inl rfl))
    · rw [fu_n z, fu_s]
      intro y
      rcases g5 t (by omega) y with w | ⟨c, c1, c2, c3, c4⟩
      · exact Or.inl (List.mem_cons.mpr (Or.inr w))
      · refine Or.inr ⟨c, c1, by omega, ?_, ?_⟩
        · rw [fu_n (by omega)]; exact c3
        · rw [tk_si (by omega), tk_si (by omega)]; exact c4
/-- a token that closes the section h -/
theorem tk_s3 {s m p' h : Nat} {G tM ty tA tB : Nat → Int32} {ps tp : Nat → Nat} {st : Nat → List Nat} {p : Nat} (ha : tk_a s m p ty tA tB ps tp) (H : tk_s s m G tM ps tp st) (hh : h < m) (hs : st m = h :: st h) (x : Int32) : tk_s s (m + 1) (upd G (s * 96 + ps h) (nI (s * 96 + p'))) (upd (upd tM (s * 100 + h) (nI m)) (s * 100 + m) x) (fu ps (m + 1) p') (fu tp m 8) (fu st (m + 1) (st h)) := by
  have hb := tk_sb H
  obtain ⟨g1, g2, g3, g4, g5⟩ := H
  refine ⟨by rw [tk_si (by omega)]; exact g1, fun t ht => ?_, fun t ht => ?_, fun t ht => ?_, fun t ht => ?_⟩
  · by_cases z : t = m
    · subst z
      rw [fu_s, fu_s, tk_si (Nat.le_refl _), if_neg (by omega), if_pos rfl, hs]
      rfl
    · rw [tk_si (by omega), tk_si (by omega), fu_n z]
      exact g2 t (by omega)
  · by_cases z : t = m + 1
    · subst z
      rw [fu_s]
      refine ⟨(g3 h (by omega)).1, ?_⟩
      rcases (g3 h (by omega)).2 with y | ⟨w, hw, e, f⟩
      · exact Or.inl y
      · refine Or.inr ⟨w, by omega, ?_, ?_⟩
        · rw [tk_si (by omega)]; exact e
        · rw [fu_n (by omega)]; exact f
    · rw [tk_si (by omega)]
      refine ⟨(g3 t (by omega)).1, ?_⟩
      rcases (g3 t (by omega)).2 with y | ⟨w, hw, e, f⟩
      · exact Or.inl y
      · refine Or.inr ⟨w, by omega, ?_, ?_⟩
        · rw [tk_si (by omega)]; exact e
        · rw [fu_n (by omega)]; exact f
  · by_cases z : t = m
    · subst z
      intro _
      refine ⟨h, hh, ?_, ?_, ?_, ?_⟩
      · rw [tk_si (Nat.le_refl _), tk_si (by omega)]; exact hs
      · rw [fu_s]
        intro y
        have := hb t h (by omega) (by omega) h y
        omega
      · rw [pk_un (by omega), pk_us]
      · rw [fu_n (by omega), fu_s, pk_us]
    · rw [fu_n z]
      intro y
      obtain ⟨w, hw, e, f, g, i⟩ := g4 t (by omega) y
      have hwh : w ≠ h := by
        intro q
        apply f
        rw [hs, q]
        exact List.mem_cons.mpr (Or.inl rfl)
      refine ⟨w, hw, ?_, ?_, ?_, ?_⟩
      · rw [tk_si (by omega), tk_si (by omega)]; exact e
      · rw [fu_s]
        intro q
        apply f
        rw [hs]
        exact List.mem_cons.mpr (Or.inr q)
      · rw [pk_un (by omega), pk_un (by omega)]; exact g
      · rw [fu_n (by omega), fu_n (by omega), pk_un ?_]
        · exact i
        · intro q
          exact hwh (tk_inj ha (by omega) (by omega) (by omega))
  · by_cases z : t = m
    · subst z
      rw [fu_s]
      intro y
      omega
    · rw [fu_n z, fu_s]
      intro y
      rcases g5 t (by omega) y with w | ⟨c, c1, c2, c3, c4⟩
      · rw [hs] at w
        rcases List.mem_cons.mp w with w | w
        · subst w
          refine Or.inr ⟨m, hh, by omega, fu_s, ?_⟩
          rw [tk_si (Nat.le_refl _), tk_si (by omega)]; exact hs
        · exact Or.inl w
      · refine Or.inr ⟨c, c1, by omega, ?_, ?_⟩
        · rw [fu_n (by omega)]; exact c3
        · rw [tk_si (by omega), tk_si (by omega)]; exact c4
end LLT
