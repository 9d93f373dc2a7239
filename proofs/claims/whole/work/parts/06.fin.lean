section LLF
/-! the tie depends on the slot's own cells alone -/
theorem tk_acg {s m p : Nat} {ty tA tB ty' tA' tB' : Nat → Int32} {ps tp : Nat → Nat} (hm : m ≤ 100) (h : tk_a s m p ty tA tB ps tp) (e : ∀ j, j < 100 → ty' (s * 100 + j) = ty (s * 100 + j) ∧ tA' (s * 100 + j) = tA (s * 100 + j) ∧ tB' (s * 100 + j) = tB (s * 100 + j)) : tk_a s m p ty' tA' tB' ps tp := by
  refine ⟨h.1, h.2.1, fun t ht => ?_⟩
  rw [(e t (by omega)).1, (e t (by omega)).2.1, (e t (by omega)).2.2]
  exact h.2.2 t ht
theorem tk_ccg {s n m p : Nat} {T K N E R tN T' K' N' E' R' tN' ty tA tB : Nat → Int32} {ps tp : Nat → Nat} (hm : m ≤ 100) (hn : n ≤ 96) (hp : p ≤ n) (ha : tk_a s m p ty tA tB ps tp) (h : tk_c s n m p T K N E R tN ps tp) (e : ∀ c, c < 96 → T' c = T c ∧ K' (s * 96 + c) = K (s * 96 + c) ∧ N' (s * 96 + c) = N (s * 96 + c) ∧ E' (s * 96 + c) = E (s * 96 + c) ∧ R' (s * 96 + c) = R (s * 96 + c)) (eN : ∀ j, j < 100 → tN' (s * 100 + j) = tN (s * 100 + j)) : tk_c s n m p T' K' N' E' R' tN' ps tp := by
  obtain ⟨h1, h2, h3, h4, h5⟩ := h
  have hl : ∀ t, t < m → ps t < 96 := by
    intro t ht
    have a := tk_lt ha (t := t) (t' := m) ht (Nat.le_refl _)
    rw [ha.2.1] at a
    omega
  refine ⟨fun t ht z c c1 c2 => ?_, fun t ht z => ?_, fun t ht z => ?_, fun c hc => ?_, fun c c1 c2 => ?_⟩
  · have := tk_ap ha (t := t + 1) (by omega)
    rw [(e c (by omega)).2.1]
    exact h1 t ht z c c1 c2
  · have a := e (ps t) (hl t ht)
    rw [a.2.1, a.2.2.2.1, a.1]
    exact h2 t ht z
  · have a := e (ps t) (hl t ht)
    rw [a.2.2.1, eN t (by omega)]
    exact h3 t ht z
  · have a := e c (by omega)
    rw [a.2.1, a.2.2.2.2, a.1]
    exact h4 c hc
  · have a := e c (by omega)
    rw [a.2.1]
    exact h5 c c1 c2
theorem tk_scg {s m p : Nat} {G tM G' tM' ty tA tB : Nat → Int32} {ps tp : Nat → Nat} {st : Nat → List Nat} (hm : m ≤ 100) (hp : p ≤ 96) (ha : tk_a s m p ty tA tB ps tp) (h : tk_s s m G tM ps tp st) (e : ∀ c, c < 96 → G' (s * 96 + c) = G (s * 96 + c)) (eM : ∀ j, j < 100 → tM' (s * 100 + j) = tM (s * 100 + j)) : tk_s s m G' tM' ps tp st := by
  obtain ⟨h1, h2, h3, h4, h5⟩ := h
  refine ⟨h1, h2, h3, fun t ht z => ?_, h5⟩
  obtain ⟨w, w1, w2, w3, w4, w5⟩ := h4 t ht z
  have a := tk_lt ha (t := w) (t' := m) (by omega) (Nat.le_refl _)
  rw [ha.2.1] at a
  refine ⟨w, w1, w2, w3, ?_, ?_⟩
  · rw [eM w (by omega)]; exact w4
  · rw [e (ps w) (by omega)]; exact w5
/-- a slot compiled: X's tables K N E G, Y's removed R and tokens -/
def tk_F (s n : Nat) (T K N E G R ty tA tB tN tM : Nat → Int32) (m : Nat) (ps tp : Nat → Nat) (st : Nat → List Nat) : Prop :=
  tk_a s m n ty tA tB ps tp ∧ tk_c s n m n T K N E R tN ps tp ∧ tk_s s m G tM ps tp st ∧ st m = [] ∧ (s ≠ 0 → ∀ t, t < m → tp t ≠ 9)
theorem tk_Fcg {s n : Nat} {T K N E G R ty tA tB tN tM T' K' N' E' G' R' ty' tA' tB' tN' tM' : Nat → Int32} {m : Nat} {ps tp : Nat → Nat} {st : Nat → List Nat} (hn : n ≤ 96) (h : tk_F s n T K N E G R ty tA tB tN tM m ps tp st)
    (e : ∀ c, c < 96 → T' c = T c ∧ K' (s * 96 + c) = K (s * 96 + c) ∧ N' (s * 96 + c) = N (s * 96 + c) ∧ E' (s * 96 + c) = E (s * 96 + c) ∧ G' (s * 96 + c) = G (s * 96 + c) ∧ R' (s * 96 + c) = R (s * 96 + c))
    (eY : ∀ j, j < 100 → ty' (s * 100 + j) = ty (s * 100 + j) ∧ tA' (s * 100 + j) = tA (s * 100 + j) ∧ tB' (s * 100 + j) = tB (s * 100 + j) ∧ tN' (s * 100 + j) = tN (s * 100 + j) ∧ tM' (s * 100 + j) = tM (s * 100 + j)) :
    tk_F s n T' K' N' E' G' R' ty' tA' tB' tN' tM' m ps tp st := by
  obtain ⟨h1, h2, h3, h4, h5⟩ := h
  have hm : m ≤ 100 := by
    have := tk_mp h1
    omega
  exact ⟨tk_acg hm h1 (fun j hj => ⟨(eY j hj).1, (eY j hj).2.1, (eY j hj).2.2.1⟩),
    tk_ccg hm hn (Nat.le_refl _) h1 h2 (fun c hc => ⟨(e c hc).1, (e c hc).2.1, (e c hc).2.2.1, (e c hc).2.2.2.1, (e c hc).2.2.2.2.2⟩) (fun j hj => (eY j hj).2.2.2.1),
    tk_scg hm hn h1 h3 (fun c hc => (e c hc).2.2.2.2.1) (fun j hj => (eY j hj).2.2.2.2), h4, h5⟩
/-- the store of values, both sides: kd and ct by id -/
def vl_R (nv : Nat) (kd ct : Nat → Nat) (xk am pt fd yk yn yc ys yi yq yv : Nat → Int32) : Prop := nv ≤ 32 ∧ ∀ j, j < nv →
  1 ≤ kd (j + 1) ∧ kd (j + 1) ≤ 6 ∧ ct (j + 1) ≤ 8 ∧ xk (j + 1) = nI (kd (j + 1)) ∧ yk j = nI (kd (j + 1)) ∧ yc j = nI (ct (j + 1)) ∧
  (kd (j + 1) = 3 → am (j + 1) = yn j) ∧ (kd (j + 1) ≠ 3 → am (j + 1) = nI (ct (j + 1))) ∧ (kd (j + 1) < 4 → ct (j + 1) = 0) ∧ (5 ≤ kd (j + 1) → ct (j + 1) ≤ 4) ∧
  (kd (j + 1) = 4 → ∀ i, i < ct (j + 1) → pt ((j + 1) * 8 + i) = ys (j * 8 + i)) ∧
  (kd (j + 1) = 5 → ∀ i, i < ct (j + 1) → pt ((j + 1) * 8 + i) = yi (j * 4 + i) ∧ ∃ w, 1 ≤ w ∧ w ≤ nv ∧ yi (j * 4 + i) = nI w) ∧
  (kd (j + 1) = 6 → ∀ i, i < ct (j + 1) → pt ((j + 1) * 8 + i) = yq (j * 4 + i) ∧ fd ((j + 1) * 4 + i) = yv (j * 4 + i) ∧ ∃ w, 1 ≤ w ∧ w ≤ nv ∧ yv (j * 4 + i) = nI w)
end LLF
