section LLNE
section TK
variable {s n m : Nat} {T K N E G R ty tA tB tN tM : Nat → Int32} {ps tp : Nat → Nat} {st : Nat → List Nat}
theorem tk_op (h : tk_F s n T K N E G R ty tA tB tN tM m ps tp st) {t : Nat} (ht : t < m) (h6 : tp t = 6 ∨ tp t = 7) : ∃ c, t < c ∧ c < m ∧ tp c = 8 ∧ st c = t :: st t ∧ st (c + 1) = st t ∧ tM (s * 100 + t) = nI c ∧ G (s * 96 + ps t) = nI (s * 96 + ps (c + 1)) := by
  obtain ⟨a, b, ⟨c1, c2, c3, c4, c5⟩, d, _⟩ := h
  rcases c5 t ht h6 with z | ⟨c, z1, z2, z3, z4⟩
  · rw [d] at z; exact absurd z (by simp)
  · obtain ⟨w, w1, w2, w3, w4, w5⟩ := c4 c z2 z3
    have e : w = t := by
      rw [z4] at w2
      exact (List.cons.inj w2).1.symm
    subst e
    refine ⟨c, z1, z2, z3, z4, ?_, w4, w5⟩
    rw [c2 c z2, if_neg (by omega), if_pos z3, z4]
    rfl
theorem tk_cl (h : tk_F s n T K N E G R ty tA tB tN tM m ps tp st) {t : Nat} (ht : t < m) (h8 : tp t = 8) : ∃ w, w < t ∧ st t = w :: st w ∧ (tp w = 6 ∨ tp w = 7) ∧ tM (s * 100 + w) = nI t ∧ st (t + 1) = st w := by
  obtain ⟨a, b, ⟨c1, c2, c3, c4, c5⟩, d, _⟩ := h
  obtain ⟨w, w1, w2, w3, w4, w5⟩ := c4 t ht h8
  refine ⟨w, w1, w2, ?_, w4, ?_⟩
  · rcases (c3 t (by omega)).2 with z | ⟨x, x1, x2, x3⟩
    · rw [z] at w2; exact absurd w2 (by simp)
    · have e : x = w := by
        rw [w2] at x2
        exact (List.cons.inj x2).1.symm
      rw [← e]; exact x3
  · rw [c2 t ht, if_neg (by omega), if_pos h8, w2]
    rfl
/-- an opened section stays on the stack until its close -/
theorem tk_out (h : tk_F s n T K N E G R ty tA tB tN tM m ps tp st) {t : Nat} : ∀ d u, t < u → u + d ≤ m → t ∉ st u → t ∉ st (u + d) := by
  obtain ⟨a, b, ⟨c1, c2, c3, c4, c5⟩, d0, _⟩ := h
  intro d
  induction d with
  | zero => intro u _ _ hn; exact hn
  | succ d ih =>
    intro u hu hd hn
    have hi := ih u hu (by omega) hn
    have e : u + (d + 1) = u + d + 1 := by omega
    rw [e, c2 (u + d) (by omega)]
    split
    · intro w
      rcases List.mem_cons.mp w with w | w
      · omega
      · exact hi w
    · split
      · intro w
        exact hi (List.mem_of_mem_tail w)
      · exact hi
theorem tk_stay (h : tk_F s n T K N E G R ty tA tB tN tM m ps tp st) {t c u : Nat} (hc : c ≤ m) (h1 : t < u) (h2 : u ≤ c) (e : st c = t :: st t) : t ∈ st u := by
  apply Classical.byContradiction
  intro w
  have := tk_out h (c - u) u h1 (by omega) w
  rw [show u + (c - u) = c from by omega, e] at this
  exact this (List.mem_cons.mpr (Or.inl rfl))
/-- a section within another ends ahead of it -/
theorem tk_nest (h : tk_F s n T K N E G R ty tA tB tN tM m ps tp st) {t c w c' : Nat} (hc : c < m) (hc' : c' < m) (h6 : tp t = 6 ∨ tp t = 7) (e : st c = t :: st t) (hw : st t = w :: st w) (e' : st c' = w :: st w) (h8' : tp c' = 8) (h2 : t ≤ c') (htc : t < c) : c < c' := by
  have hs := h.2.2.1
  have hb := tk_sb hs m
  have hwt : w < t := hb t (by omega) (by omega) w (by rw [hw]; exact List.mem_cons.mpr (Or.inl rfl))
  apply Classical.byContradiction
  intro q
  by_cases z1 : c' = t
  · rw [z1] at h8'; omega
  · have hm := tk_stay h (by omega) (show t < c' from by omega) (by omega) e
    rw [e', ← hw] at hm
    have := hb t (by omega) (by omega) t hm
    omega
theorem tk_oth (h : tk_F s n T K N E G R ty tA tB tN tM m ps tp st) {t : Nat} (ht : t < m) (h6 : tp t ≠ 6) (h7 : tp t ≠ 7) (h8 : tp t ≠ 8) : st (t + 1) = st t := by
  have := h.2.2.1.2.1 t ht
  rw [this, if_neg (by omega), if_neg h8]
theorem tk_beg (h : tk_F s n T K N E G R ty tA tB tN tM m ps tp st) {t : Nat} (ht : t < m) (h6 : tp t = 6 ∨ tp t = 7) : st (t + 1) = t :: st t ∧ (st t).length < 2 := by
  have e := h.2.2.1.2.1 t ht
  rw [if_pos h6] at e
  have := (h.2.2.1.2.2.1 (t + 1) (by omega)).1
  rw [e, List.length_cons] at this
  exact ⟨e, by omega⟩
end TK
/-- where the walk stands among the begun sections -/
def rq_P (MT : Nat → Nat → Nat) : List (Nat × Nat × Nat × Nat × Nat × Nat) → Nat → Nat → Prop
  | [], _, _ => True
  | e :: es, s, t => (e.1 = 9 ∧ rq_P MT es 0 (e.2.2.1 + 1)) ∨ (e.1 ≠ 9 ∧ e.2.2.1 < t ∧ t ≤ MT s e.2.2.1 ∧ rq_P MT es s (MT s e.2.2.1 + 1))
/-- the data of the compiled slots while a render runs -/
def sd_P (ss : Nat → Int32) (ln M : Nat → Nat) (PS TP MT : Nat → Nat → Nat) (ST : Nat → Nat → List Nat) (tx K N E G R ty tA tB tN tM tC : Nat → Int32) : Prop :=
  ∀ s, s < 4 → ss s = 0 → ln s ≤ 96 ∧ tk_F s (ln s) (fun i => tx (s * 96 + i)) K N E G R ty tA tB tN tM (M s) (PS s) (TP s) (ST s) ∧ tC s = nI (M s) ∧ (∀ t, t < M s → MT s t = (tM (s * 100 + t)).toNatClampNeg)
section SD
variable {ss : Nat → Int32} {ln M : Nat → Nat} {PS TP MT : Nat → Nat → Nat} {ST : Nat → Nat → List Nat} {tx K N E G R ty tA tB tN tM tC : Nat → Int32} {nv : Nat}
theorem sd_op (h : sd_P ss ln M PS TP MT ST tx K N E G R ty tA tB tN tM tC) {s t : Nat} (hs : s < 4) (h0 : ss s = 0) (ht : t < M s) (h6 : TP s t = 6 ∨ TP s t = 7) : t < MT s t ∧ MT s t < M s ∧ TP s (MT s t) = 8 ∧ ST s (MT s t) = t :: ST s t ∧ ST s (MT s t + 1) = ST s t ∧ tM (s * 100 + t) = nI (MT s t) ∧ G (s * 96 + PS s t) = nI (s * 96 + PS s (MT s t + 1)) := by
  obtain ⟨hl, hF, hC, hM⟩ := h s hs h0
  have hm := tk_mp hF.1
  obtain ⟨c, c1, c2, c3, c4, c5, c6, c7⟩ := tk_op hF ht h6
  have e : MT s t = c := by rw [hM t ht, c6]; exact nI_clamp (by omega)
  rw [e]
  exact ⟨c1, c2, c3, c4, c5, c6, c7⟩
theorem sd_cl (h : sd_P ss ln M PS TP MT ST tx K N E G R ty tA tB tN tM tC) {s t : Nat} (hs : s < 4) (h0 : ss s = 0) (ht : t < M s) (h8 : TP s t = 8) : ∃ w, w < t ∧ ST s t = w :: ST s w ∧ (TP s w = 6 ∨ TP s w = 7) ∧ MT s w = t ∧ ST s (t + 1) = ST s w := by
  obtain ⟨hl, hF, hC, hM⟩ := h s hs h0
  have hm := tk_mp hF.1
  obtain ⟨w, w1, w2, w3, w4, w5⟩ := tk_cl hF ht h8
  refine ⟨w, w1, w2, w3, ?_, w5⟩
  rw [hM w (by omega), w4]
  exact nI_clamp (by omega)
/-- the place moves on within the zone -/
theorem rq_go (h : sd_P ss ln M PS TP MT ST tx K N E G R ty tA tB tN tM tC) {s t : Nat} (hs : s < 4) (h0 : ss s = 0) (ht : t < M s) (n8 : TP s t ≠ 8) {es : List (Nat × Nat × Nat × Nat × Nat × Nat)} (hm : rn_m M TP ST nv es s (ST s t)) (hq : rq_P MT es s t) : rq_P MT es s (t + 1) := by
  cases es with
  | nil => trivial
  | cons e es =>
    rcases hq with ⟨a, b⟩ | ⟨a, b, c, d⟩
    · exact Or.inl ⟨a, b⟩
    · refine Or.inr ⟨a, by omega, ?_, d⟩
      rcases hm with ⟨g1, _⟩ | ⟨g1, g2, g3, g4, g5, g6, g7⟩
      · exact absurd g1 a
      · have o := sd_op h hs h0 g3 (by rw [← g4]; exact g1)
        by_cases z : t = MT s e.2.2.1
        · rw [z] at n8; exact absurd o.2.2.1 n8
        · omega
/-- and behind a section that begins here -/
theorem rq_sk (h : sd_P ss ln M PS TP MT ST tx K N E G R ty tA tB tN tM tC) {s t : Nat} (hs : s < 4) (h0 : ss s = 0) (ht : t < M s) (h6 : TP s t = 6 ∨ TP s t = 7) {es : List (Nat × Nat × Nat × Nat × Nat × Nat)} (hm : rn_m M TP ST nv es s (ST s t)) (hq : rq_P MT es s t) : rq_P MT es s (MT s t + 1) := by
  have o := sd_op h hs h0 ht h6
  cases es with
  | nil => trivial
  | cons e es =>
    rcases hq with ⟨a, b⟩ | ⟨a, b, c, d⟩
    · exact Or.inl ⟨a, b⟩
    · rcases hm with ⟨g1, _⟩ | ⟨g1, g2, g3, g4, g5, g6, g7⟩
      · exact absurd g1 a
      · have o' := sd_op h hs h0 g3 (by rw [← g4]; exact g1)
        have := tk_nest (h s hs h0).2.1 o.2.1 o'.2.1 h6 o.2.2.2.1 g5 o'.2.2.2.1 o'.2.2.1 c o.1
        exact Or.inr ⟨a, by omega, by omega, d⟩
/-- the zone's end -/
theorem rq_e (h : sd_P ss ln M PS TP MT ST tx K N E G R ty tA tB tN tM tC) {s t : Nat} (hs : s < 4) (h0 : ss s = 0) (ht : t ≤ M s) {hl : List Nat} {es : List (Nat × Nat × Nat × Nat × Nat × Nat)} (hm : rn_m M TP ST nv es s hl) (hq : rq_P MT es s t) : PS s t ≤ rn_e PS MT ln es := by
  have hF := (h s hs h0).2.1
  cases es with
  | nil =>
    have e := hm.1
    subst e
    exact tk_ap hF.1 ht
  | cons e es =>
    rcases hm with ⟨g1, g2, g3, _⟩ | ⟨g1, g2, g3, g4, g5, g6, g7⟩
    · simp only [rn_e, if_pos g1]
      rw [← g3]
      exact tk_ap hF.1 ht
    · have n9 : ¬ e.1 = 9 := by omega
      simp only [rn_e, if_neg n9, rn_z]
      rw [g2]
      rcases hq with ⟨a, b⟩ | ⟨a, b, c, d⟩
      · exact absurd a n9
      · have o := sd_op h hs h0 g3 (by rw [← g4]; exact g1)
        exact tk_le hF.1 (by omega) (by omega)
end SD
end LLNE
