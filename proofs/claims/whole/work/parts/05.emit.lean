section LLE
/-! emitting into a bounded output: (content, count, overflowed) -/
def em_1 (cap : Nat) (s : (Nat → Int32) × Nat × Int32) (c : Int32) : (Nat → Int32) × Nat × Int32 := if cap ≤ s.2.1 then (s.1, s.2.1, 1) else (upd s.1 s.2.1 c, s.2.1 + 1, s.2.2)
def em_l (cap : Nat) (s : (Nat → Int32) × Nat × Int32) (l : List Int32) : (Nat → Int32) × Nat × Int32 := l.foldl (em_1 cap) s
theorem em_n (cap : Nat) (s : (Nat → Int32) × Nat × Int32) : em_l cap s [] = s := rfl
theorem em_c (cap : Nat) (s : (Nat → Int32) × Nat × Int32) (c : Int32) (l : List Int32) : em_l cap s (c :: l) = em_l cap (em_1 cap s c) l := rfl
theorem em_a (cap : Nat) (s : (Nat → Int32) × Nat × Int32) (l l' : List Int32) : em_l cap s (l ++ l') = em_l cap (em_l cap s l) l' := List.foldl_append
/-- a full output stays -/
theorem em_v (cap : Nat) : ∀ (l : List Int32) (s : (Nat → Int32) × Nat × Int32), cap ≤ s.2.1 → s.2.2 = 1 → em_l cap s l = s := by
  intro l
  induction l with
  | nil => intro s _ _; rfl
  | cons c l ih =>
    intro s h1 h2
    have e : em_1 cap s c = s := by
      unfold em_1
      rw [if_pos h1, ← h2]
    rw [em_c, e]
    exact ih s h1 h2
/-- what holds of a state behind emits -/
def em_g (cap : Nat) (s : (Nat → Int32) × Nat × Int32) : Prop := s.2.1 ≤ cap ∧ (s.2.2 = 0 ∨ (s.2.2 = 1 ∧ cap ≤ s.2.1))
theorem em_g1 {cap : Nat} {s : (Nat → Int32) × Nat × Int32} (h : em_g cap s) (c : Int32) : em_g cap (em_1 cap s c) := by
  obtain ⟨h1, h2⟩ := h
  unfold em_1
  by_cases z : cap ≤ s.2.1
  · rw [if_pos z]
    exact ⟨h1, Or.inr ⟨rfl, z⟩⟩
  · rw [if_neg z]
    refine ⟨by show s.2.1 + 1 ≤ cap; omega, ?_⟩
    rcases h2 with h2 | ⟨_, h2⟩
    · exact Or.inl h2
    · omega
theorem em_gl {cap : Nat} : ∀ (l : List Int32) {s : (Nat → Int32) × Nat × Int32}, em_g cap s → em_g cap (em_l cap s l) := by
  intro l
  induction l with
  | nil => intro s h; exact h
  | cons c l ih => intro s h; rw [em_c]; exact ih (em_g1 h c)
/-- once over, over: what is emitted behind changes nothing -/
theorem em_st {cap : Nat} {s : (Nat → Int32) × Nat × Int32} (h : em_g cap s) (hv : ¬ s.2.2 = 0) (l : List Int32) : em_l cap s l = s := by
  rcases h.2 with z | ⟨z1, z2⟩
  · exact absurd z hv
  · exact em_v cap l s z2 z1
/-- the escape of a character -/
def em_e (c : Int32) : List Int32 := if c = 38 then [38, 97, 109, 112, 59] else if c = 60 then [38, 108, 116, 59] else if c = 62 then [38, 103, 116, 59] else if c = 34 then [38, 113, 117, 111, 116, 59] else if c = 39 then [38, 35, 51, 57, 59] else [c]
def em_h (esc : Bool) (c : Int32) : List Int32 := if esc then em_e c else [c]
/-- the characters g i, g (i+1) .., d of them, each escaped or not -/
def em_u (esc : Bool) (g : Nat → Int32) : Nat → Nat → List Int32
  | 0, _ => []
  | d + 1, i => em_h esc (g i) ++ em_u esc g d (i + 1)
theorem em_us (esc : Bool) (g : Nat → Int32) (d i : Nat) : em_u esc g (d + 1) i = em_h esc (g i) ++ em_u esc g d (i + 1) := rfl
theorem em_ucg {esc : Bool} {g g' : Nat → Int32} : ∀ d i, (∀ j, i ≤ j → j < i + d → g j = g' j) → em_u esc g d i = em_u esc g' d i := by
  intro d
  induction d with
  | zero => intro i _; rfl
  | succ d ih => intro i h; rw [em_us, em_us, h i (by omega) (by omega), ih (i + 1) (fun j h1 h2 => h j (by omega) (by omega))]
/-- the characters g (d-1), .., g 0 -/
def em_d (g : Nat → Int32) : Nat → List Int32
  | 0 => []
  | d + 1 => g d :: em_d g d
theorem em_ds (g : Nat → Int32) (d : Nat) : em_d g (d + 1) = g d :: em_d g d := rfl
theorem em_ud {esc : Bool} {g g' : Nat → Int32} : ∀ d i, (∀ j, j < d → g (i + j) = g' (d - 1 - j)) → (∀ k, k < d → em_h esc (g' k) = [g' k]) → em_u esc g d i = em_d g' d := by
  intro d
  induction d with
  | zero => intro i _ _; rfl
  | succ d ih =>
    intro i h hp
    rw [em_us, em_ds]
    have h0 := h 0 (by omega)
    rw [Nat.add_zero, show d + 1 - 1 - 0 = d from by omega] at h0
    rw [h0, hp d (by omega), ih (i + 1) (fun j hj => ?_) (fun k hk => hp k (by omega))]
    · rfl
    · have := h (j + 1) (by omega)
      rw [show i + 1 + j = i + (j + 1) from by omega, this]
      exact congrArg g' (by omega)
theorem em_plain {esc : Bool} {c : Int32} (h1 : c ≠ 38) (h2 : c ≠ 60) (h3 : c ≠ 62) (h4 : c ≠ 34) (h5 : c ≠ 39) : em_h esc c = [c] := by
  unfold em_h em_e
  rw [if_neg h1, if_neg h2, if_neg h3, if_neg h4, if_neg h5]
  split <;> rfl
theorem em_digit {esc : Bool} {m : Int32} (h : m.toInt ≤ 0) (k : Nat) : em_h esc (ll_dg m k) = [ll_dg m k] := by
  have hr := ll_dg_r h k
  have hd : ∀ a : Int32, a.toInt < 48 ∨ 57 < a.toInt → ll_dg m k ≠ a := by
    intro a ha e
    rw [e] at hr
    omega
  exact em_plain (hd 38 (by decide)) (hd 60 (by decide)) (hd 62 (by decide)) (hd 34 (by decide)) (hd 39 (by decide))
/-- how many digits -/
def em_q (m : Int32) : Nat → Nat → Nat
  | 0, c => c
  | d + 1, c => if ll_it m c = 0 then c else em_q m d (c + 1)
theorem em_qs (m : Int32) (d c : Nat) : em_q m (d + 1) c = if ll_it m c = 0 then c else em_q m d (c + 1) := rfl
theorem em_qb (m : Int32) : ∀ d c, c ≤ em_q m d c ∧ em_q m d c ≤ c + d := by
  intro d
  induction d with
  | zero => intro c; exact ⟨Nat.le_refl _, Nat.le_refl _⟩
  | succ d ih =>
    intro c
    rw [em_qs]
    have := ih (c + 1)
    split <;> omega
end LLE
