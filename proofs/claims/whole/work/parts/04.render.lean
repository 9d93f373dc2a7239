section LLR
/-! the render's ghosts: entries (ty 6 section, 7 inverted, 9 inclusion; slot; token; value, of an inclusion its slot; index; frame) -/
def rn_z (PS MT : Nat → Nat → Nat) (e : Nat × Nat × Nat × Nat × Nat × Nat) : Nat := if e.1 = 9 then PS 0 (e.2.2.1 + 1) else PS e.2.1 (MT e.2.1 e.2.2.1 + 1)
def rn_b (PS : Nat → Nat → Nat) (e : Nat × Nat × Nat × Nat × Nat × Nat) : Nat := PS e.2.1 (e.2.2.1 + 1)
def rn_k (kd ct : Nat → Nat) (e : Nat × Nat × Nat × Nat × Nat × Nat) : Nat := if e.1 = 6 ∧ kd e.2.2.2.1 = 5 then ct e.2.2.2.1 - (e.2.2.2.2.1 + 1) else 0
def rn_r : List (Nat × Nat × Nat × Nat × Nat × Nat) → Nat
  | [] => 24608
  | e :: es => if e.1 = 9 then 16 else rn_r es / 4
def rn_p (PS MT : Nat → Nat → Nat) (kd ct ln : Nat → Nat) : List (Nat × Nat × Nat × Nat × Nat × Nat) → Nat → Nat
  | [], c => 24608 * (ln 0 - c) + 1
  | e :: es, c => if e.1 = 9 then 16 * (ln e.2.2.2.1 - c) + 1 + rn_p PS MT kd ct ln es (rn_z PS MT e) else rn_r (e :: es) * (rn_z PS MT e - c) + rn_k kd ct e * (rn_r (e :: es) * (rn_z PS MT e - rn_b PS e)) + rn_p PS MT kd ct ln es (rn_z PS MT e)
def rn_e (PS MT : Nat → Nat → Nat) (ln : Nat → Nat) : List (Nat × Nat × Nat × Nat × Nat × Nat) → Nat
  | [] => ln 0
  | e :: _ => if e.1 = 9 then ln e.2.2.2.1 else rn_z PS MT e
theorem rn_mul (r z c c' : Nat) (h : c ≤ c') (h' : c' ≤ z) : r * (z - c) = r * (z - c') + r * (c' - c) := by
  rw [← Nat.mul_add]
  exact congrArg _ (by omega)
theorem rn_d {PS MT : Nat → Nat → Nat} {kd ct ln : Nat → Nat} (es : List (Nat × Nat × Nat × Nat × Nat × Nat)) {c c' : Nat} (h : c ≤ c') (h' : c' ≤ rn_e PS MT ln es) : rn_p PS MT kd ct ln es c = rn_p PS MT kd ct ln es c' + rn_r es * (c' - c) := by
  cases es with
  | nil =>
    simp only [rn_p, rn_r, rn_e] at h' ⊢
    omega
  | cons e es =>
    by_cases z : e.1 = 9
    · simp only [rn_p, rn_r, rn_e, if_pos z] at h' ⊢
      omega
    · simp only [rn_e, if_neg z] at h'
      simp only [rn_p, if_neg z]
      rw [rn_mul (rn_r (e :: es)) (rn_z PS MT e) c c' h h']
      omega
/-- opening a section -/
theorem rn_o {PS MT : Nat → Nat → Nat} {kd ct ln : Nat → Nat} (e : Nat × Nat × Nat × Nat × Nat × Nat) (es : List (Nat × Nat × Nat × Nat × Nat × Nat)) {q : Nat} (h9 : e.1 ≠ 9) (hq : q < rn_b PS e) (hb : rn_b PS e ≤ rn_z PS MT e) (hz : rn_z PS MT e ≤ rn_e PS MT ln es) (hk : rn_k kd ct e ≤ 3) (hr : 1 ≤ rn_r es) : rn_p PS MT kd ct ln (e :: es) (rn_b PS e) < rn_p PS MT kd ct ln es q := by
  have h1 := rn_d (kd := kd) (ct := ct) es (c := q) (c' := rn_z PS MT e) (by omega) hz
  have h2 : rn_r (e :: es) = rn_r es / 4 := by simp only [rn_r, if_neg h9]
  simp only [rn_p, if_neg h9]
  rw [h1, h2]
  generalize rn_p PS MT kd ct ln es (rn_z PS MT e) = A
  generalize rn_z PS MT e = z at *
  generalize rn_b PS e = b at *
  generalize rn_k kd ct e = k at *
  generalize rn_r es = r at *
  have h3 : k * (r / 4 * (z - b)) ≤ 3 * (r / 4 * (z - b)) := Nat.mul_le_mul_right _ hk
  have h4 : 4 * (r / 4 * (z - b)) ≤ r * (z - b) := by
    rw [← Nat.mul_assoc]
    exact Nat.mul_le_mul_right _ (by omega)
  have h5 : r * (z - b) < r * (z - q) := Nat.mul_lt_mul_of_pos_left (by omega) (by omega)
  omega
/-- the last close -/
theorem rn_cl {PS MT : Nat → Nat → Nat} {kd ct ln : Nat → Nat} (e : Nat × Nat × Nat × Nat × Nat × Nat) (es : List (Nat × Nat × Nat × Nat × Nat × Nat)) {c : Nat} (h9 : e.1 ≠ 9) (hc : c < rn_z PS MT e) (hr : 1 ≤ rn_r (e :: es)) : rn_p PS MT kd ct ln es (rn_z PS MT e) < rn_p PS MT kd ct ln (e :: es) c := by
  simp only [rn_p, if_neg h9]
  have : 0 < rn_r (e :: es) * (rn_z PS MT e - c) := Nat.mul_pos (by omega) (by omega)
  omega
/-- a close that goes on with the next item -/
theorem rn_cn {PS MT : Nat → Nat → Nat} {kd ct ln : Nat → Nat} (e e' : Nat × Nat × Nat × Nat × Nat × Nat) (es : List (Nat × Nat × Nat × Nat × Nat × Nat)) {c : Nat} (h9 : e.1 ≠ 9) (h9' : e'.1 ≠ 9) (hz : rn_z PS MT e' = rn_z PS MT e) (hb : rn_b PS e' = rn_b PS e) (hk : rn_k kd ct e = rn_k kd ct e' + 1) (hc : c < rn_z PS MT e) (hr : 1 ≤ rn_r (e :: es)) : rn_p PS MT kd ct ln (e' :: es) (rn_b PS e') < rn_p PS MT kd ct ln (e :: es) c := by
  have h1 : rn_r (e' :: es) = rn_r (e :: es) := by simp only [rn_r, if_neg h9, if_neg h9']
  simp only [rn_p, if_neg h9, if_neg h9']
  rw [h1, hz, hb, hk]
  have : 0 < rn_r (e :: es) * (rn_z PS MT e - c) := Nat.mul_pos (by omega) (by omega)
  rw [Nat.add_mul, Nat.one_mul]
  omega
/-- what stands on the stack at slot s where the begun sections are hs -/
def rn_m (M : Nat → Nat) (TP : Nat → Nat → Nat) (ST : Nat → Nat → List Nat) (nv : Nat) : List (Nat × Nat × Nat × Nat × Nat × Nat) → Nat → List Nat → Prop
  | [], s, hs => s = 0 ∧ hs = []
  | e :: es, s, hs => (e.1 = 9 ∧ s ≠ 0 ∧ s = e.2.2.2.1 ∧ hs = [] ∧ e.2.1 = 0 ∧ e.2.2.1 < M 0 ∧ TP 0 e.2.2.1 = 9 ∧ rn_m M TP ST nv es 0 (ST 0 e.2.2.1)) ∨
      ((e.1 = 6 ∨ e.1 = 7) ∧ e.2.1 = s ∧ e.2.2.1 < M s ∧ e.1 = TP s e.2.2.1 ∧ hs = e.2.2.1 :: ST s e.2.2.1 ∧ (e.1 = 6 → (1 ≤ e.2.2.2.1 ∧ e.2.2.2.1 ≤ nv ∧ e.2.2.2.2.1 ≤ 4) ∧ (1 ≤ e.2.2.2.2.2 ∧ e.2.2.2.2.2 ≤ nv)) ∧ rn_m M TP ST nv es s (ST s e.2.2.1))
theorem rn_rt {M : Nat → Nat} {TP : Nat → Nat → Nat} {ST : Nat → Nat → List Nat} {nv : Nat} : ∀ (es : List (Nat × Nat × Nat × Nat × Nat × Nat)) (s : Nat) (hs : List Nat), rn_m M TP ST nv es s hs → rn_r es = (if s = 0 then 24608 else 16) / 4 ^ hs.length := by
  intro es
  induction es with
  | nil =>
    intro s hs h
    obtain ⟨h1, h2⟩ := h
    subst h1 h2
    rfl
  | cons e es ih =>
    intro s hs h
    rcases h with ⟨h1, h2, h3, h4, _⟩ | ⟨h1, h2, h3, h4, h5, h6, h7⟩
    · subst h4
      simp only [rn_r, if_pos h1, if_neg h2]
      rfl
    · have := ih s _ h7
      have h9 : ¬ e.1 = 9 := by omega
      subst h5
      simp only [rn_r, if_neg h9, List.length_cons]
      rw [this, Nat.pow_succ, Nat.div_div_eq_div_mul]
theorem rn_len {M : Nat → Nat} {TP : Nat → Nat → Nat} {ST : Nat → Nat → List Nat} {nv : Nat} (hST : ∀ t, t < M 0 → (ST 0 t).length ≤ 2) : ∀ (es : List (Nat × Nat × Nat × Nat × Nat × Nat)) (s : Nat) (hs : List Nat), rn_m M TP ST nv es s hs → es.length ≤ hs.length + (if s = 0 then 0 else 3) := by
  intro es
  induction es with
  | nil => intro s hs h; exact Nat.zero_le _
  | cons e es ih =>
    intro s hs h
    rcases h with ⟨h1, h2, h3, h4, h5, h6, _, h7⟩ | ⟨h1, h2, h3, h4, h5, h6, h7⟩
    · have hA := ih 0 _ h7
      have hB := hST _ h6
      subst h4
      rw [if_neg h2]
      rw [if_pos rfl] at hA
      simp only [List.length_cons, List.length_nil]
      omega
    · have := ih s _ h7
      subst h5
      simp only [List.length_cons]
      omega
/-- the top value -/
def rn_t (root : Nat) : List (Nat × Nat × Nat × Nat × Nat × Nat) → Nat
  | [] => root
  | e :: es => if e.1 = 6 then e.2.2.2.2.2 else rn_t root es
theorem rn_tv {M : Nat → Nat} {TP : Nat → Nat → Nat} {ST : Nat → Nat → List Nat} {nv root : Nat} (h1 : 1 ≤ root) (h2 : root ≤ nv) : ∀ (es : List (Nat × Nat × Nat × Nat × Nat × Nat)) (s : Nat) (hs : List Nat), rn_m M TP ST nv es s hs → 1 ≤ rn_t root es ∧ rn_t root es ≤ nv := by
  intro es
  induction es with
  | nil => intro s hs h; exact ⟨h1, h2⟩
  | cons e es ih =>
    intro s hs h
    rcases h with ⟨g1, _, _, _, _, _, _, g7⟩ | ⟨g1, g2, g3, g4, g5, g6, g7⟩
    · have h6 : ¬ e.1 = 6 := by omega
      simp only [rn_t, if_neg h6]
      exact ih _ _ g7
    · by_cases z : e.1 = 6
      · simp only [rn_t, if_pos z]
        exact (g6 z).2
      · simp only [rn_t, if_neg z]
        exact ih _ _ g7
/-- the look up of a letter, F the field of each value -/
def rn_l (root : Nat) (F : Nat → Int32) : List (Nat × Nat × Nat × Nat × Nat × Nat) → Int32
  | [] => F root
  | e :: es => if e.1 = 6 then (if F e.2.2.2.2.2 = 0 then rn_l root F es else F e.2.2.2.2.2) else rn_l root F es
theorem rn_lt (root : Nat) (F : Nat → Int32) : ∀ es, ¬ F (rn_t root es) = 0 → rn_l root F es = F (rn_t root es) := by
  intro es
  induction es with
  | nil => intro _; rfl
  | cons e es ih =>
    intro h
    by_cases z : e.1 = 6
    · simp only [rn_t, if_pos z] at h
      simp only [rn_t, rn_l, if_pos z, if_neg h]
    · simp only [rn_t, if_neg z] at h
      simp only [rn_t, rn_l, if_neg z]
      exact ih h
/-- the stacks of both sides against the entries -/
def rn_s (PS : Nat → Nat → Nat) (kd : Nat → Nat) (root : Nat) (fV fL fN fB yv cK cS cT cV cI : Nat → Int32) : List (Nat × Nat × Nat × Nat × Nat × Nat) → Nat → Nat → Nat → Prop
  | [], fc, fn, cn => fc = 1 ∧ fn = 1 ∧ cn = 0 ∧ fV 0 = nI root ∧ yv 0 = nI root
  | e :: es, fc, fn, cn => ∃ fc' fn' cn', rn_s PS kd root fV fL fN fB yv cK cS cT cV cI es fc' fn' cn' ∧ cn = cn' + 1 ∧ cK cn' = nI e.1 ∧ cS cn' = nI e.2.1 ∧ cT cn' = nI e.2.2.1 ∧
      ((e.1 = 6 ∧ fc = fc' + 1 ∧ fn = fn' + 1 ∧ cV cn' = nI e.2.2.2.1 ∧ cI cn' = nI e.2.2.2.2.1 ∧ fV fc' = nI e.2.2.2.2.2 ∧ yv fn' = nI e.2.2.2.2.2 ∧ fL fc' = nI (if kd e.2.2.2.1 = 5 then e.2.2.2.1 else 0) ∧ fN fc' = nI (e.2.2.2.2.1 + 1) ∧ fB fc' = nI (e.2.1 * 96 + PS e.2.1 (e.2.2.1 + 1))) ∨
       (e.1 = 7 ∧ fc = fc' + 1 ∧ fn = fn' ∧ fV fc' = nI (rn_t root es) ∧ fL fc' = 0) ∨
       (e.1 = 9 ∧ fc = fc' ∧ fn = fn'))
theorem rn_sn {PS : Nat → Nat → Nat} {kd : Nat → Nat} {root : Nat} {fV fL fN fB yv cK cS cT cV cI : Nat → Int32} : ∀ es fc fn cn, rn_s PS kd root fV fL fN fB yv cK cS cT cV cI es fc fn cn → 1 ≤ fc ∧ fc ≤ es.length + 1 ∧ 1 ≤ fn ∧ fn ≤ es.length + 1 ∧ cn = es.length := by
  intro es
  induction es with
  | nil => intro fc fn cn h; obtain ⟨h1, h2, h3, _⟩ := h; simp only [List.length_nil]; omega
  | cons e es ih =>
    intro fc fn cn h
    obtain ⟨fc', fn', cn', h1, h2, _, _, _, h6⟩ := h
    have := ih _ _ _ h1
    simp only [List.length_cons]
    rcases h6 with ⟨_, a, b, _⟩ | ⟨_, a, b, _⟩ | ⟨_, a, b⟩ <;> omega
/-- X's frames are one for each section entry, and the root's -/
def rn_n : List (Nat × Nat × Nat × Nat × Nat × Nat) → Nat
  | [] => 1
  | e :: es => if e.1 = 9 then rn_n es else rn_n es + 1
theorem rn_sf {PS : Nat → Nat → Nat} {kd : Nat → Nat} {root : Nat} {fV fL fN fB yv cK cS cT cV cI : Nat → Int32} : ∀ es fc fn cn, rn_s PS kd root fV fL fN fB yv cK cS cT cV cI es fc fn cn → fc = rn_n es := by
  intro es
  induction es with
  | nil => intro fc fn cn h; exact h.1
  | cons e es ih =>
    intro fc fn cn h
    obtain ⟨fc', fn', cn', h1, h2, _, _, _, h6⟩ := h
    have := ih _ _ _ h1
    rcases h6 with ⟨a, b, _⟩ | ⟨a, b, _⟩ | ⟨a, b, _⟩
    · simp only [rn_n, if_neg (show ¬ e.1 = 9 from by omega)]; omega
    · simp only [rn_n, if_neg (show ¬ e.1 = 9 from by omega)]; omega
    · simp only [rn_n, if_pos a]; omega
theorem rn_nl {M : Nat → Nat} {TP : Nat → Nat → Nat} {ST : Nat → Nat → List Nat} {nv : Nat} (hST : ∀ t, t < M 0 → (ST 0 t).length ≤ 2) : ∀ (es : List (Nat × Nat × Nat × Nat × Nat × Nat)) (s : Nat) (hs : List Nat), rn_m M TP ST nv es s hs → rn_n es ≤ hs.length + (if s = 0 then 1 else 3) := by
  intro es
  induction es with
  | nil => intro s hs h; rw [h.1, h.2]; decide
  | cons e es ih =>
    intro s hs h
    rcases h with ⟨h1, h2, h3, h4, h5, h6, _, h7⟩ | ⟨h1, h2, h3, h4, h5, h6, h7⟩
    · have hA := ih 0 _ h7
      have hB := hST _ h6
      subst h4
      rw [if_neg h2]
      rw [if_pos rfl] at hA
      simp only [rn_n, if_pos h1, List.length_nil]
      omega
    · have := ih s _ h7
      subst h5
      simp only [rn_n, if_neg (show ¬ e.1 = 9 from by omega), List.length_cons]
      omega
theorem rn_st {PS : Nat → Nat → Nat} {kd : Nat → Nat} {root : Nat} {fV fL fN fB yv cK cS cT cV cI : Nat → Int32} : ∀ es fc fn cn, rn_s PS kd root fV fL fN fB yv cK cS cT cV cI es fc fn cn → fV (fc - 1) = nI (rn_t root es) ∧ yv (fn - 1) = nI (rn_t root es) := by
  intro es
  induction es with
  | nil => intro fc fn cn h; obtain ⟨h1, h2, h3, h4, h5⟩ := h; subst h1 h2; exact ⟨h4, h5⟩
  | cons e es ih =>
    intro fc fn cn h
    obtain ⟨fc', fn', cn', h1, h2, _, _, _, h6⟩ := h
    have := ih _ _ _ h1
    rcases h6 with ⟨a, b, c, _, _, d, f, _⟩ | ⟨a, b, c, d, _⟩ | ⟨a, b, c⟩
    · subst b c
      simp only [rn_t, if_pos a, Nat.add_sub_cancel]
      exact ⟨d, f⟩
    · subst b c
      simp only [rn_t, if_neg (show ¬ e.1 = 6 from by omega), Nat.add_sub_cancel]
      exact ⟨d, this.2⟩
    · subst b c
      simp only [rn_t, if_neg (show ¬ e.1 = 6 from by omega)]
      exact this
/-- writes above the stacks' heights change nothing -/
theorem rn_sc {PS : Nat → Nat → Nat} {kd : Nat → Nat} {root : Nat} {fV fL fN fB yv cK cS cT cV cI fV' fL' fN' fB' yv' cK' cS' cT' cV' cI' : Nat → Int32} : ∀ es fc fn cn, rn_s PS kd root fV fL fN fB yv cK cS cT cV cI es fc fn cn →
    (∀ j, j < fc → fV' j = fV j ∧ fL' j = fL j ∧ fN' j = fN j ∧ fB' j = fB j) → (∀ j, j < fn → yv' j = yv j) → (∀ j, j < cn → cK' j = cK j ∧ cS' j = cS j ∧ cT' j = cT j ∧ cV' j = cV j ∧ cI' j = cI j) → rn_s PS kd root fV' fL' fN' fB' yv' cK' cS' cT' cV' cI' es fc fn cn := by
  intro es
  induction es with
  | nil =>
    intro fc fn cn h a b c
    obtain ⟨h1, h2, h3, h4, h5⟩ := h
    exact ⟨h1, h2, h3, by rw [(a 0 (by omega)).1]; exact h4, by rw [b 0 (by omega)]; exact h5⟩
  | cons e es ih =>
    intro fc fn cn h a b c
    obtain ⟨fc', fn', cn', h1, h2, h3, h4, h5, h6⟩ := h
    have ec := c cn' (by omega)
    have hi : rn_s PS kd root fV' fL' fN' fB' yv' cK' cS' cT' cV' cI' es fc' fn' cn' := by
      apply ih _ _ _ h1
      · intro j hj
        exact a j (by rcases h6 with ⟨_, x, y, _⟩ | ⟨_, x, y, _⟩ | ⟨_, x, y⟩ <;> omega)
      · intro j hj
        exact b j (by rcases h6 with ⟨_, x, y, _⟩ | ⟨_, x, y, _⟩ | ⟨_, x, y⟩ <;> omega)
      · intro j hj
        exact c j (by omega)
    refine ⟨fc', fn', cn', hi, h2, by rw [ec.1]; exact h3, by rw [ec.2.1]; exact h4, by rw [ec.2.2.1]; exact h5, ?_⟩
    rcases h6 with ⟨x1, x2, x3, x4, x5, x6, x7, x8, x9, x10⟩ | ⟨x1, x2, x3, x4, x5⟩ | h6
    · have ea := a fc' (by omega)
      have eb := b fn' (by omega)
      exact Or.inl ⟨x1, x2, x3, by rw [ec.2.2.2.1]; exact x4, by rw [ec.2.2.2.2]; exact x5, by rw [ea.1]; exact x6, by rw [eb]; exact x7, by rw [ea.2.1]; exact x8, by rw [ea.2.2.1]; exact x9, by rw [ea.2.2.2]; exact x10⟩
    · have ea := a fc' (by omega)
      exact Or.inr (Or.inl ⟨x1, x2, x3, by rw [ea.1]; exact x4, by rw [ea.2.1]; exact x5⟩)
    · exact Or.inr (Or.inr h6)
end LLR
