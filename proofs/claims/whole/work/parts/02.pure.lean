section LLP
/-! A: numbers -/
theorem la_m {n : Nat} (h : 0 < n) : nI n + (-1) = nI (n - 1) := by
  obtain ⟨m, rfl⟩ : ∃ m, n = m + 1 := ⟨n - 1, by omega⟩
  exact pk_m1 m
theorem la_s {n : Nat} (h : 0 < n) : nI n - 1 = nI (n - 1) := by
  obtain ⟨m, rfl⟩ : ∃ m, n = m + 1 := ⟨n - 1, by omega⟩
  exact nI_pred m
theorem la_n1 {a : Nat} (h : a < 2 ^ 31) : ¬ nI a = -1 := by
  intro e
  have := nI_pos (n := a) h
  rw [e] at this
  exact this (by decide)
theorem la_1n {a : Nat} (h : a < 2 ^ 31) : ¬ (-1) = nI a := fun e => la_n1 h e.symm
theorem la_im {a b : Nat} (h : nI a = nI b) (ha : a < 2 ^ 31) (hb : b < 2 ^ 31) : a = b := (nI_eq ha hb).mp h
theorem la_m96 (a : Nat) : nI a * 96 = nI (a * 96) := pk_mul a 96
theorem la_m100 (a : Nat) : nI a * 100 = nI (a * 100) := pk_mul a 100
theorem la_m8 (a : Nat) : nI a * 8 = nI (a * 8) := pk_mul a 8
theorem la_m4 (a : Nat) : nI a * 4 = nI (a * 4) := pk_mul a 4
/-! B: strings in a text T, relative positions -/
def ll_oc (T O : Nat → Int32) (x : Nat) : Nat → Nat → Bool
  | 0, _ => true
  | d + 1, i => if T (x + i) = O i then ll_oc T O x d (i + 1) else false
theorem ll_oc_s {T O : Nat → Int32} {x d i : Nat} : ll_oc T O x (d + 1) i = if T (x + i) = O i then ll_oc T O x d (i + 1) else false := rfl
theorem ll_oc_hd {T O : Nat → Int32} {x d : Nat} (h : ll_oc T O x (d + 1) 0 = true) : T x = O 0 := by
  rw [ll_oc_s] at h
  by_cases e : T (x + 0) = O 0
  · exact e
  · rw [if_neg e] at h
    exact absurd h (by decide)
theorem ll_oc_cg {T O O' : Nat → Int32} {x : Nat} : ∀ d i, (∀ j, j < i + d → O j = O' j) → ll_oc T O x d i = ll_oc T O' x d i := by
  intro d
  induction d with
  | zero => intro i h; rfl
  | succ d ih =>
    intro i h
    rw [ll_oc_s, ll_oc_s, h i (by omega), ih (i + 1) (fun j hj => h j (by omega))]
def ll_fd (T O : Nat → Int32) (l n : Nat) : Nat → Nat → Option Nat
  | 0, _ => none
  | d + 1, x => if x + l ≤ n then (if ll_oc T O x l 0 = true then some x else ll_fd T O l n d (x + 1)) else none
theorem ll_fd_u {T O : Nat → Int32} {l n d x : Nat} : ll_fd T O l n (d + 1) x = if x + l ≤ n then (if ll_oc T O x l 0 = true then some x else ll_fd T O l n d (x + 1)) else none := rfl
theorem ll_fd_s {T O : Nat → Int32} {l n : Nat} : ∀ d x q, ll_fd T O l n d x = some q → x ≤ q ∧ q + l ≤ n ∧ ll_oc T O q l 0 = true := by
  intro d
  induction d with
  | zero => intro x q h; exact absurd h (by simp [ll_fd])
  | succ d ih =>
    intro x q h
    rw [ll_fd_u] at h
    by_cases h1 : x + l ≤ n
    · rw [if_pos h1] at h
      by_cases h2 : ll_oc T O x l 0 = true
      · rw [if_pos h2] at h
        cases h
        exact ⟨Nat.le_refl _, h1, h2⟩
      · rw [if_neg h2] at h
        have := ih (x + 1) q h
        exact ⟨by omega, this.2.1, this.2.2⟩
    · rw [if_neg h1] at h
      exact absurd h (by simp)
theorem ll_fd_cg {T O O' : Nat → Int32} {l n : Nat} (hO : ∀ j, j < l → O j = O' j) : ∀ d x, ll_fd T O l n d x = ll_fd T O' l n d x := by
  intro d
  induction d with
  | zero => intro x; rfl
  | succ d ih =>
    intro x
    rw [ll_fd_u, ll_fd_u, ll_oc_cg l 0 (fun j hj => hO j (by omega)), ih]
/-- the answer of a find: -1, or base + place -/
def ll_oI (B : Nat) : Option Nat → Int32
  | none => -1
  | some q => nI (B + q)
def ll_sp (T : Nat → Int32) : Nat → Nat → Nat
  | 0, i => i
  | d + 1, i => if T i = 32 then ll_sp T d (i + 1) else i
theorem ll_sp_u {T : Nat → Int32} {d i : Nat} : ll_sp T (d + 1) i = if T i = 32 then ll_sp T d (i + 1) else i := rfl
theorem ll_sp_b {T : Nat → Int32} : ∀ d i, i ≤ ll_sp T d i ∧ ll_sp T d i ≤ i + d := by
  intro d
  induction d with
  | zero => intro i; exact ⟨Nat.le_refl _, Nat.le_refl _⟩
  | succ d ih =>
    intro i
    rw [ll_sp_u]
    have := ih (i + 1)
    split <;> omega
theorem ll_sp_a {T : Nat → Int32} : ∀ d i j, i ≤ j → j < ll_sp T d i → T j = 32 := by
  intro d
  induction d with
  | zero => intro i j h1 h2; simp only [ll_sp] at h2; omega
  | succ d ih =>
    intro i j h1 h2
    rw [ll_sp_u] at h2
    by_cases e : T i = 32
    · rw [if_pos e] at h2
      by_cases h : j = i
      · rw [h]; exact e
      · exact ih (i + 1) j (by omega) h2
    · rw [if_neg e] at h2; omega
theorem ll_sp_n {T : Nat → Int32} : ∀ d i, ll_sp T d i < i + d → T (ll_sp T d i) ≠ 32 := by
  intro d
  induction d with
  | zero => intro i h; simp only [ll_sp] at h; omega
  | succ d ih =>
    intro i h
    rw [ll_sp_u] at h ⊢
    by_cases e : T i = 32
    · rw [if_pos e] at h ⊢
      exact ih (i + 1) (by omega)
    · rw [if_neg e]; exact e
def ll_sb (T : Nat → Int32) : Nat → Nat → Nat
  | 0, j => j
  | d + 1, j => if T (j - 1) = 32 then ll_sb T d (j - 1) else j
theorem ll_sb_u {T : Nat → Int32} {d j : Nat} : ll_sb T (d + 1) j = if T (j - 1) = 32 then ll_sb T d (j - 1) else j := rfl
theorem ll_sb_b {T : Nat → Int32} : ∀ d j, d ≤ j → j - d ≤ ll_sb T d j ∧ ll_sb T d j ≤ j := by
  intro d
  induction d with
  | zero => intro j h; exact ⟨by simp only [ll_sb]; omega, Nat.le_refl _⟩
  | succ d ih =>
    intro j h
    rw [ll_sb_u]
    have := ih (j - 1) (by omega)
    split <;> omega
theorem ll_sb_a {T : Nat → Int32} : ∀ d j i, d ≤ j → ll_sb T d j ≤ i → i < j → T i = 32 := by
  intro d
  induction d with
  | zero => intro j i h h1 h2; simp only [ll_sb] at h1; omega
  | succ d ih =>
    intro j i h h1 h2
    rw [ll_sb_u] at h1
    by_cases e : T (j - 1) = 32
    · rw [if_pos e] at h1
      by_cases h3 : i = j - 1
      · rw [h3]; exact e
      · exact ih (j - 1) i (by omega) h1 (by omega)
    · rw [if_neg e] at h1; omega
theorem ll_sb_n {T : Nat → Int32} : ∀ d j, d ≤ j → j - d < ll_sb T d j → T (ll_sb T d j - 1) ≠ 32 := by
  intro d
  induction d with
  | zero => intro j h h1; simp only [ll_sb] at h1; omega
  | succ d ih =>
    intro j h h1
    rw [ll_sb_u] at h1 ⊢
    by_cases e : T (j - 1) = 32
    · rw [if_pos e] at h1 ⊢
      exact ih (j - 1) (by omega) (by omega)
    · rw [if_neg e]; exact e
/-- a mark's character -/
def ll_gd (c : Int32) : Prop := 32 < c ∧ c ≠ 61
def ll_sm (T : Nat → Int32) : Nat → Nat → Nat
  | 0, i => i
  | d + 1, i => if 32 < T i ∧ T i ≠ 61 then ll_sm T d (i + 1) else i
theorem ll_sm_u {T : Nat → Int32} {d i : Nat} : ll_sm T (d + 1) i = if 32 < T i ∧ T i ≠ 61 then ll_sm T d (i + 1) else i := rfl
theorem ll_sm_b {T : Nat → Int32} : ∀ d i, i ≤ ll_sm T d i ∧ ll_sm T d i ≤ i + d := by
  intro d
  induction d with
  | zero => intro i; exact ⟨Nat.le_refl _, Nat.le_refl _⟩
  | succ d ih =>
    intro i
    rw [ll_sm_u]
    have := ih (i + 1)
    split <;> omega
theorem ll_sm_a {T : Nat → Int32} : ∀ d i j, i ≤ j → j < ll_sm T d i → ll_gd (T j) := by
  intro d
  induction d with
  | zero => intro i j h1 h2; simp only [ll_sm] at h2; omega
  | succ d ih =>
    intro i j h1 h2
    rw [ll_sm_u] at h2
    by_cases e : 32 < T i ∧ T i ≠ 61
    · rw [if_pos e] at h2
      by_cases h : j = i
      · rw [h]; exact e
      · exact ih (i + 1) j (by omega) h2
    · rw [if_neg e] at h2; omega
theorem ll_sm_n {T : Nat → Int32} : ∀ d i, ll_sm T d i < i + d → ¬ ll_gd (T (ll_sm T d i)) := by
  intro d
  induction d with
  | zero => intro i h; simp only [ll_sm] at h; omega
  | succ d ih =>
    intro i h
    rw [ll_sm_u] at h ⊢
    by_cases e : 32 < T i ∧ T i ≠ 61
    · rw [if_pos e] at h ⊢
      exact ih (i + 1) (by omega)
    · rw [if_neg e]; exact e
/-- the only character between the spaces of lo .. hi-1, or -1 -/
def ll_of (T : Nat → Int32) (lo hi : Nat) : Nat := ll_sp T (hi - lo) lo
def ll_ol (T : Nat → Int32) (lo hi : Nat) : Nat := ll_sb T (hi - ll_of T lo hi) hi
def ll_on (T : Nat → Int32) (lo hi : Nat) : Int32 := if ll_ol T lo hi = ll_of T lo hi + 1 then T (ll_of T lo hi) else -1
theorem ll_of_b {T : Nat → Int32} {lo hi : Nat} (h : lo ≤ hi) : lo ≤ ll_of T lo hi ∧ ll_of T lo hi ≤ hi := by
  have := ll_sp_b (T := T) (hi - lo) lo
  unfold ll_of
  omega
theorem ll_ol_b {T : Nat → Int32} {lo hi : Nat} (h : lo ≤ hi) : ll_of T lo hi ≤ ll_ol T lo hi ∧ ll_ol T lo hi ≤ hi := by
  have := ll_of_b (T := T) h
  have := ll_sb_b (T := T) (hi - ll_of T lo hi) hi (by omega)
  unfold ll_ol
  omega
/-- newline searches -/
def ll_nb (T : Nat → Int32) : Nat → Nat
  | 0 => 0
  | q + 1 => if T q = 10 then q + 1 else ll_nb T q
theorem ll_nb_u {T : Nat → Int32} {q : Nat} : ll_nb T (q + 1) = if T q = 10 then q + 1 else ll_nb T q := rfl
theorem ll_nb_le {T : Nat → Int32} : ∀ q, ll_nb T q ≤ q := by
  intro q
  induction q with
  | zero => exact Nat.le_refl _
  | succ q ih => rw [ll_nb_u]; split <;> omega
theorem ll_nb_sb {T : Nat → Int32} : ∀ q, ((∀ i, ll_nb T q ≤ i → i < q → T i = 32) ↔ (ll_sb T q q = 0 ∨ T (ll_sb T q q - 1) = 10)) ∧ ((∀ i, ll_nb T q ≤ i → i < q → T i = 32) → ll_nb T q = ll_sb T q q) := by
  intro q
  induction q with
  | zero => exact ⟨⟨fun _ => Or.inl rfl, fun _ i _ h => absurd h (by omega)⟩, fun _ => rfl⟩
  | succ q ih =>
    have hq := ll_nb_le (T := T) q
    have e1 : ll_sb T (q + 1) (q + 1) = if T q = 32 then ll_sb T q q else q + 1 := rfl
    rw [e1, ll_nb_u]
    by_cases h1 : T q = 32
    · have h2 : ¬ T q = 10 := by rw [h1]; decide
      rw [if_pos h1, if_neg h2]
      have e2 : (∀ i, ll_nb T q ≤ i → i < q + 1 → T i = 32) ↔ (∀ i, ll_nb T q ≤ i → i < q → T i = 32) := by
        constructor
        · intro h i ha hb
          exact h i ha (by omega)
        · intro h i ha hb
          by_cases hi : i = q
          · rw [hi]; exact h1
          · exact h i ha (by omega)
      rw [e2]
      exact ih
    · rw [if_neg h1]
      by_cases h2 : T q = 10
      · rw [if_pos h2]
        exact ⟨⟨fun _ => Or.inr h2, fun _ i ha hb => absurd ha (by omega)⟩, fun _ => rfl⟩
      · rw [if_neg h2]
        have e3 : ¬ (∀ i, ll_nb T q ≤ i → i < q + 1 → T i = 32) := fun h => h1 (h q hq (by omega))
        refine ⟨⟨fun h => absurd h e3, fun h => ?_⟩, fun h => absurd h e3⟩
        rcases h with h | h
        · omega
        · exact absurd h h2
def ll_nf (T : Nat → Int32) : Nat → Nat → Nat
  | 0, i => i
  | d + 1, i => if T i = 10 then i else ll_nf T d (i + 1)
theorem ll_nf_u {T : Nat → Int32} {d i : Nat} : ll_nf T (d + 1) i = if T i = 10 then i else ll_nf T d (i + 1) := rfl
theorem ll_nf_b {T : Nat → Int32} : ∀ d i, i ≤ ll_nf T d i ∧ ll_nf T d i ≤ i + d := by
  intro d
  induction d with
  | zero => intro i; exact ⟨Nat.le_refl _, Nat.le_refl _⟩
  | succ d ih =>
    intro i
    rw [ll_nf_u]
    have := ih (i + 1)
    split <;> omega
theorem ll_nf_n {T : Nat → Int32} : ∀ d i, ll_nf T d i < i + d → T (ll_nf T d i) = 10 := by
  intro d
  induction d with
  | zero => intro i h; simp only [ll_nf] at h; omega
  | succ d ih =>
    intro i h
    rw [ll_nf_u] at h ⊢
    by_cases e : T i = 10
    · rw [if_pos e]; exact e
    · rw [if_neg e] at h ⊢
      exact ih (i + 1) (by omega)
theorem ll_nf_sp {T : Nat → Int32} : ∀ d e, ((∀ i, e ≤ i → i < ll_nf T d e → T i = 32) ↔ (ll_sp T d e = e + d ∨ T (ll_sp T d e) = 10)) ∧ ((∀ i, e ≤ i → i < ll_nf T d e → T i = 32) → ll_nf T d e = ll_sp T d e) := by
  intro d
  induction d with
  | zero => intro e; exact ⟨⟨fun _ => Or.inl rfl, fun _ i h1 h2 => absurd h2 (by simp only [ll_nf]; omega)⟩, fun _ => rfl⟩
  | succ d ih =>
    intro e
    rw [ll_nf_u, ll_sp_u]
    by_cases h1 : T e = 32
    · have h2 : ¬ T e = 10 := by rw [h1]; decide
      rw [if_neg h2, if_pos h1]
      have e2 : (∀ i, e ≤ i → i < ll_nf T d (e + 1) → T i = 32) ↔ (∀ i, e + 1 ≤ i → i < ll_nf T d (e + 1) → T i = 32) := by
        constructor
        · intro h i ha hb
          exact h i (by omega) hb
        · intro h i ha hb
          by_cases hi : i = e
          · rw [hi]; exact h1
          · exact h i (by omega) hb
      rw [e2, show e + (d + 1) = e + 1 + d from by omega]
      exact ih (e + 1)
    · rw [if_neg h1]
      by_cases h2 : T e = 10
      · rw [if_pos h2]
        exact ⟨⟨fun _ => Or.inr h2, fun _ i ha hb => absurd ha (by omega)⟩, fun _ => rfl⟩
      · rw [if_neg h2]
        have hb := ll_nf_b (T := T) d (e + 1)
        have e3 : ¬ (∀ i, e ≤ i → i < ll_nf T d (e + 1) → T i = 32) := fun h => h1 (h e (Nat.le_refl _) (by omega))
        refine ⟨⟨fun h => absurd h e3, fun h => ?_⟩, fun h => absurd h e3⟩
        rcases h with h | h
        · omega
        · exact absurd h h2
/-! C: a tag's content -/
def ll_da (T : Nat → Int32) (a b : Nat) : Nat := ll_sp T (b - 1 - (a + 1)) (a + 1)
def ll_dh (T : Nat → Int32) (a b : Nat) : Nat := ll_sb T (b - 1 - ll_da T a b) (b - 1)
def ll_de (T : Nat → Int32) (a b : Nat) : Nat := ll_sm T (ll_dh T a b - ll_da T a b) (ll_da T a b)
def ll_db (T : Nat → Int32) (a b : Nat) : Nat := ll_sp T (ll_dh T a b - ll_de T a b) (ll_de T a b)
theorem ll_d_b {T : Nat → Int32} {a b : Nat} (h : a + 3 ≤ b) : a + 1 ≤ ll_da T a b ∧ ll_da T a b ≤ ll_de T a b ∧ ll_de T a b ≤ ll_db T a b ∧ ll_db T a b ≤ ll_dh T a b ∧ ll_dh T a b ≤ b - 1 := by
  have h1 := ll_sp_b (T := T) (b - 1 - (a + 1)) (a + 1)
  have h1' : a + 1 ≤ ll_da T a b ∧ ll_da T a b ≤ b - 1 := by unfold ll_da; omega
  have h2 := ll_sb_b (T := T) (b - 1 - ll_da T a b) (b - 1) (by omega)
  have h2' : ll_da T a b ≤ ll_dh T a b ∧ ll_dh T a b ≤ b - 1 := by unfold ll_dh; omega
  have h3 := ll_sm_b (T := T) (ll_dh T a b - ll_da T a b) (ll_da T a b)
  have h3' : ll_da T a b ≤ ll_de T a b ∧ ll_de T a b ≤ ll_dh T a b := by unfold ll_de; omega
  have h4 := ll_sp_b (T := T) (ll_dh T a b - ll_de T a b) (ll_de T a b)
  have h4' : ll_de T a b ≤ ll_db T a b ∧ ll_db T a b ≤ ll_dh T a b := by unfold ll_db; omega
  omega
/-- the set-delimiter content of a .. b-1 keeps its rule -/
def ll_dok (T : Nat → Int32) (a b : Nat) : Prop := a + 3 ≤ b ∧ T (b - 1) = 61 ∧ ll_sm T (ll_dh T a b - ll_db T a b) (ll_db T a b) = ll_dh T a b ∧ (ll_da T a b + 1 ≤ ll_de T a b ∧ ll_de T a b ≤ ll_da T a b + 3) ∧ (ll_db T a b + 1 ≤ ll_dh T a b ∧ ll_dh T a b ≤ ll_db T a b + 3)
def ll_kc (c : Int32) : Nat := if c = 33 then 4 else if c = 61 then 5 else if c = 35 then 6 else if c = 94 then 7 else if c = 47 then 8 else if c = 38 then 3 else if c = 62 then 9 else 2
/-- the kind of the tag with content a .. b-1, as X numbers kinds -/
def ll_kd (T : Nat → Int32) (a b : Nat) : Nat := if a < b then ll_kc (T a) else 2
def ll_nm (c : Int32) : Prop := c = 46 ∨ (97 ≤ c ∧ c ≤ 122)
/-- the name of the tag -/
def ll_na (T : Nat → Int32) (a b : Nat) : Int32 := ll_on T (if ll_kd T a b = 2 then a else a + 1) b
/-- the content keeps its rule -/
def ll_ok (T : Nat → Int32) (a b : Nat) : Prop :=
  if ll_kd T a b = 4 then True else if ll_kd T a b = 5 then ll_dok T a b else if ll_kd T a b = 9 then (49 ≤ ll_na T a b ∧ ll_na T a b ≤ 51) else ll_nm (ll_na T a b)
theorem ll_kc_b (c : Int32) : 2 ≤ ll_kc c ∧ ll_kc c ≤ 9 := by
  unfold ll_kc
  repeat' split
  all_goals omega
theorem ll_kd_b (T : Nat → Int32) (a b : Nat) : 2 ≤ ll_kd T a b ∧ ll_kd T a b ≤ 9 := by
  unfold ll_kd
  split
  · exact ll_kc_b _
  · omega
/-- X's kind as Y's type -/
def ll_ty (k : Nat) : Nat := if k = 4 then 2 else if k = 5 then 3 else if k = 2 then 4 else if k = 3 then 5 else k
/-! D: a number's digits -/
def ll_it (m : Int32) : Nat → Int32
  | 0 => m
  | k + 1 => ll_it m k / 10
theorem ll_it_u {m : Int32} {k : Nat} : ll_it m (k + 1) = ll_it m k / 10 := rfl
theorem ll_10 : (10 : Int32).toInt = 10 := by decide
theorem ll_dv (x : Int32) : (x / 10).toInt = x.toInt.tdiv 10 := by
  rw [Jvm.Kit.i32_div (by rw [ll_10]; omega), ll_10]
theorem ll_it_abs (m : Int32) : ∀ k, (ll_it m k).toInt.natAbs ≤ 2 ^ 31 / 10 ^ k := by
  intro k
  induction k with
  | zero =>
    have h1 := m.le_toInt
    have h2 := m.toInt_lt
    simp only [ll_it, Nat.pow_zero, Nat.div_one]
    omega
  | succ k ih =>
    have e : 2 ^ 31 / 10 ^ (k + 1) = 2 ^ 31 / 10 ^ k / 10 := by
      rw [Nat.div_div_eq_div_mul]
      rfl
    rw [ll_it_u, ll_dv, Int.natAbs_tdiv, e]
    exact Nat.div_le_div_right ih
theorem ll_it_10 (m : Int32) : ll_it m 10 = 0 := by
  have h := ll_it_abs m 10
  apply Int32.toInt_inj.mp
  have e : (2 ^ 31 / 10 ^ 10 : Nat) = 0 := by decide
  rw [e] at h
  have e2 : (0 : Int32).toInt = 0 := by decide
  rw [e2]
  omega
theorem ll_it_neg {m : Int32} (h : m.toInt ≤ 0) : ∀ k, (ll_it m k).toInt ≤ 0 := by
  intro k
  induction k with
  | zero => exact h
  | succ k ih =>
    rw [ll_it_u, ll_dv]
    have : (ll_it m k).toInt.tdiv 10 = -((-(ll_it m k).toInt).tdiv 10) := by rw [Int.neg_tdiv, Int.neg_neg]
    rw [this, Int.tdiv_eq_ediv_of_nonneg (by omega)]
    omega
/-- the digit of weight 10^k, as a character -/
def ll_dg (m : Int32) (k : Nat) : Int32 := 48 - (ll_it m k - ll_it m k / 10 * 10)
theorem ll_dg_r {m : Int32} (h : m.toInt ≤ 0) (k : Nat) : 48 ≤ (ll_dg m k).toInt ∧ (ll_dg m k).toInt ≤ 57 := by
  have h1 := ll_it_neg h k
  have h2 := rem_toInt (ll_it m k) 10
  rw [ll_10] at h2
  have h3 := tmod_bounds (a := (ll_it m k).toInt) (M := 10) (by omega)
  have h4 : (ll_it m k).toInt.tmod 10 ≤ 0 := by
    have : (ll_it m k).toInt.tmod 10 = -((-(ll_it m k).toInt).tmod 10) := by rw [Int.neg_tmod, Int.neg_neg]
    rw [this, Int.tmod_eq_emod_of_nonneg (by omega)]
    omega
  have e48 : (48 : Int32).toInt = 48 := by decide
  unfold ll_dg
  rw [Int32.toInt_sub, h2, e48, Int.bmod_eq_of_le (by omega) (by omega)]
  omega
end LLP
